section
-- ===== PART A: goes FIRST, ahead of the names: the tables' words, and 'selects' of the private methods out of them =====
/-- a private method of a class that the tables say can be made, by its rows of tables_1 -/
def lw_okq (q : MethodName × Nat) : Prop := (q.1.cls ≠ "java/lang/invoke/MethodHandle" ∧ q.1.cls ≠ "java/lang/invoke/VarHandle") ∧ Cond.instantiable q.1.cls q.2 ∈ tables_1 ∧ Cond.privateMethod q.1 ∈ tables_1 ∧ Cond.instanceMethod q.1 ∈ tables_1
theorem lw_p0 : lw_okq (⟨"EthernetGates", "findPort", "(I)LEthernetGates$Port;"⟩, 11) := ⟨⟨by decide +kernel, by decide +kernel⟩, List.mem_of_getElem? (i := 22) (by decide +kernel), List.mem_of_getElem? (i := 181) (by decide +kernel), List.mem_of_getElem? (i := 182) (by decide +kernel)⟩
theorem lw_p1 : lw_okq (⟨"EthernetGates$Port", "isSending", "()Z"⟩, 9) := ⟨⟨by decide +kernel, by decide +kernel⟩, List.mem_of_getElem? (i := 31) (by decide +kernel), List.mem_of_getElem? (i := 186) (by decide +kernel), List.mem_of_getElem? (i := 187) (by decide +kernel)⟩
theorem lw_p2 : lw_okq (⟨"EthernetGates$Port", "loseFrames", "()I"⟩, 9) := ⟨⟨by decide +kernel, by decide +kernel⟩, List.mem_of_getElem? (i := 31) (by decide +kernel), List.mem_of_getElem? (i := 190) (by decide +kernel), List.mem_of_getElem? (i := 191) (by decide +kernel)⟩
theorem lw_p3 : lw_okq (⟨"EthernetGates$PortRank", "addWindow", "(JJ)Z"⟩, 10) := ⟨⟨by decide +kernel, by decide +kernel⟩, List.mem_of_getElem? (i := 38) (by decide +kernel), List.mem_of_getElem? (i := 202) (by decide +kernel), List.mem_of_getElem? (i := 203) (by decide +kernel)⟩
theorem lw_p4 : lw_okq (⟨"EthernetGates", "addressOf", "(I)LEthernetGates$Address;"⟩, 11) := ⟨⟨by decide +kernel, by decide +kernel⟩, List.mem_of_getElem? (i := 22) (by decide +kernel), List.mem_of_getElem? (i := 216) (by decide +kernel), List.mem_of_getElem? (i := 217) (by decide +kernel)⟩
theorem lw_p5 : lw_okq (⟨"EthernetGates$Stream", "takesOne", "(J)Z"⟩, 3) := ⟨⟨by decide +kernel, by decide +kernel⟩, List.mem_of_getElem? (i := 226) (by decide +kernel), List.mem_of_getElem? (i := 257) (by decide +kernel), List.mem_of_getElem? (i := 258) (by decide +kernel)⟩
theorem lw_p6 : lw_okq (⟨"EthernetGates$Stream", "takenAt", "(J)I"⟩, 3) := ⟨⟨by decide +kernel, by decide +kernel⟩, List.mem_of_getElem? (i := 226) (by decide +kernel), List.mem_of_getElem? (i := 261) (by decide +kernel), List.mem_of_getElem? (i := 262) (by decide +kernel)⟩
theorem lw_p7 : lw_okq (⟨"EthernetGates$Address", "portAt", "(J)I"⟩, 3) := ⟨⟨by decide +kernel, by decide +kernel⟩, List.mem_of_getElem? (i := 219) (by decide +kernel), List.mem_of_getElem? (i := 266) (by decide +kernel), List.mem_of_getElem? (i := 267) (by decide +kernel)⟩
theorem lw_p8 : lw_okq (⟨"EthernetGates$Address", "isFixed", "()Z"⟩, 3) := ⟨⟨by decide +kernel, by decide +kernel⟩, List.mem_of_getElem? (i := 219) (by decide +kernel), List.mem_of_getElem? (i := 270) (by decide +kernel), List.mem_of_getElem? (i := 271) (by decide +kernel)⟩
theorem lw_p9 : lw_okq (⟨"EthernetGates", "queueCopies", "(LEthernetGates$Port;III)I"⟩, 11) := ⟨⟨by decide +kernel, by decide +kernel⟩, List.mem_of_getElem? (i := 22) (by decide +kernel), List.mem_of_getElem? (i := 276) (by decide +kernel), List.mem_of_getElem? (i := 277) (by decide +kernel)⟩
theorem lw_p10 : lw_okq (⟨"EthernetGates$Port", "queue", "(III)Z"⟩, 9) := ⟨⟨by decide +kernel, by decide +kernel⟩, List.mem_of_getElem? (i := 31) (by decide +kernel), List.mem_of_getElem? (i := 280) (by decide +kernel), List.mem_of_getElem? (i := 281) (by decide +kernel)⟩
theorem lw_p11 : lw_okq (⟨"EthernetGates$PortRank", "add", "(II)Z"⟩, 10) := ⟨⟨by decide +kernel, by decide +kernel⟩, List.mem_of_getElem? (i := 38) (by decide +kernel), List.mem_of_getElem? (i := 284) (by decide +kernel), List.mem_of_getElem? (i := 285) (by decide +kernel)⟩
theorem lw_p12 : lw_okq (⟨"EthernetGates", "endSendings", "()V"⟩, 11) := ⟨⟨by decide +kernel, by decide +kernel⟩, List.mem_of_getElem? (i := 22) (by decide +kernel), List.mem_of_getElem? (i := 293) (by decide +kernel), List.mem_of_getElem? (i := 294) (by decide +kernel)⟩
theorem lw_p13 : lw_okq (⟨"java/util/ArrayList", "add", "(Ljava/lang/Object;[Ljava/lang/Object;I)V"⟩, 3) := ⟨⟨by decide +kernel, by decide +kernel⟩, List.mem_of_getElem? (i := 116) (by decide +kernel), List.mem_of_getElem? (i := 328) (by decide +kernel), List.mem_of_getElem? (i := 329) (by decide +kernel)⟩
theorem lw_p14 : lw_okq (⟨"java/util/ArrayList", "grow", "()[Ljava/lang/Object;"⟩, 3) := ⟨⟨by decide +kernel, by decide +kernel⟩, List.mem_of_getElem? (i := 116) (by decide +kernel), List.mem_of_getElem? (i := 332) (by decide +kernel), List.mem_of_getElem? (i := 333) (by decide +kernel)⟩
theorem lw_p15 : lw_okq (⟨"java/util/ArrayList", "grow", "(I)[Ljava/lang/Object;"⟩, 3) := ⟨⟨by decide +kernel, by decide +kernel⟩, List.mem_of_getElem? (i := 116) (by decide +kernel), List.mem_of_getElem? (i := 336) (by decide +kernel), List.mem_of_getElem? (i := 337) (by decide +kernel)⟩
def lw_privs_1 : List (MethodName × Nat) := [(⟨"EthernetGates", "findPort", "(I)LEthernetGates$Port;"⟩, 11), (⟨"EthernetGates$Port", "isSending", "()Z"⟩, 9), (⟨"EthernetGates$Port", "loseFrames", "()I"⟩, 9), (⟨"EthernetGates$PortRank", "addWindow", "(JJ)Z"⟩, 10), (⟨"EthernetGates", "addressOf", "(I)LEthernetGates$Address;"⟩, 11), (⟨"EthernetGates$Stream", "takesOne", "(J)Z"⟩, 3), (⟨"EthernetGates$Stream", "takenAt", "(J)I"⟩, 3), (⟨"EthernetGates$Address", "portAt", "(J)I"⟩, 3), (⟨"EthernetGates$Address", "isFixed", "()Z"⟩, 3), (⟨"EthernetGates", "queueCopies", "(LEthernetGates$Port;III)I"⟩, 11), (⟨"EthernetGates$Port", "queue", "(III)Z"⟩, 9), (⟨"EthernetGates$PortRank", "add", "(II)Z"⟩, 10), (⟨"EthernetGates", "endSendings", "()V"⟩, 11), (⟨"java/util/ArrayList", "add", "(Ljava/lang/Object;[Ljava/lang/Object;I)V"⟩, 3), (⟨"java/util/ArrayList", "grow", "()[Ljava/lang/Object;"⟩, 3), (⟨"java/util/ArrayList", "grow", "(I)[Ljava/lang/Object;"⟩, 3)]
theorem lw_r1 : ∀ q ∈ lw_privs_1, lw_okq q := List.forall_mem_cons.mpr ⟨lw_p0, List.forall_mem_cons.mpr ⟨lw_p1, List.forall_mem_cons.mpr ⟨lw_p2, List.forall_mem_cons.mpr ⟨lw_p3, List.forall_mem_cons.mpr ⟨lw_p4, List.forall_mem_cons.mpr ⟨lw_p5, List.forall_mem_cons.mpr ⟨lw_p6, List.forall_mem_cons.mpr ⟨lw_p7, List.forall_mem_cons.mpr ⟨lw_p8, List.forall_mem_cons.mpr ⟨lw_p9, List.forall_mem_cons.mpr ⟨lw_p10, List.forall_mem_cons.mpr ⟨lw_p11, List.forall_mem_cons.mpr ⟨lw_p12, List.forall_mem_cons.mpr ⟨lw_p13, List.forall_mem_cons.mpr ⟨lw_p14, List.forall_mem_cons.mpr ⟨lw_p15, fun _ h => absurd h List.not_mem_nil⟩⟩⟩⟩⟩⟩⟩⟩⟩⟩⟩⟩⟩⟩⟩⟩
theorem lw_p16 : lw_okq (⟨"EthernetGates", "beginSendings", "()V"⟩, 11) := ⟨⟨by decide +kernel, by decide +kernel⟩, List.mem_of_getElem? (i := 22) (by decide +kernel), List.mem_of_getElem? (i := 380) (by decide +kernel), List.mem_of_getElem? (i := 381) (by decide +kernel)⟩
theorem lw_p17 : lw_okq (⟨"EthernetGates$Port", "beginNext", "(JJ)V"⟩, 9) := ⟨⟨by decide +kernel, by decide +kernel⟩, List.mem_of_getElem? (i := 31) (by decide +kernel), List.mem_of_getElem? (i := 384) (by decide +kernel), List.mem_of_getElem? (i := 385) (by decide +kernel)⟩
theorem lw_p18 : lw_okq (⟨"EthernetGates$PortRank", "firstBits", "()I"⟩, 10) := ⟨⟨by decide +kernel, by decide +kernel⟩, List.mem_of_getElem? (i := 38) (by decide +kernel), List.mem_of_getElem? (i := 388) (by decide +kernel), List.mem_of_getElem? (i := 389) (by decide +kernel)⟩
theorem lw_p19 : lw_okq (⟨"EthernetGates$PortRank", "letsBegin", "(JJ)Z"⟩, 10) := ⟨⟨by decide +kernel, by decide +kernel⟩, List.mem_of_getElem? (i := 38) (by decide +kernel), List.mem_of_getElem? (i := 392) (by decide +kernel), List.mem_of_getElem? (i := 393) (by decide +kernel)⟩
theorem lw_p20 : lw_okq (⟨"EthernetGates$PortRank", "isShaped", "()Z"⟩, 10) := ⟨⟨by decide +kernel, by decide +kernel⟩, List.mem_of_getElem? (i := 38) (by decide +kernel), List.mem_of_getElem? (i := 396) (by decide +kernel), List.mem_of_getElem? (i := 397) (by decide +kernel)⟩
theorem lw_p21 : lw_okq (⟨"EthernetGates$PortRank", "isOpenFor", "(JJ)Z"⟩, 10) := ⟨⟨by decide +kernel, by decide +kernel⟩, List.mem_of_getElem? (i := 38) (by decide +kernel), List.mem_of_getElem? (i := 400) (by decide +kernel), List.mem_of_getElem? (i := 401) (by decide +kernel)⟩
theorem lw_p22 : lw_okq (⟨"EthernetGates$PortRank", "removeFirst", "()I"⟩, 10) := ⟨⟨by decide +kernel, by decide +kernel⟩, List.mem_of_getElem? (i := 38) (by decide +kernel), List.mem_of_getElem? (i := 404) (by decide +kernel), List.mem_of_getElem? (i := 405) (by decide +kernel)⟩
theorem lw_p23 : lw_okq (⟨"EthernetGates", "ticksUntilChange", "()J"⟩, 11) := ⟨⟨by decide +kernel, by decide +kernel⟩, List.mem_of_getElem? (i := 22) (by decide +kernel), List.mem_of_getElem? (i := 408) (by decide +kernel), List.mem_of_getElem? (i := 409) (by decide +kernel)⟩
theorem lw_p24 : lw_okq (⟨"EthernetGates$Port", "ticksUntilChange", "(J)J"⟩, 9) := ⟨⟨by decide +kernel, by decide +kernel⟩, List.mem_of_getElem? (i := 31) (by decide +kernel), List.mem_of_getElem? (i := 412) (by decide +kernel), List.mem_of_getElem? (i := 413) (by decide +kernel)⟩
theorem lw_p25 : lw_okq (⟨"EthernetGates", "moveCredits", "(J)V"⟩, 11) := ⟨⟨by decide +kernel, by decide +kernel⟩, List.mem_of_getElem? (i := 22) (by decide +kernel), List.mem_of_getElem? (i := 420) (by decide +kernel), List.mem_of_getElem? (i := 421) (by decide +kernel)⟩
theorem lw_p26 : lw_okq (⟨"EthernetGates$Port", "moveCredits", "(J)V"⟩, 9) := ⟨⟨by decide +kernel, by decide +kernel⟩, List.mem_of_getElem? (i := 31) (by decide +kernel), List.mem_of_getElem? (i := 424) (by decide +kernel), List.mem_of_getElem? (i := 425) (by decide +kernel)⟩
theorem lw_p27 : lw_okq (⟨"EthernetGates$PortRank", "moveCredit", "(JJ)V"⟩, 10) := ⟨⟨by decide +kernel, by decide +kernel⟩, List.mem_of_getElem? (i := 38) (by decide +kernel), List.mem_of_getElem? (i := 429) (by decide +kernel), List.mem_of_getElem? (i := 430) (by decide +kernel)⟩
theorem lw_p28 : lw_okq (⟨"EthernetGates$PortRank", "shape", "(JJ)V"⟩, 10) := ⟨⟨by decide +kernel, by decide +kernel⟩, List.mem_of_getElem? (i := 38) (by decide +kernel), List.mem_of_getElem? (i := 462) (by decide +kernel), List.mem_of_getElem? (i := 463) (by decide +kernel)⟩
theorem lw_p29 : lw_okq (⟨"EthernetGates", "offererOf", "(I)I"⟩, 11) := ⟨⟨by decide +kernel, by decide +kernel⟩, List.mem_of_getElem? (i := 22) (by decide +kernel), List.mem_of_getElem? (i := 486) (by decide +kernel), List.mem_of_getElem? (i := 487) (by decide +kernel)⟩
theorem lw_p30 : lw_okq (⟨"java/lang/Throwable", "fillInStackTrace", "(I)Ljava/lang/Throwable;"⟩, 6) := ⟨⟨by decide +kernel, by decide +kernel⟩, List.mem_of_getElem? (i := 540) (by decide +kernel), List.mem_of_getElem? (i := 538) (by decide +kernel), List.mem_of_getElem? (i := 539) (by decide +kernel)⟩
theorem lw_p31 : lw_okq (⟨"EthernetGatesModel", "none", "(I)Z"⟩, 31) := ⟨⟨by decide +kernel, by decide +kernel⟩, List.mem_of_getElem? (i := 570) (by decide +kernel), List.mem_of_getElem? (i := 679) (by decide +kernel), List.mem_of_getElem? (i := 680) (by decide +kernel)⟩
def lw_privs_2 : List (MethodName × Nat) := [(⟨"EthernetGates", "beginSendings", "()V"⟩, 11), (⟨"EthernetGates$Port", "beginNext", "(JJ)V"⟩, 9), (⟨"EthernetGates$PortRank", "firstBits", "()I"⟩, 10), (⟨"EthernetGates$PortRank", "letsBegin", "(JJ)Z"⟩, 10), (⟨"EthernetGates$PortRank", "isShaped", "()Z"⟩, 10), (⟨"EthernetGates$PortRank", "isOpenFor", "(JJ)Z"⟩, 10), (⟨"EthernetGates$PortRank", "removeFirst", "()I"⟩, 10), (⟨"EthernetGates", "ticksUntilChange", "()J"⟩, 11), (⟨"EthernetGates$Port", "ticksUntilChange", "(J)J"⟩, 9), (⟨"EthernetGates", "moveCredits", "(J)V"⟩, 11), (⟨"EthernetGates$Port", "moveCredits", "(J)V"⟩, 9), (⟨"EthernetGates$PortRank", "moveCredit", "(JJ)V"⟩, 10), (⟨"EthernetGates$PortRank", "shape", "(JJ)V"⟩, 10), (⟨"EthernetGates", "offererOf", "(I)I"⟩, 11), (⟨"java/lang/Throwable", "fillInStackTrace", "(I)Ljava/lang/Throwable;"⟩, 6), (⟨"EthernetGatesModel", "none", "(I)Z"⟩, 31)]
theorem lw_r2 : ∀ q ∈ lw_privs_2, lw_okq q := List.forall_mem_cons.mpr ⟨lw_p16, List.forall_mem_cons.mpr ⟨lw_p17, List.forall_mem_cons.mpr ⟨lw_p18, List.forall_mem_cons.mpr ⟨lw_p19, List.forall_mem_cons.mpr ⟨lw_p20, List.forall_mem_cons.mpr ⟨lw_p21, List.forall_mem_cons.mpr ⟨lw_p22, List.forall_mem_cons.mpr ⟨lw_p23, List.forall_mem_cons.mpr ⟨lw_p24, List.forall_mem_cons.mpr ⟨lw_p25, List.forall_mem_cons.mpr ⟨lw_p26, List.forall_mem_cons.mpr ⟨lw_p27, List.forall_mem_cons.mpr ⟨lw_p28, List.forall_mem_cons.mpr ⟨lw_p29, List.forall_mem_cons.mpr ⟨lw_p30, List.forall_mem_cons.mpr ⟨lw_p31, fun _ h => absurd h List.not_mem_nil⟩⟩⟩⟩⟩⟩⟩⟩⟩⟩⟩⟩⟩⟩⟩⟩
theorem lw_p32 : lw_okq (⟨"EthernetGatesModel", "noRank", "(II)Z"⟩, 31) := ⟨⟨by decide +kernel, by decide +kernel⟩, List.mem_of_getElem? (i := 570) (by decide +kernel), List.mem_of_getElem? (i := 688) (by decide +kernel), List.mem_of_getElem? (i := 689) (by decide +kernel)⟩
theorem lw_p33 : lw_okq (⟨"EthernetGatesModel", "isAt", "(I)Z"⟩, 31) := ⟨⟨by decide +kernel, by decide +kernel⟩, List.mem_of_getElem? (i := 570) (by decide +kernel), List.mem_of_getElem? (i := 702) (by decide +kernel), List.mem_of_getElem? (i := 703) (by decide +kernel)⟩
theorem lw_p34 : lw_okq (⟨"EthernetGatesModel", "look", "(I)V"⟩, 31) := ⟨⟨by decide +kernel, by decide +kernel⟩, List.mem_of_getElem? (i := 570) (by decide +kernel), List.mem_of_getElem? (i := 715) (by decide +kernel), List.mem_of_getElem? (i := 716) (by decide +kernel)⟩
theorem lw_p35 : lw_okq (⟨"EthernetGatesModel", "enter", "(III)I"⟩, 31) := ⟨⟨by decide +kernel, by decide +kernel⟩, List.mem_of_getElem? (i := 570) (by decide +kernel), List.mem_of_getElem? (i := 733) (by decide +kernel), List.mem_of_getElem? (i := 734) (by decide +kernel)⟩
theorem lw_p36 : lw_okq (⟨"EthernetGatesModel", "tick", "()V"⟩, 31) := ⟨⟨by decide +kernel, by decide +kernel⟩, List.mem_of_getElem? (i := 570) (by decide +kernel), List.mem_of_getElem? (i := 742) (by decide +kernel), List.mem_of_getElem? (i := 743) (by decide +kernel)⟩
theorem lw_p37 : lw_okq (⟨"EthernetGatesModel", "may", "(II)Z"⟩, 31) := ⟨⟨by decide +kernel, by decide +kernel⟩, List.mem_of_getElem? (i := 570) (by decide +kernel), List.mem_of_getElem? (i := 746) (by decide +kernel), List.mem_of_getElem? (i := 747) (by decide +kernel)⟩
theorem lw_p38 : lw_okq (⟨"EthernetGatesModel", "time", "(II)J"⟩, 31) := ⟨⟨by decide +kernel, by decide +kernel⟩, List.mem_of_getElem? (i := 570) (by decide +kernel), List.mem_of_getElem? (i := 750) (by decide +kernel), List.mem_of_getElem? (i := 751) (by decide +kernel)⟩
theorem lw_p39 : lw_okq (⟨"EthernetGatesModel", "open", "(IJJ)Z"⟩, 31) := ⟨⟨by decide +kernel, by decide +kernel⟩, List.mem_of_getElem? (i := 570) (by decide +kernel), List.mem_of_getElem? (i := 756) (by decide +kernel), List.mem_of_getElem? (i := 757) (by decide +kernel)⟩
theorem lw_p40 : lw_okq (⟨"EthernetGatesModel", "begin", "(II)V"⟩, 31) := ⟨⟨by decide +kernel, by decide +kernel⟩, List.mem_of_getElem? (i := 570) (by decide +kernel), List.mem_of_getElem? (i := 760) (by decide +kernel), List.mem_of_getElem? (i := 761) (by decide +kernel)⟩
def lw_privs_3 : List (MethodName × Nat) := [(⟨"EthernetGatesModel", "noRank", "(II)Z"⟩, 31), (⟨"EthernetGatesModel", "isAt", "(I)Z"⟩, 31), (⟨"EthernetGatesModel", "look", "(I)V"⟩, 31), (⟨"EthernetGatesModel", "enter", "(III)I"⟩, 31), (⟨"EthernetGatesModel", "tick", "()V"⟩, 31), (⟨"EthernetGatesModel", "may", "(II)Z"⟩, 31), (⟨"EthernetGatesModel", "time", "(II)J"⟩, 31), (⟨"EthernetGatesModel", "open", "(IJJ)Z"⟩, 31), (⟨"EthernetGatesModel", "begin", "(II)V"⟩, 31)]
theorem lw_r3 : ∀ q ∈ lw_privs_3, lw_okq q := List.forall_mem_cons.mpr ⟨lw_p32, List.forall_mem_cons.mpr ⟨lw_p33, List.forall_mem_cons.mpr ⟨lw_p34, List.forall_mem_cons.mpr ⟨lw_p35, List.forall_mem_cons.mpr ⟨lw_p36, List.forall_mem_cons.mpr ⟨lw_p37, List.forall_mem_cons.mpr ⟨lw_p38, List.forall_mem_cons.mpr ⟨lw_p39, List.forall_mem_cons.mpr ⟨lw_p40, fun _ h => absurd h List.not_mem_nil⟩⟩⟩⟩⟩⟩⟩⟩⟩
def lw_privs : List (MethodName × Nat) := lw_privs_1 ++ (lw_privs_2 ++ (lw_privs_3))
def lw_tbl : List Cond := k2_sels lw_privs ++ tables_1
theorem lw_privs_ok : ∀ q ∈ lw_privs, lw_okq q := by
  show ∀ q ∈ lw_privs_1 ++ (lw_privs_2 ++ (lw_privs_3)), lw_okq q
  exact List.forall_mem_append.mpr ⟨lw_r1, List.forall_mem_append.mpr ⟨lw_r2, lw_r3⟩⟩
end
section
/-! TABLES of the abstract machine, written by program out of the Statement -/
def am_host : String := "EthernetGates"
def am_R0 : String := "EthernetGates"
def am_F0 : u_T := fun k => match k with
  | 0 => ("EthernetGates", "ports", "[LEthernetGates$Port;", true)
  | 1 => ("EthernetGates", "addresses", "[LEthernetGates$Address;", true)
  | 2 => ("EthernetGates", "departures", "Ljava/util/ArrayList;", true)
  | 3 => ("EthernetGates", "drops", "[I", true)
  | 4 => ("EthernetGates", "offerers", "[I", true)
  | 5 => ("EthernetGates", "offeredUntil", "[J", true)
  | 6 => ("EthernetGates", "now", "J", false)
  | 7 => ("EthernetGates", "cycleLength", "J", false)
  | 8 => ("EthernetGates", "lastWindowEnd", "J", false)
  | 9 => ("EthernetGates", "frames", "I", false)
  | _ => ("EthernetGates", "departed", "I", false)
def am_R1 : String := "EthernetGates$Port"
def am_F1 : u_T := fun k => match k with
  | 0 => ("EthernetGates$Port", "number", "I", true)
  | 1 => ("EthernetGates$Port", "ranks", "[LEthernetGates$PortRank;", true)
  | 2 => ("EthernetGates$Port", "speed", "J", false)
  | 3 => ("EthernetGates$Port", "offset", "J", false)
  | 4 => ("EthernetGates$Port", "waiting", "I", false)
  | 5 => ("EthernetGates$Port", "sentFrame", "I", false)
  | 6 => ("EthernetGates$Port", "sentRank", "I", false)
  | 7 => ("EthernetGates$Port", "sendBegin", "J", false)
  | _ => ("EthernetGates$Port", "sendEnd", "J", false)
def am_R2 : String := "EthernetGates$PortRank"
def am_F2 : u_T := fun k => match k with
  | 0 => ("EthernetGates$PortRank", "queuedFrames", "[I", true)
  | 1 => ("EthernetGates$PortRank", "queuedLengths", "[I", true)
  | 2 => ("EthernetGates$PortRank", "first", "I", false)
  | 3 => ("EthernetGates$PortRank", "waiting", "I", false)
  | 4 => ("EthernetGates$PortRank", "windowFrom", "[J", true)
  | 5 => ("EthernetGates$PortRank", "windowTo", "[J", true)
  | 6 => ("EthernetGates$PortRank", "windows", "I", false)
  | 7 => ("EthernetGates$PortRank", "up", "J", false)
  | 8 => ("EthernetGates$PortRank", "down", "J", false)
  | _ => ("EthernetGates$PortRank", "creditParts", "J", false)
def am_R3 : String := "EthernetGates$Address"
def am_F3 : u_T := fun k => match k with
  | 0 => ("EthernetGates$Address", "streams", "[LEthernetGates$Stream;", true)
  | 1 => ("EthernetGates$Address", "port", "I", false)
  | _ => ("EthernetGates$Address", "since", "J", false)
def am_R4 : String := "EthernetGates$Stream"
def am_F4 : u_T := fun k => match k with
  | 0 => ("EthernetGates$Stream", "rate", "J", false)
  | 1 => ("EthernetGates$Stream", "thousand", "J", false)
  | _ => ("EthernetGates$Stream", "taken", "I", false)
def am_R5 : String := "EthernetGates$Departure"
def am_F5 : u_T := fun k => match k with
  | 0 => ("EthernetGates$Departure", "frame", "I", true)
  | 1 => ("EthernetGates$Departure", "port", "I", true)
  | 2 => ("EthernetGates$Departure", "begin", "J", true)
  | _ => ("EthernetGates$Departure", "end", "J", true)
def am_R6 : String := "java/util/ArrayList"
def am_F6 : u_T := fun k => match k with
  | 0 => ("java/util/ArrayList", "elementData", "[Ljava/lang/Object;", false)
  | 1 => ("java/util/ArrayList", "size", "I", false)
  | _ => ("java/util/AbstractList", "modCount", "I", false)
def am_R7 : String := "EthernetGatesModel"
def am_F7 : u_T := fun k => match k with
  | 0 => ("EthernetGatesModel", "code", "I", false)
  | 1 => ("EthernetGatesModel", "ports", "I", true)
  | 2 => ("EthernetGatesModel", "cycle", "J", false)
  | 3 => ("EthernetGatesModel", "now", "J", false)
  | 4 => ("EthernetGatesModel", "speed", "[J", true)
  | 5 => ("EthernetGatesModel", "offset", "[J", true)
  | 6 => ("EthernetGatesModel", "sends", "[I", true)
  | 7 => ("EthernetGatesModel", "sentRank", "[I", true)
  | 8 => ("EthernetGatesModel", "began", "[J", true)
  | 9 => ("EthernetGatesModel", "ends", "[J", true)
  | 10 => ("EthernetGatesModel", "size", "[I", true)
  | 11 => ("EthernetGatesModel", "queue", "[I", true)
  | 12 => ("EthernetGatesModel", "windows", "[I", true)
  | 13 => ("EthernetGatesModel", "from", "[J", true)
  | 14 => ("EthernetGatesModel", "to", "[J", true)
  | 15 => ("EthernetGatesModel", "up", "[J", true)
  | 16 => ("EthernetGatesModel", "down", "[J", true)
  | 17 => ("EthernetGatesModel", "credit", "[J", true)
  | 18 => ("EthernetGatesModel", "frames", "I", false)
  | 19 => ("EthernetGatesModel", "length", "[I", true)
  | 20 => ("EthernetGatesModel", "place", "[I", true)
  | 21 => ("EthernetGatesModel", "since", "[J", true)
  | 22 => ("EthernetGatesModel", "rate", "[J", true)
  | 23 => ("EthernetGatesModel", "thousand", "[J", true)
  | 24 => ("EthernetGatesModel", "taken", "[I", true)
  | 25 => ("EthernetGatesModel", "offered", "[I", true)
  | 26 => ("EthernetGatesModel", "until", "[J", true)
  | 27 => ("EthernetGatesModel", "leftAll", "I", false)
  | 28 => ("EthernetGatesModel", "leftKept", "I", false)
  | 29 => ("EthernetGatesModel", "left", "[I", true)
  | _ => ("EthernetGatesModel", "dropped", "[I", true)
def am_cl : List vw_C := [(am_R0, am_F0, 11), (am_R1, am_F1, 9), (am_R2, am_F2, 10), (am_R3, am_F3, 3), (am_R4, am_F4, 3), (am_R5, am_F5, 4), (am_R6, am_F6, 3), (am_R7, am_F7, 31)]
def am_rn : List String := ["EthernetGates$Port", "EthernetGates$PortRank", "EthernetGates$Address", "EthernetGates$Stream", "java/lang/Object"]
def am_rc : List Nat := [0, 1, 2, 3, 4]
def am_Tf : List Cond := [(Cond.fieldLink "EthernetGates$PortRank" (9 : Nat) "EthernetGates$PortRank" "queuedFrames" "[I"),
  (Cond.fieldLink "EthernetGates$PortRank" (15 : Nat) "EthernetGates$PortRank" "queuedLengths" "[I"),
  (Cond.fieldLink "EthernetGates$PortRank" (29 : Nat) "EthernetGates$PortRank" "first" "I"),
  (Cond.fieldLink "EthernetGates$PortRank" (25 : Nat) "EthernetGates$PortRank" "waiting" "I"),
  (Cond.fieldLink "EthernetGates$PortRank" (18 : Nat) "EthernetGates$PortRank" "windowFrom" "[J"),
  (Cond.fieldLink "EthernetGates$PortRank" (22 : Nat) "EthernetGates$PortRank" "windowTo" "[J"),
  (Cond.fieldLink "EthernetGates$PortRank" (32 : Nat) "EthernetGates$PortRank" "windows" "I"),
  (Cond.fieldLink "EthernetGates$PortRank" (35 : Nat) "EthernetGates$PortRank" "up" "J"),
  (Cond.fieldLink "EthernetGates$PortRank" (39 : Nat) "EthernetGates$PortRank" "down" "J"),
  (Cond.fieldLink "EthernetGates$PortRank" (42 : Nat) "EthernetGates$PortRank" "creditParts" "J"),
  (Cond.fieldLink "EthernetGates$Port" (9 : Nat) "EthernetGates$Port" "number" "I"),
  (Cond.fieldLink "EthernetGates$Port" (17 : Nat) "EthernetGates$Port" "ranks" "[LEthernetGates$PortRank;"),
  (Cond.fieldLink "EthernetGates$Port" (37 : Nat) "EthernetGates$Port" "speed" "J"),
  (Cond.fieldLink "EthernetGates$Port" (41 : Nat) "EthernetGates$Port" "offset" "J"),
  (Cond.fieldLink "EthernetGates$Port" (29 : Nat) "EthernetGates$Port" "waiting" "I"),
  (Cond.fieldLink "EthernetGates$Port" (22 : Nat) "EthernetGates$Port" "sentFrame" "I"),
  (Cond.fieldLink "EthernetGates$Port" (55 : Nat) "EthernetGates$Port" "sentRank" "I"),
  (Cond.fieldLink "EthernetGates$Port" (58 : Nat) "EthernetGates$Port" "sendBegin" "J"),
  (Cond.fieldLink "EthernetGates$Port" (61 : Nat) "EthernetGates$Port" "sendEnd" "J"),
  (Cond.fieldLink "java/util/ArrayList" (39 : Nat) "java/util/ArrayList" "DEFAULTCAPACITY_EMPTY_ELEMENTDATA" "[Ljava/lang/Object;"),
  (Cond.fieldLink "java/util/ArrayList" (9 : Nat) "java/util/ArrayList" "elementData" "[Ljava/lang/Object;"),
  (Cond.fieldLink "java/util/ArrayList" (48 : Nat) "java/util/ArrayList" "size" "I"),
  (Cond.fieldLink "java/util/AbstractList" (7 : Nat) "java/util/AbstractList" "modCount" "I"),
  (Cond.fieldLink "java/util/ArrayList" (63 : Nat) "java/util/ArrayList" "modCount" "I"),
  (Cond.fieldLink "EthernetGates" (11 : Nat) "EthernetGates" "ports" "[LEthernetGates$Port;"),
  (Cond.fieldLink "EthernetGates" (20 : Nat) "EthernetGates" "addresses" "[LEthernetGates$Address;"),
  (Cond.fieldLink "EthernetGates" (27 : Nat) "EthernetGates" "departures" "Ljava/util/ArrayList;"),
  (Cond.fieldLink "EthernetGates" (31 : Nat) "EthernetGates" "drops" "[I"),
  (Cond.fieldLink "EthernetGates" (35 : Nat) "EthernetGates" "offerers" "[I"),
  (Cond.fieldLink "EthernetGates" (38 : Nat) "EthernetGates" "offeredUntil" "[J"),
  (Cond.fieldLink "EthernetGates" (115 : Nat) "EthernetGates" "now" "J"),
  (Cond.fieldLink "EthernetGates" (44 : Nat) "EthernetGates" "cycleLength" "J"),
  (Cond.fieldLink "EthernetGates" (79 : Nat) "EthernetGates" "lastWindowEnd" "J"),
  (Cond.fieldLink "EthernetGates" (104 : Nat) "EthernetGates" "frames" "I"),
  (Cond.fieldLink "EthernetGates" (134 : Nat) "EthernetGates" "departed" "I"),
  (Cond.fieldLink "EthernetGates$Stream" (11 : Nat) "EthernetGates$Stream" "rate" "J"),
  (Cond.fieldLink "EthernetGates$Stream" (17 : Nat) "EthernetGates$Stream" "thousand" "J"),
  (Cond.fieldLink "EthernetGates$Stream" (22 : Nat) "EthernetGates$Stream" "taken" "I"),
  (Cond.fieldLink "EthernetGates$Address" (11 : Nat) "EthernetGates$Address" "streams" "[LEthernetGates$Stream;"),
  (Cond.fieldLink "EthernetGates$Address" (30 : Nat) "EthernetGates$Address" "port" "I"),
  (Cond.fieldLink "EthernetGates$Address" (18 : Nat) "EthernetGates$Address" "since" "J"),
  (Cond.fieldLink "EthernetGates$Departure" (7 : Nat) "EthernetGates$Departure" "frame" "I"),
  (Cond.fieldLink "EthernetGates$Departure" (13 : Nat) "EthernetGates$Departure" "port" "I"),
  (Cond.fieldLink "EthernetGates$Departure" (16 : Nat) "EthernetGates$Departure" "begin" "J"),
  (Cond.fieldLink "EthernetGates$Departure" (20 : Nat) "EthernetGates$Departure" "end" "J"),
  (Cond.fieldLink "java/lang/Throwable" (198 : Nat) "java/lang/Throwable" "backtrace" "Ljava/lang/Object;"),
  (Cond.fieldLink "java/lang/Throwable" (13 : Nat) "java/lang/Throwable" "UNASSIGNED_STACK" "[Ljava/lang/StackTraceElement;"),
  (Cond.fieldLink "java/lang/Throwable" (20 : Nat) "java/lang/Throwable" "SUPPRESSED_SENTINEL" "Ljava/util/List;"),
  (Cond.fieldLink "java/lang/Throwable" (198 : Nat) "java/lang/Throwable" "backtrace" "Ljava/lang/Object;"),
  (Cond.fieldLink "java/lang/Throwable" (31 : Nat) "java/lang/Throwable" "detailMessage" "Ljava/lang/String;"),
  (Cond.fieldLink "java/lang/Throwable" (7 : Nat) "java/lang/Throwable" "cause" "Ljava/lang/Throwable;"),
  (Cond.fieldLink "java/lang/Throwable" (17 : Nat) "java/lang/Throwable" "stackTrace" "[Ljava/lang/StackTraceElement;"),
  (Cond.fieldLink "java/lang/Throwable" (24 : Nat) "java/lang/Throwable" "suppressedExceptions" "Ljava/util/List;"),
  (Cond.fieldLink "EthernetGatesModel" (93 : Nat) "EthernetGatesModel" "code" "I"),
  (Cond.fieldLink "EthernetGatesModel" (89 : Nat) "EthernetGatesModel" "ports" "I"),
  (Cond.fieldLink "EthernetGatesModel" (9 : Nat) "EthernetGatesModel" "cycle" "J"),
  (Cond.fieldLink "EthernetGatesModel" (110 : Nat) "EthernetGatesModel" "now" "J"),
  (Cond.fieldLink "EthernetGatesModel" (15 : Nat) "EthernetGatesModel" "speed" "[J"),
  (Cond.fieldLink "EthernetGatesModel" (19 : Nat) "EthernetGatesModel" "offset" "[J"),
  (Cond.fieldLink "EthernetGatesModel" (22 : Nat) "EthernetGatesModel" "sends" "[I"),
  (Cond.fieldLink "EthernetGatesModel" (26 : Nat) "EthernetGatesModel" "sentRank" "[I"),
  (Cond.fieldLink "EthernetGatesModel" (29 : Nat) "EthernetGatesModel" "began" "[J"),
  (Cond.fieldLink "EthernetGatesModel" (32 : Nat) "EthernetGatesModel" "ends" "[J"),
  (Cond.fieldLink "EthernetGatesModel" (35 : Nat) "EthernetGatesModel" "size" "[I"),
  (Cond.fieldLink "EthernetGatesModel" (38 : Nat) "EthernetGatesModel" "queue" "[I"),
  (Cond.fieldLink "EthernetGatesModel" (41 : Nat) "EthernetGatesModel" "windows" "[I"),
  (Cond.fieldLink "EthernetGatesModel" (44 : Nat) "EthernetGatesModel" "from" "[J"),
  (Cond.fieldLink "EthernetGatesModel" (47 : Nat) "EthernetGatesModel" "to" "[J"),
  (Cond.fieldLink "EthernetGatesModel" (50 : Nat) "EthernetGatesModel" "up" "[J"),
  (Cond.fieldLink "EthernetGatesModel" (53 : Nat) "EthernetGatesModel" "down" "[J"),
  (Cond.fieldLink "EthernetGatesModel" (56 : Nat) "EthernetGatesModel" "credit" "[J"),
  (Cond.fieldLink "EthernetGatesModel" (126 : Nat) "EthernetGatesModel" "frames" "I"),
  (Cond.fieldLink "EthernetGatesModel" (59 : Nat) "EthernetGatesModel" "length" "[I"),
  (Cond.fieldLink "EthernetGatesModel" (62 : Nat) "EthernetGatesModel" "place" "[I"),
  (Cond.fieldLink "EthernetGatesModel" (65 : Nat) "EthernetGatesModel" "since" "[J"),
  (Cond.fieldLink "EthernetGatesModel" (68 : Nat) "EthernetGatesModel" "rate" "[J"),
  (Cond.fieldLink "EthernetGatesModel" (71 : Nat) "EthernetGatesModel" "thousand" "[J"),
  (Cond.fieldLink "EthernetGatesModel" (74 : Nat) "EthernetGatesModel" "taken" "[I"),
  (Cond.fieldLink "EthernetGatesModel" (77 : Nat) "EthernetGatesModel" "offered" "[I"),
  (Cond.fieldLink "EthernetGatesModel" (80 : Nat) "EthernetGatesModel" "until" "[J"),
  (Cond.fieldLink "EthernetGatesModel" (148 : Nat) "EthernetGatesModel" "leftAll" "I"),
  (Cond.fieldLink "EthernetGatesModel" (145 : Nat) "EthernetGatesModel" "leftKept" "I"),
  (Cond.fieldLink "EthernetGatesModel" (83 : Nat) "EthernetGatesModel" "left" "[I"),
  (Cond.fieldLink "EthernetGatesModel" (86 : Nat) "EthernetGatesModel" "dropped" "[I")]
def am_Tm : List Cond := [(Cond.methodLink "EthernetGatesLaw" (21 : Nat) ({ cls := "EthernetGates", name := "<init>", desc := "(I)V" } : Jvm.MethodName)),
  (Cond.methodLink "EthernetGates" (1 : Nat) ({ cls := "java/lang/Object", name := "<init>", desc := "()V" } : Jvm.MethodName)),
  (Cond.methodLink "EthernetGates$Port" (3 : Nat) ({ cls := "java/lang/Object", name := "<init>", desc := "()V" } : Jvm.MethodName)),
  (Cond.methodLink "EthernetGates$PortRank" (3 : Nat) ({ cls := "java/lang/Object", name := "<init>", desc := "()V" } : Jvm.MethodName)),
  (Cond.methodLink "EthernetGates" (26 : Nat) ({ cls := "java/util/ArrayList", name := "<init>", desc := "()V" } : Jvm.MethodName)),
  (Cond.methodLink "java/util/ArrayList" (1 : Nat) ({ cls := "java/util/AbstractList", name := "<init>", desc := "()V" } : Jvm.MethodName)),
  (Cond.methodLink "java/util/AbstractList" (1 : Nat) ({ cls := "java/util/AbstractCollection", name := "<init>", desc := "()V" } : Jvm.MethodName)),
  (Cond.methodLink "java/util/AbstractCollection" (1 : Nat) ({ cls := "java/lang/Object", name := "<init>", desc := "()V" } : Jvm.MethodName)),
  (Cond.methodLink "EthernetGatesLaw" (29 : Nat) ({ cls := "EthernetGates", name := "link", desc := "(IJ)I" } : Jvm.MethodName)),
  (Cond.methodLink "EthernetGates" (48 : Nat) ({ cls := "EthernetGates", name := "findPort", desc := "(I)LEthernetGates$Port;" } : Jvm.MethodName)),
  (Cond.methodLink "EthernetGates$Port" (32 : Nat) ({ cls := "EthernetGates$Port", name := "isSending", desc := "()Z" } : Jvm.MethodName)),
  (Cond.methodLink "EthernetGatesLaw" (34 : Nat) ({ cls := "EthernetGates", name := "gate", desc := "(IIJJ)I" } : Jvm.MethodName)),
  (Cond.methodLink "EthernetGates" (65 : Nat) ({ cls := "EthernetGates", name := "isRank", desc := "(I)Z" } : Jvm.MethodName)),
  (Cond.methodLink "EthernetGates" (82 : Nat) ({ cls := "java/lang/Math", name := "max", desc := "(JJ)J" } : Jvm.MethodName)),
  (Cond.methodLink "EthernetGatesLaw" (47 : Nat) ({ cls := "EthernetGates", name := "frame", desc := "(IIII)I" } : Jvm.MethodName)),
  (Cond.methodLink "EthernetGates" (101 : Nat) ({ cls := "EthernetGates", name := "isAddress", desc := "(I)Z" } : Jvm.MethodName)),
  (Cond.methodLink "EthernetGates" (107 : Nat) ({ cls := "EthernetGates", name := "addressOf", desc := "(I)LEthernetGates$Address;" } : Jvm.MethodName)),
  (Cond.methodLink "EthernetGates$Address" (3 : Nat) ({ cls := "java/lang/Object", name := "<init>", desc := "()V" } : Jvm.MethodName)),
  (Cond.methodLink "EthernetGates$Stream" (3 : Nat) ({ cls := "java/lang/Object", name := "<init>", desc := "()V" } : Jvm.MethodName)),
  (Cond.methodLink "EthernetGates$Stream" (26 : Nat) ({ cls := "EthernetGates$Stream", name := "takenAt", desc := "(J)I" } : Jvm.MethodName)),
  (Cond.methodLink "EthernetGates$Address" (24 : Nat) ({ cls := "EthernetGates$Address", name := "isFixed", desc := "()Z" } : Jvm.MethodName)),
  (Cond.methodLink "EthernetGates" (128 : Nat) ({ cls := "EthernetGates", name := "queueCopies", desc := "(LEthernetGates$Port;III)I" } : Jvm.MethodName)),
  (Cond.methodLink "EthernetGatesLaw" (52 : Nat) ({ cls := "EthernetGates", name := "run", desc := "(J)I" } : Jvm.MethodName)),
  (Cond.methodLink "EthernetGates" (137 : Nat) ({ cls := "EthernetGates", name := "endSendings", desc := "()V" } : Jvm.MethodName)),
  (Cond.methodLink "EthernetGates" (154 : Nat) ({ cls := "java/util/ArrayList", name := "size", desc := "()I" } : Jvm.MethodName)),
  (Cond.methodLink "EthernetGates$Departure" (1 : Nat) ({ cls := "java/lang/Object", name := "<init>", desc := "()V" } : Jvm.MethodName)),
  (Cond.methodLink "EthernetGates" (228 : Nat) ({ cls := "java/util/ArrayList", name := "add", desc := "(Ljava/lang/Object;)Z" } : Jvm.MethodName)),
  (Cond.methodLink "java/util/ArrayList" (131 : Nat) ({ cls := "java/util/ArrayList", name := "add", desc := "(Ljava/lang/Object;[Ljava/lang/Object;I)V" } : Jvm.MethodName)),
  (Cond.methodLink "java/util/ArrayList" (129 : Nat) ({ cls := "java/util/ArrayList", name := "grow", desc := "()[Ljava/lang/Object;" } : Jvm.MethodName)),
  (Cond.methodLink "java/util/ArrayList" (69 : Nat) ({ cls := "java/util/ArrayList", name := "grow", desc := "(I)[Ljava/lang/Object;" } : Jvm.MethodName)),
  (Cond.methodLink "java/util/ArrayList" (73 : Nat) ({ cls := "jdk/internal/util/ArraysSupport", name := "newLength", desc := "(III)I" } : Jvm.MethodName)),
  (Cond.methodLink "jdk/internal/util/ArraysSupport" (194 : Nat) ({ cls := "java/lang/Math", name := "max", desc := "(II)I" } : Jvm.MethodName)),
  (Cond.methodLink "jdk/internal/util/ArraysSupport" (201 : Nat) ({ cls := "jdk/internal/util/ArraysSupport", name := "hugeLength", desc := "(II)I" } : Jvm.MethodName)),
  (Cond.methodLink "java/util/ArrayList" (66 : Nat) ({ cls := "java/util/Arrays", name := "copyOf", desc := "([Ljava/lang/Object;I)[Ljava/lang/Object;" } : Jvm.MethodName)),
  (Cond.methodLink "java/util/Arrays" (86 : Nat) ({ cls := "java/lang/Object", name := "getClass", desc := "()Ljava/lang/Class;" } : Jvm.MethodName)),
  (Cond.methodLink "java/util/Arrays" (300 : Nat) ({ cls := "java/util/Arrays", name := "copyOf", desc := "([Ljava/lang/Object;ILjava/lang/Class;)[Ljava/lang/Object;" } : Jvm.MethodName)),
  (Cond.methodLink "java/util/Arrays" (304 : Nat) ({ cls := "java/lang/Math", name := "min", desc := "(II)I" } : Jvm.MethodName)),
  (Cond.methodLink "java/util/Arrays" (150 : Nat) ({ cls := "java/lang/System", name := "arraycopy", desc := "(Ljava/lang/Object;ILjava/lang/Object;II)V" } : Jvm.MethodName)),
  (Cond.methodLink "java/util/ArrayList" (79 : Nat) ({ cls := "java/lang/Math", name := "max", desc := "(II)I" } : Jvm.MethodName)),
  (Cond.methodLink "EthernetGates" (140 : Nat) ({ cls := "EthernetGates", name := "beginSendings", desc := "()V" } : Jvm.MethodName)),
  (Cond.methodLink "EthernetGates$PortRank" (45 : Nat) ({ cls := "EthernetGates$PortRank", name := "isShaped", desc := "()Z" } : Jvm.MethodName)),
  (Cond.methodLink "EthernetGates$PortRank" (49 : Nat) ({ cls := "EthernetGates$PortRank", name := "isOpenFor", desc := "(JJ)Z" } : Jvm.MethodName)),
  (Cond.methodLink "EthernetGates" (143 : Nat) ({ cls := "EthernetGates", name := "ticksUntilChange", desc := "()J" } : Jvm.MethodName)),
  (Cond.methodLink "EthernetGates" (147 : Nat) ({ cls := "java/lang/Math", name := "min", desc := "(JJ)J" } : Jvm.MethodName)),
  (Cond.methodLink "EthernetGates" (150 : Nat) ({ cls := "EthernetGates", name := "moveCredits", desc := "(J)V" } : Jvm.MethodName)),
  (Cond.methodLink "EthernetGates$PortRank" (53 : Nat) ({ cls := "java/lang/Math", name := "min", desc := "(JJ)J" } : Jvm.MethodName)),
  (Cond.methodLink "EthernetGatesLaw" (56 : Nat) ({ cls := "EthernetGates", name := "left", desc := "(II)I" } : Jvm.MethodName)),
  (Cond.methodLink "EthernetGates" (157 : Nat) ({ cls := "java/util/ArrayList", name := "get", desc := "(I)Ljava/lang/Object;" } : Jvm.MethodName)),
  (Cond.methodLink "java/util/ArrayList" (118 : Nat) ({ cls := "java/util/Objects", name := "checkIndex", desc := "(II)I" } : Jvm.MethodName)),
  (Cond.methodLink "java/util/Objects" (105 : Nat) ({ cls := "jdk/internal/util/Preconditions", name := "checkIndex", desc := "(IILjava/util/function/BiFunction;)I" } : Jvm.MethodName)),
  (Cond.methodLink "java/util/ArrayList" (123 : Nat) ({ cls := "java/util/ArrayList", name := "elementData", desc := "(I)Ljava/lang/Object;" } : Jvm.MethodName)),
  (Cond.methodLink "EthernetGatesLaw" (61 : Nat) ({ cls := "EthernetGates", name := "learn", desc := "(IIJ)I" } : Jvm.MethodName)),
  (Cond.methodLink "EthernetGatesLaw" (66 : Nat) ({ cls := "EthernetGates", name := "credit", desc := "(IIJJ)I" } : Jvm.MethodName)),
  (Cond.methodLink "EthernetGatesLaw" (70 : Nat) ({ cls := "EthernetGates", name := "filter", desc := "(IJ)I" } : Jvm.MethodName)),
  (Cond.methodLink "EthernetGatesLaw" (74 : Nat) ({ cls := "EthernetGates", name := "clock", desc := "(IJ)I" } : Jvm.MethodName)),
  (Cond.methodLink "EthernetGatesLaw" (78 : Nat) ({ cls := "EthernetGates", name := "dropped", desc := "(I)I" } : Jvm.MethodName)),
  (Cond.methodLink "EthernetGatesLaw" (83 : Nat) ({ cls := "EthernetGates", name := "service", desc := "(II)I" } : Jvm.MethodName)),
  (Cond.methodLink "EthernetGates" (201 : Nat) ({ cls := "EthernetGates", name := "offererOf", desc := "(I)I" } : Jvm.MethodName)),
  (Cond.methodLink "EthernetGates" (205 : Nat) ({ cls := "EthernetGates", name := "isService", desc := "(I)Z" } : Jvm.MethodName)),
  (Cond.methodLink "EthernetGatesLaw" (15 : Nat) ({ cls := "EthernetGatesLaw", name := "cell", desc := "([II)I" } : Jvm.MethodName)),
  (Cond.methodLink "EthernetGatesLaw" (39 : Nat) ({ cls := "EthernetGatesLaw", name := "cycle", desc := "(LEthernetGates;J[J)I" } : Jvm.MethodName)),
  (Cond.methodLink "EthernetGatesLaw" (7 : Nat) ({ cls := "EthernetGates", name := "cycle", desc := "(J)I" } : Jvm.MethodName)),
  (Cond.methodLink "java/lang/Throwable" (1 : Nat) ({ cls := "java/lang/Object", name := "<init>", desc := "()V" } : Jvm.MethodName)),
  (Cond.methodLink "java/lang/Throwable" (27 : Nat) ({ cls := "java/lang/Throwable", name := "fillInStackTrace", desc := "()Ljava/lang/Throwable;" } : Jvm.MethodName)),
  (Cond.methodLink "java/lang/Throwable" (202 : Nat) ({ cls := "java/lang/Throwable", name := "fillInStackTrace", desc := "(I)Ljava/lang/Throwable;" } : Jvm.MethodName)),
  (Cond.methodLink "EthernetGates" (98 : Nat) ({ cls := "java/lang/ArithmeticException", name := "<init>", desc := "(Ljava/lang/String;)V" } : Jvm.MethodName)),
  (Cond.methodLink "java/lang/ArithmeticException" (7 : Nat) ({ cls := "java/lang/RuntimeException", name := "<init>", desc := "(Ljava/lang/String;)V" } : Jvm.MethodName)),
  (Cond.methodLink "java/lang/RuntimeException" (7 : Nat) ({ cls := "java/lang/Exception", name := "<init>", desc := "(Ljava/lang/String;)V" } : Jvm.MethodName)),
  (Cond.methodLink "java/lang/Exception" (7 : Nat) ({ cls := "java/lang/Throwable", name := "<init>", desc := "(Ljava/lang/String;)V" } : Jvm.MethodName)),
  (Cond.methodLink "EthernetGatesLaw" (26 : Nat) ({ cls := "EthernetGatesModel", name := "<init>", desc := "(I)V" } : Jvm.MethodName)),
  (Cond.methodLink "EthernetGatesModel" (1 : Nat) ({ cls := "java/lang/Object", name := "<init>", desc := "()V" } : Jvm.MethodName)),
  (Cond.methodLink "EthernetGatesLaw" (43 : Nat) ({ cls := "EthernetGatesModel", name := "thrown", desc := "()I" } : Jvm.MethodName)),
  (Cond.methodLink "EthernetGatesLaw" (33 : Nat) ({ cls := "EthernetGatesModel", name := "link", desc := "(IJ)I" } : Jvm.MethodName)),
  (Cond.methodLink "EthernetGatesModel" (96 : Nat) ({ cls := "EthernetGatesModel", name := "none", desc := "(I)Z" } : Jvm.MethodName)),
  (Cond.methodLink "EthernetGatesLaw" (38 : Nat) ({ cls := "EthernetGatesModel", name := "gate", desc := "(IIJJ)I" } : Jvm.MethodName)),
  (Cond.methodLink "EthernetGatesModel" (102 : Nat) ({ cls := "EthernetGatesModel", name := "noRank", desc := "(II)Z" } : Jvm.MethodName)),
  (Cond.methodLink "EthernetGatesLaw" (42 : Nat) ({ cls := "EthernetGatesModel", name := "cycle", desc := "(J)I" } : Jvm.MethodName)),
  (Cond.methodLink "EthernetGatesLaw" (65 : Nat) ({ cls := "EthernetGatesModel", name := "learn", desc := "(IIJ)I" } : Jvm.MethodName)),
  (Cond.methodLink "EthernetGatesModel" (115 : Nat) ({ cls := "EthernetGatesModel", name := "isAt", desc := "(I)Z" } : Jvm.MethodName)),
  (Cond.methodLink "EthernetGatesLaw" (69 : Nat) ({ cls := "EthernetGatesModel", name := "credit", desc := "(IIJJ)I" } : Jvm.MethodName)),
  (Cond.methodLink "EthernetGatesLaw" (73 : Nat) ({ cls := "EthernetGatesModel", name := "filter", desc := "(IJ)I" } : Jvm.MethodName)),
  (Cond.methodLink "EthernetGatesModel" (118 : Nat) ({ cls := "EthernetGatesModel", name := "look", desc := "(I)V" } : Jvm.MethodName)),
  (Cond.methodLink "EthernetGatesLaw" (77 : Nat) ({ cls := "EthernetGatesModel", name := "clock", desc := "(IJ)I" } : Jvm.MethodName)),
  (Cond.methodLink "EthernetGatesLaw" (86 : Nat) ({ cls := "EthernetGatesModel", name := "service", desc := "(II)I" } : Jvm.MethodName)),
  (Cond.methodLink "EthernetGatesLaw" (51 : Nat) ({ cls := "EthernetGatesModel", name := "frame", desc := "(IIII)I" } : Jvm.MethodName)),
  (Cond.methodLink "EthernetGatesModel" (129 : Nat) ({ cls := "EthernetGatesModel", name := "enter", desc := "(III)I" } : Jvm.MethodName)),
  (Cond.methodLink "EthernetGatesLaw" (55 : Nat) ({ cls := "EthernetGatesModel", name := "run", desc := "(J)I" } : Jvm.MethodName)),
  (Cond.methodLink "EthernetGatesModel" (160 : Nat) ({ cls := "EthernetGatesModel", name := "tick", desc := "()V" } : Jvm.MethodName)),
  (Cond.methodLink "EthernetGatesModel" (151 : Nat) ({ cls := "EthernetGatesModel", name := "may", desc := "(II)Z" } : Jvm.MethodName)),
  (Cond.methodLink "EthernetGatesModel" (137 : Nat) ({ cls := "EthernetGatesModel", name := "time", desc := "(II)J" } : Jvm.MethodName)),
  (Cond.methodLink "EthernetGatesModel" (141 : Nat) ({ cls := "EthernetGatesModel", name := "open", desc := "(IJJ)Z" } : Jvm.MethodName)),
  (Cond.methodLink "EthernetGatesModel" (154 : Nat) ({ cls := "EthernetGatesModel", name := "begin", desc := "(II)V" } : Jvm.MethodName)),
  (Cond.methodLink "EthernetGatesLaw" (60 : Nat) ({ cls := "EthernetGatesModel", name := "left", desc := "(II)I" } : Jvm.MethodName)),
  (Cond.methodLink "EthernetGatesLaw" (82 : Nat) ({ cls := "EthernetGatesModel", name := "dropped", desc := "(I)I" } : Jvm.MethodName))]
def am_Tc : List Cond := [(Cond.classLink "EthernetGatesLaw" (8 : Nat) "EthernetGates"),
  (Cond.classLink "EthernetGates" (9 : Nat) "EthernetGates$Port"),
  (Cond.classLink "EthernetGates$Port" (15 : Nat) "EthernetGates$PortRank"),
  (Cond.classLink "EthernetGates" (18 : Nat) "EthernetGates$Address"),
  (Cond.classLink "EthernetGates" (24 : Nat) "java/util/ArrayList"),
  (Cond.constantLong "EthernetGates" (42 : Nat) (1000 : Int64)),
  (Cond.constantLong "EthernetGates" (52 : Nat) (10000 : Int64)),
  (Cond.classLink "EthernetGates$Address" (9 : Nat) "EthernetGates$Stream"),
  (Cond.constantLong "EthernetGates$Stream" (9 : Nat) (-1 : Int64)),
  (Cond.constantLong "EthernetGates$Stream" (20 : Nat) (1000 : Int64)),
  (Cond.constantLong "EthernetGates$Address" (22 : Nat) (-1 : Int64)),
  (Cond.constantLong "EthernetGates$Address" (28 : Nat) (3000 : Int64)),
  (Cond.constantLong "EthernetGates" (132 : Nat) (2000 : Int64)),
  (Cond.classLink "EthernetGates" (161 : Nat) "EthernetGates$Departure"),
  (Cond.constant "jdk/internal/util/ArraysSupport" (200 : Nat) (2147483639 : Int32)),
  (Cond.classLink "java/util/Arrays" (110 : Nat) "[Ljava/lang/Object;"),
  (Cond.classLink "java/util/Arrays" (2 : Nat) "java/lang/Object"),
  (Cond.classLink "java/util/ArrayList" (7 : Nat) "java/lang/Object"),
  (Cond.constantLong "EthernetGates$Port" (64 : Nat) (2000 : Int64)),
  (Cond.constantLong "EthernetGates" (175 : Nat) (-1 : Int64)),
  (Cond.constantLong "EthernetGates" (92 : Nat) (1000000 : Int64)),
  (Cond.constantLong "EthernetGates" (194 : Nat) (-100 : Int64)),
  (Cond.constantLong "EthernetGates" (196 : Nat) (100 : Int64)),
  (Cond.classLink "EthernetGatesLaw" (13 : Nat) "java/lang/ArithmeticException"),
  (Cond.classLink "EthernetGates" (94 : Nat) "java/lang/ArithmeticException"),
  (Cond.classLink "EthernetGatesLaw" (24 : Nat) "EthernetGatesModel"),
  (Cond.constantLong "EthernetGatesModel" (7 : Nat) (1000 : Int64)),
  (Cond.constantLong "EthernetGatesModel" (100 : Nat) (10000 : Int64)),
  (Cond.constantLong "EthernetGatesModel" (106 : Nat) (1000000 : Int64)),
  (Cond.constantLong "EthernetGatesModel" (108 : Nat) (-1 : Int64)),
  (Cond.constantLong "EthernetGatesModel" (113 : Nat) (3000 : Int64)),
  (Cond.constantLong "EthernetGatesModel" (122 : Nat) (5000 : Int64)),
  (Cond.constantLong "EthernetGatesModel" (124 : Nat) (100 : Int64)),
  (Cond.constantLong "EthernetGatesModel" (158 : Nat) (2000 : Int64)),
  (Cond.constantLong "EthernetGatesModel" (133 : Nat) (8 : Int64)),
  (Cond.constantLong "EthernetGatesModel" (135 : Nat) (160 : Int64)),
  (Cond.constantLong "EthernetGatesLaw" (27 : Nat) (4294967295 : Int64))]
def am_Ti : List Cond := [(Cond.initialized "EthernetGatesLaw"),
  (Cond.initialized "EthernetGates"),
  (Cond.initialized "EthernetGates$Port"),
  (Cond.initialized "EthernetGates$PortRank"),
  (Cond.initialized "java/util/AbstractCollection"),
  (Cond.initialized "java/util/AbstractList"),
  (Cond.initialized "java/util/ArrayList"),
  (Cond.initialized "EthernetGatesModel"),
  (Cond.initialized "java/lang/Math"),
  (Cond.initialized "java/lang/Throwable"),
  (Cond.initialized "java/lang/Exception"),
  (Cond.initialized "java/lang/RuntimeException"),
  (Cond.initialized "java/lang/ArithmeticException"),
  (Cond.initialized "EthernetGates$Address"),
  (Cond.initialized "EthernetGates$Stream"),
  (Cond.initialized "EthernetGates$Departure"),
  (Cond.initialized "jdk/internal/util/ArraysSupport"),
  (Cond.initialized "java/util/Arrays"),
  (Cond.initialized "java/lang/System"),
  (Cond.initialized "java/util/Objects"),
  (Cond.initialized "jdk/internal/util/Preconditions"),
  (Cond.instantiable "EthernetGates" (11 : Nat)),
  (Cond.instantiable "EthernetGates$Port" (9 : Nat)),
  (Cond.instantiable "EthernetGates$PortRank" (10 : Nat)),
  (Cond.arrayClass Jvm.ClassFile.FieldType.int),
  (Cond.arrayClass Jvm.ClassFile.FieldType.long),
  (Cond.instantiable "java/util/ArrayList" (3 : Nat)),
  (Cond.sameField "java/util/ArrayList" "java/util/AbstractList" "modCount" "I"),
  (Cond.instantiable "EthernetGates$Address" (3 : Nat)),
  (Cond.instantiable "EthernetGates$Stream" (3 : Nat)),
  (Cond.instantiable "EthernetGates$Departure" (4 : Nat)),
  (Cond.instantiable "java/lang/ArithmeticException" (6 : Nat)),
  (Cond.instantiable "java/lang/Throwable" (6 : Nat)),
  (Cond.arrayClass Jvm.ClassFile.FieldType.byte),
  (Cond.instantiable "EthernetGatesModel" (31 : Nat))]
def am_Tn : List Cond := [(Cond.methodLinkNest "EthernetGates" (15 : Nat) ({ cls := "EthernetGates$Port", name := "<init>", desc := "(I)V" } : Jvm.MethodName) "EthernetGates"),
  (Cond.methodLinkNest "EthernetGates$Port" (21 : Nat) ({ cls := "EthernetGates$PortRank", name := "<init>", desc := "()V" } : Jvm.MethodName) "EthernetGates"),
  (Cond.fieldLinkNest "EthernetGates$Port" (36 : Nat) "EthernetGates$PortRank" "waiting" "I" "EthernetGates"),
  (Cond.fieldLinkNest "EthernetGates" (88 : Nat) "EthernetGates$PortRank" "windows" "I" "EthernetGates"),
  (Cond.fieldLinkNest "EthernetGates" (209 : Nat) "EthernetGates$Port" "number" "I" "EthernetGates"),
  (Cond.fieldLinkNest "EthernetGates" (69 : Nat) "EthernetGates$Port" "ranks" "[LEthernetGates$PortRank;" "EthernetGates"),
  (Cond.fieldLinkNest "EthernetGates" (54 : Nat) "EthernetGates$Port" "speed" "J" "EthernetGates"),
  (Cond.fieldLinkNest "EthernetGates" (198 : Nat) "EthernetGates$Port" "offset" "J" "EthernetGates"),
  (Cond.fieldLinkNest "EthernetGates" (219 : Nat) "EthernetGates$Port" "sentFrame" "I" "EthernetGates"),
  (Cond.fieldLinkNest "EthernetGates" (222 : Nat) "EthernetGates$Port" "sendBegin" "J" "EthernetGates"),
  (Cond.fieldLinkNest "EthernetGates" (216 : Nat) "EthernetGates$Port" "sendEnd" "J" "EthernetGates"),
  (Cond.methodLinkNest "EthernetGates" (57 : Nat) ({ cls := "EthernetGates$Port", name := "isSending", desc := "()Z" } : Jvm.MethodName) "EthernetGates"),
  (Cond.methodLinkNest "EthernetGates" (61 : Nat) ({ cls := "EthernetGates$Port", name := "loseFrames", desc := "()I" } : Jvm.MethodName) "EthernetGates"),
  (Cond.methodLinkNest "EthernetGates" (73 : Nat) ({ cls := "EthernetGates$PortRank", name := "addWindow", desc := "(JJ)Z" } : Jvm.MethodName) "EthernetGates"),
  (Cond.methodLinkNest "EthernetGates" (208 : Nat) ({ cls := "EthernetGates$Address", name := "<init>", desc := "()V" } : Jvm.MethodName) "EthernetGates"),
  (Cond.methodLinkNest "EthernetGates$Address" (17 : Nat) ({ cls := "EthernetGates$Stream", name := "<init>", desc := "()V" } : Jvm.MethodName) "EthernetGates"),
  (Cond.fieldLinkNest "EthernetGates" (188 : Nat) "EthernetGates$Stream" "rate" "J" "EthernetGates"),
  (Cond.fieldLinkNest "EthernetGates" (111 : Nat) "EthernetGates$Address" "streams" "[LEthernetGates$Stream;" "EthernetGates"),
  (Cond.fieldLinkNest "EthernetGates" (180 : Nat) "EthernetGates$Address" "port" "I" "EthernetGates"),
  (Cond.fieldLinkNest "EthernetGates" (181 : Nat) "EthernetGates$Address" "since" "J" "EthernetGates"),
  (Cond.methodLinkNest "EthernetGates" (118 : Nat) ({ cls := "EthernetGates$Stream", name := "takesOne", desc := "(J)Z" } : Jvm.MethodName) "EthernetGates"),
  (Cond.methodLinkNest "EthernetGates" (124 : Nat) ({ cls := "EthernetGates$Address", name := "portAt", desc := "(J)I" } : Jvm.MethodName) "EthernetGates"),
  (Cond.methodLinkNest "EthernetGates" (212 : Nat) ({ cls := "EthernetGates$Port", name := "queue", desc := "(III)Z" } : Jvm.MethodName) "EthernetGates"),
  (Cond.methodLinkNest "EthernetGates$Port" (25 : Nat) ({ cls := "EthernetGates$PortRank", name := "add", desc := "(II)Z" } : Jvm.MethodName) "EthernetGates"),
  (Cond.methodLinkNest "EthernetGates" (225 : Nat) ({ cls := "EthernetGates$Departure", name := "<init>", desc := "(IIJJ)V" } : Jvm.MethodName) "EthernetGates"),
  (Cond.fieldLinkNest "EthernetGates" (163 : Nat) "EthernetGates$Departure" "frame" "I" "EthernetGates"),
  (Cond.fieldLinkNest "EthernetGates" (166 : Nat) "EthernetGates$Departure" "port" "I" "EthernetGates"),
  (Cond.fieldLinkNest "EthernetGates" (169 : Nat) "EthernetGates$Departure" "begin" "J" "EthernetGates"),
  (Cond.fieldLinkNest "EthernetGates" (172 : Nat) "EthernetGates$Departure" "end" "J" "EthernetGates"),
  (Cond.methodLinkNest "EthernetGates" (232 : Nat) ({ cls := "EthernetGates$Port", name := "beginNext", desc := "(JJ)V" } : Jvm.MethodName) "EthernetGates"),
  (Cond.methodLinkNest "EthernetGates$Port" (44 : Nat) ({ cls := "EthernetGates$PortRank", name := "firstBits", desc := "()I" } : Jvm.MethodName) "EthernetGates"),
  (Cond.methodLinkNest "EthernetGates$Port" (48 : Nat) ({ cls := "EthernetGates$PortRank", name := "letsBegin", desc := "(JJ)Z" } : Jvm.MethodName) "EthernetGates"),
  (Cond.methodLinkNest "EthernetGates$Port" (52 : Nat) ({ cls := "EthernetGates$PortRank", name := "removeFirst", desc := "()I" } : Jvm.MethodName) "EthernetGates"),
  (Cond.methodLinkNest "EthernetGates" (235 : Nat) ({ cls := "EthernetGates$Port", name := "ticksUntilChange", desc := "(J)J" } : Jvm.MethodName) "EthernetGates"),
  (Cond.methodLinkNest "EthernetGates" (238 : Nat) ({ cls := "EthernetGates$Port", name := "moveCredits", desc := "(J)V" } : Jvm.MethodName) "EthernetGates"),
  (Cond.methodLinkNest "EthernetGates$Port" (66 : Nat) ({ cls := "EthernetGates$PortRank", name := "isShaped", desc := "()Z" } : Jvm.MethodName) "EthernetGates"),
  (Cond.methodLinkNest "EthernetGates$Port" (69 : Nat) ({ cls := "EthernetGates$PortRank", name := "moveCredit", desc := "(JJ)V" } : Jvm.MethodName) "EthernetGates"),
  (Cond.methodLinkNest "EthernetGates" (177 : Nat) ({ cls := "EthernetGates$Address", name := "isFixed", desc := "()Z" } : Jvm.MethodName) "EthernetGates"),
  (Cond.methodLinkNest "EthernetGates" (184 : Nat) ({ cls := "EthernetGates$PortRank", name := "shape", desc := "(JJ)V" } : Jvm.MethodName) "EthernetGates"),
  (Cond.methodLinkNest "EthernetGates" (191 : Nat) ({ cls := "EthernetGates$Stream", name := "takenAt", desc := "(J)I" } : Jvm.MethodName) "EthernetGates"),
  (Cond.castable "java/lang/ArithmeticException" "java/lang/ArithmeticException"),
  (Cond.castable "EthernetGates$Departure" "EthernetGates$Departure"),
  (Cond.castable "EthernetGates" "java/lang/Object"),
  (Cond.castable "EthernetGates$Port" "java/lang/Object"),
  (Cond.castable "EthernetGates$PortRank" "java/lang/Object"),
  (Cond.castable "EthernetGatesModel" "java/lang/Object"),
  (Cond.castable "EthernetGates$Address" "java/lang/Object"),
  (Cond.castable "EthernetGates$Stream" "java/lang/Object"),
  (Cond.castable "EthernetGates$Departure" "java/lang/Object"),
  (Cond.castable "java/lang/String" "java/lang/Object")]
def am_Tx : List Cond := [(Cond.laysFinal "EthernetGates$PortRank" "EthernetGates$PortRank" "queuedFrames" "[I"),
  (Cond.laysFinal "EthernetGates$PortRank" "EthernetGates$PortRank" "queuedLengths" "[I"),
  (Cond.lays "EthernetGates$PortRank" "EthernetGates$PortRank" "first" "I"),
  (Cond.lays "EthernetGates$PortRank" "EthernetGates$PortRank" "waiting" "I"),
  (Cond.laysFinal "EthernetGates$PortRank" "EthernetGates$PortRank" "windowFrom" "[J"),
  (Cond.laysFinal "EthernetGates$PortRank" "EthernetGates$PortRank" "windowTo" "[J"),
  (Cond.lays "EthernetGates$PortRank" "EthernetGates$PortRank" "windows" "I"),
  (Cond.lays "EthernetGates$PortRank" "EthernetGates$PortRank" "up" "J"),
  (Cond.lays "EthernetGates$PortRank" "EthernetGates$PortRank" "down" "J"),
  (Cond.lays "EthernetGates$PortRank" "EthernetGates$PortRank" "creditParts" "J"),
  (Cond.laysFinal "EthernetGates$Port" "EthernetGates$Port" "number" "I"),
  (Cond.laysFinal "EthernetGates$Port" "EthernetGates$Port" "ranks" "[LEthernetGates$PortRank;"),
  (Cond.lays "EthernetGates$Port" "EthernetGates$Port" "speed" "J"),
  (Cond.lays "EthernetGates$Port" "EthernetGates$Port" "offset" "J"),
  (Cond.lays "EthernetGates$Port" "EthernetGates$Port" "waiting" "I"),
  (Cond.lays "EthernetGates$Port" "EthernetGates$Port" "sentFrame" "I"),
  (Cond.lays "EthernetGates$Port" "EthernetGates$Port" "sentRank" "I"),
  (Cond.lays "EthernetGates$Port" "EthernetGates$Port" "sendBegin" "J"),
  (Cond.lays "EthernetGates$Port" "EthernetGates$Port" "sendEnd" "J"),
  (Cond.lays "java/util/ArrayList" "java/util/ArrayList" "elementData" "[Ljava/lang/Object;"),
  (Cond.lays "java/util/ArrayList" "java/util/ArrayList" "size" "I"),
  (Cond.lays "java/util/ArrayList" "java/util/AbstractList" "modCount" "I"),
  (Cond.laysFinal "EthernetGates" "EthernetGates" "ports" "[LEthernetGates$Port;"),
  (Cond.laysFinal "EthernetGates" "EthernetGates" "addresses" "[LEthernetGates$Address;"),
  (Cond.laysFinal "EthernetGates" "EthernetGates" "departures" "Ljava/util/ArrayList;"),
  (Cond.laysFinal "EthernetGates" "EthernetGates" "drops" "[I"),
  (Cond.laysFinal "EthernetGates" "EthernetGates" "offerers" "[I"),
  (Cond.laysFinal "EthernetGates" "EthernetGates" "offeredUntil" "[J"),
  (Cond.lays "EthernetGates" "EthernetGates" "now" "J"),
  (Cond.lays "EthernetGates" "EthernetGates" "cycleLength" "J"),
  (Cond.lays "EthernetGates" "EthernetGates" "lastWindowEnd" "J"),
  (Cond.lays "EthernetGates" "EthernetGates" "frames" "I"),
  (Cond.lays "EthernetGates" "EthernetGates" "departed" "I"),
  (Cond.lays "EthernetGates$Stream" "EthernetGates$Stream" "rate" "J"),
  (Cond.lays "EthernetGates$Stream" "EthernetGates$Stream" "thousand" "J"),
  (Cond.lays "EthernetGates$Stream" "EthernetGates$Stream" "taken" "I"),
  (Cond.laysFinal "EthernetGates$Address" "EthernetGates$Address" "streams" "[LEthernetGates$Stream;"),
  (Cond.lays "EthernetGates$Address" "EthernetGates$Address" "port" "I"),
  (Cond.lays "EthernetGates$Address" "EthernetGates$Address" "since" "J"),
  (Cond.laysFinal "EthernetGates$Departure" "EthernetGates$Departure" "frame" "I"),
  (Cond.laysFinal "EthernetGates$Departure" "EthernetGates$Departure" "port" "I"),
  (Cond.laysFinal "EthernetGates$Departure" "EthernetGates$Departure" "begin" "J"),
  (Cond.laysFinal "EthernetGates$Departure" "EthernetGates$Departure" "end" "J"),
  (Cond.lays "java/lang/ArithmeticException" "java/lang/Throwable" "cause" "Ljava/lang/Throwable;"),
  (Cond.lays "java/lang/Throwable" "java/lang/Throwable" "cause" "Ljava/lang/Throwable;"),
  (Cond.lays "java/lang/ArithmeticException" "java/lang/Throwable" "stackTrace" "[Ljava/lang/StackTraceElement;"),
  (Cond.lays "java/lang/Throwable" "java/lang/Throwable" "stackTrace" "[Ljava/lang/StackTraceElement;"),
  (Cond.lays "java/lang/ArithmeticException" "java/lang/Throwable" "suppressedExceptions" "Ljava/util/List;"),
  (Cond.lays "java/lang/Throwable" "java/lang/Throwable" "suppressedExceptions" "Ljava/util/List;"),
  (Cond.lays "java/lang/ArithmeticException" "java/lang/Throwable" "detailMessage" "Ljava/lang/String;"),
  (Cond.lays "java/lang/Throwable" "java/lang/Throwable" "detailMessage" "Ljava/lang/String;"),
  (Cond.lays "java/lang/ArithmeticException" "java/lang/Throwable" "backtrace" "Ljava/lang/Object;"),
  (Cond.lays "java/lang/Throwable" "java/lang/Throwable" "backtrace" "Ljava/lang/Object;"),
  (Cond.lays "java/lang/ArithmeticException" "java/lang/Throwable" "depth" "I"),
  (Cond.lays "EthernetGatesModel" "EthernetGatesModel" "code" "I"),
  (Cond.laysFinal "EthernetGatesModel" "EthernetGatesModel" "ports" "I"),
  (Cond.lays "EthernetGatesModel" "EthernetGatesModel" "cycle" "J"),
  (Cond.lays "EthernetGatesModel" "EthernetGatesModel" "now" "J"),
  (Cond.laysFinal "EthernetGatesModel" "EthernetGatesModel" "speed" "[J"),
  (Cond.laysFinal "EthernetGatesModel" "EthernetGatesModel" "offset" "[J"),
  (Cond.laysFinal "EthernetGatesModel" "EthernetGatesModel" "sends" "[I"),
  (Cond.laysFinal "EthernetGatesModel" "EthernetGatesModel" "sentRank" "[I"),
  (Cond.laysFinal "EthernetGatesModel" "EthernetGatesModel" "began" "[J"),
  (Cond.laysFinal "EthernetGatesModel" "EthernetGatesModel" "ends" "[J"),
  (Cond.laysFinal "EthernetGatesModel" "EthernetGatesModel" "size" "[I"),
  (Cond.laysFinal "EthernetGatesModel" "EthernetGatesModel" "queue" "[I"),
  (Cond.laysFinal "EthernetGatesModel" "EthernetGatesModel" "windows" "[I"),
  (Cond.laysFinal "EthernetGatesModel" "EthernetGatesModel" "from" "[J"),
  (Cond.laysFinal "EthernetGatesModel" "EthernetGatesModel" "to" "[J"),
  (Cond.laysFinal "EthernetGatesModel" "EthernetGatesModel" "up" "[J"),
  (Cond.laysFinal "EthernetGatesModel" "EthernetGatesModel" "down" "[J"),
  (Cond.laysFinal "EthernetGatesModel" "EthernetGatesModel" "credit" "[J"),
  (Cond.lays "EthernetGatesModel" "EthernetGatesModel" "frames" "I"),
  (Cond.laysFinal "EthernetGatesModel" "EthernetGatesModel" "length" "[I"),
  (Cond.laysFinal "EthernetGatesModel" "EthernetGatesModel" "place" "[I"),
  (Cond.laysFinal "EthernetGatesModel" "EthernetGatesModel" "since" "[J"),
  (Cond.laysFinal "EthernetGatesModel" "EthernetGatesModel" "rate" "[J"),
  (Cond.laysFinal "EthernetGatesModel" "EthernetGatesModel" "thousand" "[J"),
  (Cond.laysFinal "EthernetGatesModel" "EthernetGatesModel" "taken" "[I"),
  (Cond.laysFinal "EthernetGatesModel" "EthernetGatesModel" "offered" "[I"),
  (Cond.laysFinal "EthernetGatesModel" "EthernetGatesModel" "until" "[J"),
  (Cond.lays "EthernetGatesModel" "EthernetGatesModel" "leftAll" "I"),
  (Cond.lays "EthernetGatesModel" "EthernetGatesModel" "leftKept" "I"),
  (Cond.laysFinal "EthernetGatesModel" "EthernetGatesModel" "left" "[I"),
  (Cond.laysFinal "EthernetGatesModel" "EthernetGatesModel" "dropped" "[I")]
def am_Tk : List Cond := [(Cond.instanceMethod ({ cls := "EthernetGates", name := "<init>", desc := "(I)V" } : Jvm.MethodName)),
  (Cond.instanceMethod ({ cls := "java/lang/Object", name := "<init>", desc := "()V" } : Jvm.MethodName)),
  (Cond.instanceMethod ({ cls := "EthernetGates$Port", name := "<init>", desc := "(I)V" } : Jvm.MethodName)),
  (Cond.instanceMethod ({ cls := "EthernetGates$PortRank", name := "<init>", desc := "()V" } : Jvm.MethodName)),
  (Cond.instanceMethod ({ cls := "java/util/ArrayList", name := "<init>", desc := "()V" } : Jvm.MethodName)),
  (Cond.instanceMethod ({ cls := "java/util/AbstractList", name := "<init>", desc := "()V" } : Jvm.MethodName)),
  (Cond.instanceMethod ({ cls := "java/util/AbstractCollection", name := "<init>", desc := "()V" } : Jvm.MethodName)),
  (Cond.instanceMethod ({ cls := "EthernetGates", name := "link", desc := "(IJ)I" } : Jvm.MethodName)),
  (Cond.selects "EthernetGates" ({ cls := "EthernetGates", name := "link", desc := "(IJ)I" } : Jvm.MethodName) ({ cls := "EthernetGates", name := "link", desc := "(IJ)I" } : Jvm.MethodName)),
  (Cond.instanceMethod ({ cls := "EthernetGates", name := "findPort", desc := "(I)LEthernetGates$Port;" } : Jvm.MethodName)),
  (Cond.instanceMethod ({ cls := "EthernetGates$Port", name := "isSending", desc := "()Z" } : Jvm.MethodName)),
  (Cond.instanceMethod ({ cls := "EthernetGates$Port", name := "loseFrames", desc := "()I" } : Jvm.MethodName)),
  (Cond.instanceMethod ({ cls := "EthernetGates", name := "gate", desc := "(IIJJ)I" } : Jvm.MethodName)),
  (Cond.selects "EthernetGates" ({ cls := "EthernetGates", name := "gate", desc := "(IIJJ)I" } : Jvm.MethodName) ({ cls := "EthernetGates", name := "gate", desc := "(IIJJ)I" } : Jvm.MethodName)),
  (Cond.static ({ cls := "EthernetGates", name := "isRank", desc := "(I)Z" } : Jvm.MethodName)),
  (Cond.instanceMethod ({ cls := "EthernetGates$PortRank", name := "addWindow", desc := "(JJ)Z" } : Jvm.MethodName)),
  (Cond.static ({ cls := "java/lang/Math", name := "max", desc := "(JJ)J" } : Jvm.MethodName)),
  (Cond.instanceMethod ({ cls := "EthernetGates", name := "frame", desc := "(IIII)I" } : Jvm.MethodName)),
  (Cond.selects "EthernetGates" ({ cls := "EthernetGates", name := "frame", desc := "(IIII)I" } : Jvm.MethodName) ({ cls := "EthernetGates", name := "frame", desc := "(IIII)I" } : Jvm.MethodName)),
  (Cond.static ({ cls := "EthernetGates", name := "isAddress", desc := "(I)Z" } : Jvm.MethodName)),
  (Cond.instanceMethod ({ cls := "EthernetGates", name := "addressOf", desc := "(I)LEthernetGates$Address;" } : Jvm.MethodName)),
  (Cond.instanceMethod ({ cls := "EthernetGates$Address", name := "<init>", desc := "()V" } : Jvm.MethodName)),
  (Cond.instanceMethod ({ cls := "EthernetGates$Stream", name := "<init>", desc := "()V" } : Jvm.MethodName)),
  (Cond.instanceMethod ({ cls := "EthernetGates$Stream", name := "takesOne", desc := "(J)Z" } : Jvm.MethodName)),
  (Cond.instanceMethod ({ cls := "EthernetGates$Stream", name := "takenAt", desc := "(J)I" } : Jvm.MethodName)),
  (Cond.instanceMethod ({ cls := "EthernetGates$Address", name := "portAt", desc := "(J)I" } : Jvm.MethodName)),
  (Cond.instanceMethod ({ cls := "EthernetGates$Address", name := "isFixed", desc := "()Z" } : Jvm.MethodName)),
  (Cond.instanceMethod ({ cls := "EthernetGates", name := "queueCopies", desc := "(LEthernetGates$Port;III)I" } : Jvm.MethodName)),
  (Cond.instanceMethod ({ cls := "EthernetGates$Port", name := "queue", desc := "(III)Z" } : Jvm.MethodName)),
  (Cond.instanceMethod ({ cls := "EthernetGates$PortRank", name := "add", desc := "(II)Z" } : Jvm.MethodName)),
  (Cond.instanceMethod ({ cls := "EthernetGates", name := "run", desc := "(J)I" } : Jvm.MethodName)),
  (Cond.selects "EthernetGates" ({ cls := "EthernetGates", name := "run", desc := "(J)I" } : Jvm.MethodName) ({ cls := "EthernetGates", name := "run", desc := "(J)I" } : Jvm.MethodName)),
  (Cond.instanceMethod ({ cls := "EthernetGates", name := "endSendings", desc := "()V" } : Jvm.MethodName)),
  (Cond.instanceMethod ({ cls := "java/util/ArrayList", name := "size", desc := "()I" } : Jvm.MethodName)),
  (Cond.selects "java/util/ArrayList" ({ cls := "java/util/ArrayList", name := "size", desc := "()I" } : Jvm.MethodName) ({ cls := "java/util/ArrayList", name := "size", desc := "()I" } : Jvm.MethodName)),
  (Cond.instanceMethod ({ cls := "EthernetGates$Departure", name := "<init>", desc := "(IIJJ)V" } : Jvm.MethodName)),
  (Cond.instanceMethod ({ cls := "java/util/ArrayList", name := "add", desc := "(Ljava/lang/Object;)Z" } : Jvm.MethodName)),
  (Cond.selects "java/util/ArrayList" ({ cls := "java/util/ArrayList", name := "add", desc := "(Ljava/lang/Object;)Z" } : Jvm.MethodName) ({ cls := "java/util/ArrayList", name := "add", desc := "(Ljava/lang/Object;)Z" } : Jvm.MethodName)),
  (Cond.instanceMethod ({ cls := "java/util/ArrayList", name := "add", desc := "(Ljava/lang/Object;[Ljava/lang/Object;I)V" } : Jvm.MethodName)),
  (Cond.instanceMethod ({ cls := "java/util/ArrayList", name := "grow", desc := "()[Ljava/lang/Object;" } : Jvm.MethodName)),
  (Cond.instanceMethod ({ cls := "java/util/ArrayList", name := "grow", desc := "(I)[Ljava/lang/Object;" } : Jvm.MethodName)),
  (Cond.static ({ cls := "jdk/internal/util/ArraysSupport", name := "newLength", desc := "(III)I" } : Jvm.MethodName)),
  (Cond.static ({ cls := "java/lang/Math", name := "max", desc := "(II)I" } : Jvm.MethodName)),
  (Cond.static ({ cls := "jdk/internal/util/ArraysSupport", name := "hugeLength", desc := "(II)I" } : Jvm.MethodName)),
  (Cond.static ({ cls := "java/util/Arrays", name := "copyOf", desc := "([Ljava/lang/Object;I)[Ljava/lang/Object;" } : Jvm.MethodName)),
  (Cond.instanceMethod ({ cls := "java/lang/Object", name := "getClass", desc := "()Ljava/lang/Class;" } : Jvm.MethodName)),
  (Cond.selects "EthernetGates" ({ cls := "java/lang/Object", name := "getClass", desc := "()Ljava/lang/Class;" } : Jvm.MethodName) ({ cls := "java/lang/Object", name := "getClass", desc := "()Ljava/lang/Class;" } : Jvm.MethodName)),
  (Cond.selects "EthernetGates$Address" ({ cls := "java/lang/Object", name := "getClass", desc := "()Ljava/lang/Class;" } : Jvm.MethodName) ({ cls := "java/lang/Object", name := "getClass", desc := "()Ljava/lang/Class;" } : Jvm.MethodName)),
  (Cond.selects "EthernetGates$Departure" ({ cls := "java/lang/Object", name := "getClass", desc := "()Ljava/lang/Class;" } : Jvm.MethodName) ({ cls := "java/lang/Object", name := "getClass", desc := "()Ljava/lang/Class;" } : Jvm.MethodName)),
  (Cond.selects "EthernetGates$Port" ({ cls := "java/lang/Object", name := "getClass", desc := "()Ljava/lang/Class;" } : Jvm.MethodName) ({ cls := "java/lang/Object", name := "getClass", desc := "()Ljava/lang/Class;" } : Jvm.MethodName)),
  (Cond.selects "EthernetGates$PortRank" ({ cls := "java/lang/Object", name := "getClass", desc := "()Ljava/lang/Class;" } : Jvm.MethodName) ({ cls := "java/lang/Object", name := "getClass", desc := "()Ljava/lang/Class;" } : Jvm.MethodName)),
  (Cond.selects "EthernetGates$Stream" ({ cls := "java/lang/Object", name := "getClass", desc := "()Ljava/lang/Class;" } : Jvm.MethodName) ({ cls := "java/lang/Object", name := "getClass", desc := "()Ljava/lang/Class;" } : Jvm.MethodName)),
  (Cond.selects "EthernetGatesModel" ({ cls := "java/lang/Object", name := "getClass", desc := "()Ljava/lang/Class;" } : Jvm.MethodName) ({ cls := "java/lang/Object", name := "getClass", desc := "()Ljava/lang/Class;" } : Jvm.MethodName)),
  (Cond.selects "java/lang/ArithmeticException" ({ cls := "java/lang/Object", name := "getClass", desc := "()Ljava/lang/Class;" } : Jvm.MethodName) ({ cls := "java/lang/Object", name := "getClass", desc := "()Ljava/lang/Class;" } : Jvm.MethodName)),
  (Cond.selects "java/util/ArrayList" ({ cls := "java/lang/Object", name := "getClass", desc := "()Ljava/lang/Class;" } : Jvm.MethodName) ({ cls := "java/lang/Object", name := "getClass", desc := "()Ljava/lang/Class;" } : Jvm.MethodName)),
  (Cond.static ({ cls := "java/util/Arrays", name := "copyOf", desc := "([Ljava/lang/Object;ILjava/lang/Class;)[Ljava/lang/Object;" } : Jvm.MethodName)),
  (Cond.static ({ cls := "java/lang/Math", name := "min", desc := "(II)I" } : Jvm.MethodName)),
  (Cond.static ({ cls := "java/lang/System", name := "arraycopy", desc := "(Ljava/lang/Object;ILjava/lang/Object;II)V" } : Jvm.MethodName)),
  (Cond.instanceMethod ({ cls := "EthernetGates", name := "beginSendings", desc := "()V" } : Jvm.MethodName)),
  (Cond.instanceMethod ({ cls := "EthernetGates$Port", name := "beginNext", desc := "(JJ)V" } : Jvm.MethodName)),
  (Cond.instanceMethod ({ cls := "EthernetGates$PortRank", name := "firstBits", desc := "()I" } : Jvm.MethodName)),
  (Cond.instanceMethod ({ cls := "EthernetGates$PortRank", name := "letsBegin", desc := "(JJ)Z" } : Jvm.MethodName)),
  (Cond.instanceMethod ({ cls := "EthernetGates$PortRank", name := "isShaped", desc := "()Z" } : Jvm.MethodName)),
  (Cond.instanceMethod ({ cls := "EthernetGates$PortRank", name := "isOpenFor", desc := "(JJ)Z" } : Jvm.MethodName)),
  (Cond.instanceMethod ({ cls := "EthernetGates$PortRank", name := "removeFirst", desc := "()I" } : Jvm.MethodName)),
  (Cond.instanceMethod ({ cls := "EthernetGates", name := "ticksUntilChange", desc := "()J" } : Jvm.MethodName)),
  (Cond.instanceMethod ({ cls := "EthernetGates$Port", name := "ticksUntilChange", desc := "(J)J" } : Jvm.MethodName)),
  (Cond.static ({ cls := "java/lang/Math", name := "min", desc := "(JJ)J" } : Jvm.MethodName)),
  (Cond.instanceMethod ({ cls := "EthernetGates", name := "moveCredits", desc := "(J)V" } : Jvm.MethodName)),
  (Cond.instanceMethod ({ cls := "EthernetGates$Port", name := "moveCredits", desc := "(J)V" } : Jvm.MethodName)),
  (Cond.instanceMethod ({ cls := "EthernetGates$PortRank", name := "moveCredit", desc := "(JJ)V" } : Jvm.MethodName)),
  (Cond.instanceMethod ({ cls := "EthernetGates", name := "left", desc := "(II)I" } : Jvm.MethodName)),
  (Cond.selects "EthernetGates" ({ cls := "EthernetGates", name := "left", desc := "(II)I" } : Jvm.MethodName) ({ cls := "EthernetGates", name := "left", desc := "(II)I" } : Jvm.MethodName)),
  (Cond.instanceMethod ({ cls := "java/util/ArrayList", name := "get", desc := "(I)Ljava/lang/Object;" } : Jvm.MethodName)),
  (Cond.selects "java/util/ArrayList" ({ cls := "java/util/ArrayList", name := "get", desc := "(I)Ljava/lang/Object;" } : Jvm.MethodName) ({ cls := "java/util/ArrayList", name := "get", desc := "(I)Ljava/lang/Object;" } : Jvm.MethodName)),
  (Cond.static ({ cls := "java/util/Objects", name := "checkIndex", desc := "(II)I" } : Jvm.MethodName)),
  (Cond.static ({ cls := "jdk/internal/util/Preconditions", name := "checkIndex", desc := "(IILjava/util/function/BiFunction;)I" } : Jvm.MethodName)),
  (Cond.instanceMethod ({ cls := "java/util/ArrayList", name := "elementData", desc := "(I)Ljava/lang/Object;" } : Jvm.MethodName)),
  (Cond.selects "java/util/ArrayList" ({ cls := "java/util/ArrayList", name := "elementData", desc := "(I)Ljava/lang/Object;" } : Jvm.MethodName) ({ cls := "java/util/ArrayList", name := "elementData", desc := "(I)Ljava/lang/Object;" } : Jvm.MethodName)),
  (Cond.instanceMethod ({ cls := "EthernetGates", name := "learn", desc := "(IIJ)I" } : Jvm.MethodName)),
  (Cond.selects "EthernetGates" ({ cls := "EthernetGates", name := "learn", desc := "(IIJ)I" } : Jvm.MethodName) ({ cls := "EthernetGates", name := "learn", desc := "(IIJ)I" } : Jvm.MethodName)),
  (Cond.instanceMethod ({ cls := "EthernetGates", name := "credit", desc := "(IIJJ)I" } : Jvm.MethodName)),
  (Cond.selects "EthernetGates" ({ cls := "EthernetGates", name := "credit", desc := "(IIJJ)I" } : Jvm.MethodName) ({ cls := "EthernetGates", name := "credit", desc := "(IIJJ)I" } : Jvm.MethodName)),
  (Cond.instanceMethod ({ cls := "EthernetGates$PortRank", name := "shape", desc := "(JJ)V" } : Jvm.MethodName)),
  (Cond.instanceMethod ({ cls := "EthernetGates", name := "filter", desc := "(IJ)I" } : Jvm.MethodName)),
  (Cond.selects "EthernetGates" ({ cls := "EthernetGates", name := "filter", desc := "(IJ)I" } : Jvm.MethodName) ({ cls := "EthernetGates", name := "filter", desc := "(IJ)I" } : Jvm.MethodName)),
  (Cond.instanceMethod ({ cls := "EthernetGates", name := "clock", desc := "(IJ)I" } : Jvm.MethodName)),
  (Cond.selects "EthernetGates" ({ cls := "EthernetGates", name := "clock", desc := "(IJ)I" } : Jvm.MethodName) ({ cls := "EthernetGates", name := "clock", desc := "(IJ)I" } : Jvm.MethodName)),
  (Cond.instanceMethod ({ cls := "EthernetGates", name := "dropped", desc := "(I)I" } : Jvm.MethodName)),
  (Cond.selects "EthernetGates" ({ cls := "EthernetGates", name := "dropped", desc := "(I)I" } : Jvm.MethodName) ({ cls := "EthernetGates", name := "dropped", desc := "(I)I" } : Jvm.MethodName)),
  (Cond.instanceMethod ({ cls := "EthernetGates", name := "service", desc := "(II)I" } : Jvm.MethodName)),
  (Cond.selects "EthernetGates" ({ cls := "EthernetGates", name := "service", desc := "(II)I" } : Jvm.MethodName) ({ cls := "EthernetGates", name := "service", desc := "(II)I" } : Jvm.MethodName)),
  (Cond.instanceMethod ({ cls := "EthernetGates", name := "offererOf", desc := "(I)I" } : Jvm.MethodName)),
  (Cond.static ({ cls := "EthernetGates", name := "isService", desc := "(I)Z" } : Jvm.MethodName)),
  (Cond.static ({ cls := "EthernetGatesLaw", name := "cell", desc := "([II)I" } : Jvm.MethodName)),
  (Cond.static ({ cls := "EthernetGatesLaw", name := "cycle", desc := "(LEthernetGates;J[J)I" } : Jvm.MethodName)),
  (Cond.instanceMethod ({ cls := "EthernetGates", name := "cycle", desc := "(J)I" } : Jvm.MethodName)),
  (Cond.selects "EthernetGates" ({ cls := "EthernetGates", name := "cycle", desc := "(J)I" } : Jvm.MethodName) ({ cls := "EthernetGates", name := "cycle", desc := "(J)I" } : Jvm.MethodName)),
  (Cond.selects "java/lang/ArithmeticException" ({ cls := "java/lang/Throwable", name := "fillInStackTrace", desc := "(I)Ljava/lang/Throwable;" } : Jvm.MethodName) ({ cls := "java/lang/Throwable", name := "fillInStackTrace", desc := "(I)Ljava/lang/Throwable;" } : Jvm.MethodName)),
  (Cond.selects "java/lang/ArithmeticException" ({ cls := "java/lang/Throwable", name := "fillInStackTrace", desc := "()Ljava/lang/Throwable;" } : Jvm.MethodName) ({ cls := "java/lang/Throwable", name := "fillInStackTrace", desc := "()Ljava/lang/Throwable;" } : Jvm.MethodName)),
  (Cond.instanceMethod ({ cls := "java/lang/Throwable", name := "<init>", desc := "()V" } : Jvm.MethodName)),
  (Cond.instanceMethod ({ cls := "java/lang/Throwable", name := "fillInStackTrace", desc := "()Ljava/lang/Throwable;" } : Jvm.MethodName)),
  (Cond.instanceMethod ({ cls := "java/lang/Throwable", name := "fillInStackTrace", desc := "(I)Ljava/lang/Throwable;" } : Jvm.MethodName)),
  (Cond.instanceMethod ({ cls := "java/lang/ArithmeticException", name := "<init>", desc := "(Ljava/lang/String;)V" } : Jvm.MethodName)),
  (Cond.instanceMethod ({ cls := "java/lang/RuntimeException", name := "<init>", desc := "(Ljava/lang/String;)V" } : Jvm.MethodName)),
  (Cond.instanceMethod ({ cls := "java/lang/Exception", name := "<init>", desc := "(Ljava/lang/String;)V" } : Jvm.MethodName)),
  (Cond.instanceMethod ({ cls := "java/lang/Throwable", name := "<init>", desc := "(Ljava/lang/String;)V" } : Jvm.MethodName)),
  (Cond.instanceMethod ({ cls := "EthernetGatesModel", name := "<init>", desc := "(I)V" } : Jvm.MethodName)),
  (Cond.instanceMethod ({ cls := "EthernetGatesModel", name := "thrown", desc := "()I" } : Jvm.MethodName)),
  (Cond.selects "EthernetGatesModel" ({ cls := "EthernetGatesModel", name := "thrown", desc := "()I" } : Jvm.MethodName) ({ cls := "EthernetGatesModel", name := "thrown", desc := "()I" } : Jvm.MethodName)),
  (Cond.instanceMethod ({ cls := "EthernetGatesModel", name := "link", desc := "(IJ)I" } : Jvm.MethodName)),
  (Cond.selects "EthernetGatesModel" ({ cls := "EthernetGatesModel", name := "link", desc := "(IJ)I" } : Jvm.MethodName) ({ cls := "EthernetGatesModel", name := "link", desc := "(IJ)I" } : Jvm.MethodName)),
  (Cond.instanceMethod ({ cls := "EthernetGatesModel", name := "none", desc := "(I)Z" } : Jvm.MethodName)),
  (Cond.instanceMethod ({ cls := "EthernetGatesModel", name := "gate", desc := "(IIJJ)I" } : Jvm.MethodName)),
  (Cond.selects "EthernetGatesModel" ({ cls := "EthernetGatesModel", name := "gate", desc := "(IIJJ)I" } : Jvm.MethodName) ({ cls := "EthernetGatesModel", name := "gate", desc := "(IIJJ)I" } : Jvm.MethodName)),
  (Cond.instanceMethod ({ cls := "EthernetGatesModel", name := "noRank", desc := "(II)Z" } : Jvm.MethodName)),
  (Cond.instanceMethod ({ cls := "EthernetGatesModel", name := "cycle", desc := "(J)I" } : Jvm.MethodName)),
  (Cond.selects "EthernetGatesModel" ({ cls := "EthernetGatesModel", name := "cycle", desc := "(J)I" } : Jvm.MethodName) ({ cls := "EthernetGatesModel", name := "cycle", desc := "(J)I" } : Jvm.MethodName)),
  (Cond.instanceMethod ({ cls := "EthernetGatesModel", name := "learn", desc := "(IIJ)I" } : Jvm.MethodName)),
  (Cond.selects "EthernetGatesModel" ({ cls := "EthernetGatesModel", name := "learn", desc := "(IIJ)I" } : Jvm.MethodName) ({ cls := "EthernetGatesModel", name := "learn", desc := "(IIJ)I" } : Jvm.MethodName)),
  (Cond.instanceMethod ({ cls := "EthernetGatesModel", name := "isAt", desc := "(I)Z" } : Jvm.MethodName)),
  (Cond.instanceMethod ({ cls := "EthernetGatesModel", name := "credit", desc := "(IIJJ)I" } : Jvm.MethodName)),
  (Cond.selects "EthernetGatesModel" ({ cls := "EthernetGatesModel", name := "credit", desc := "(IIJJ)I" } : Jvm.MethodName) ({ cls := "EthernetGatesModel", name := "credit", desc := "(IIJJ)I" } : Jvm.MethodName)),
  (Cond.instanceMethod ({ cls := "EthernetGatesModel", name := "filter", desc := "(IJ)I" } : Jvm.MethodName)),
  (Cond.selects "EthernetGatesModel" ({ cls := "EthernetGatesModel", name := "filter", desc := "(IJ)I" } : Jvm.MethodName) ({ cls := "EthernetGatesModel", name := "filter", desc := "(IJ)I" } : Jvm.MethodName)),
  (Cond.instanceMethod ({ cls := "EthernetGatesModel", name := "look", desc := "(I)V" } : Jvm.MethodName)),
  (Cond.instanceMethod ({ cls := "EthernetGatesModel", name := "clock", desc := "(IJ)I" } : Jvm.MethodName)),
  (Cond.selects "EthernetGatesModel" ({ cls := "EthernetGatesModel", name := "clock", desc := "(IJ)I" } : Jvm.MethodName) ({ cls := "EthernetGatesModel", name := "clock", desc := "(IJ)I" } : Jvm.MethodName)),
  (Cond.instanceMethod ({ cls := "EthernetGatesModel", name := "service", desc := "(II)I" } : Jvm.MethodName)),
  (Cond.selects "EthernetGatesModel" ({ cls := "EthernetGatesModel", name := "service", desc := "(II)I" } : Jvm.MethodName) ({ cls := "EthernetGatesModel", name := "service", desc := "(II)I" } : Jvm.MethodName)),
  (Cond.instanceMethod ({ cls := "EthernetGatesModel", name := "frame", desc := "(IIII)I" } : Jvm.MethodName)),
  (Cond.selects "EthernetGatesModel" ({ cls := "EthernetGatesModel", name := "frame", desc := "(IIII)I" } : Jvm.MethodName) ({ cls := "EthernetGatesModel", name := "frame", desc := "(IIII)I" } : Jvm.MethodName)),
  (Cond.instanceMethod ({ cls := "EthernetGatesModel", name := "enter", desc := "(III)I" } : Jvm.MethodName)),
  (Cond.instanceMethod ({ cls := "EthernetGatesModel", name := "run", desc := "(J)I" } : Jvm.MethodName)),
  (Cond.selects "EthernetGatesModel" ({ cls := "EthernetGatesModel", name := "run", desc := "(J)I" } : Jvm.MethodName) ({ cls := "EthernetGatesModel", name := "run", desc := "(J)I" } : Jvm.MethodName)),
  (Cond.instanceMethod ({ cls := "EthernetGatesModel", name := "tick", desc := "()V" } : Jvm.MethodName)),
  (Cond.instanceMethod ({ cls := "EthernetGatesModel", name := "may", desc := "(II)Z" } : Jvm.MethodName)),
  (Cond.instanceMethod ({ cls := "EthernetGatesModel", name := "time", desc := "(II)J" } : Jvm.MethodName)),
  (Cond.instanceMethod ({ cls := "EthernetGatesModel", name := "open", desc := "(IJJ)Z" } : Jvm.MethodName)),
  (Cond.instanceMethod ({ cls := "EthernetGatesModel", name := "begin", desc := "(II)V" } : Jvm.MethodName)),
  (Cond.instanceMethod ({ cls := "EthernetGatesModel", name := "left", desc := "(II)I" } : Jvm.MethodName)),
  (Cond.selects "EthernetGatesModel" ({ cls := "EthernetGatesModel", name := "left", desc := "(II)I" } : Jvm.MethodName) ({ cls := "EthernetGatesModel", name := "left", desc := "(II)I" } : Jvm.MethodName)),
  (Cond.instanceMethod ({ cls := "EthernetGatesModel", name := "dropped", desc := "(I)I" } : Jvm.MethodName)),
  (Cond.selects "EthernetGatesModel" ({ cls := "EthernetGatesModel", name := "dropped", desc := "(I)I" } : Jvm.MethodName) ({ cls := "EthernetGatesModel", name := "dropped", desc := "(I)I" } : Jvm.MethodName)),
  (Cond.selects "[Ljava/lang/Object;" ({ cls := "java/lang/Object", name := "getClass", desc := "()Ljava/lang/Class;" } : Jvm.MethodName) ({ cls := "java/lang/Object", name := "getClass", desc := "()Ljava/lang/Class;" } : Jvm.MethodName))]
def am_Ts : List Cond := [Cond.selects "EthernetGates" ⟨"EthernetGates", "findPort", "(I)LEthernetGates$Port;"⟩ ⟨"EthernetGates", "findPort", "(I)LEthernetGates$Port;"⟩,
  Cond.selects "EthernetGates$Port" ⟨"EthernetGates$Port", "isSending", "()Z"⟩ ⟨"EthernetGates$Port", "isSending", "()Z"⟩,
  Cond.selects "EthernetGates$Port" ⟨"EthernetGates$Port", "loseFrames", "()I"⟩ ⟨"EthernetGates$Port", "loseFrames", "()I"⟩,
  Cond.selects "EthernetGates$PortRank" ⟨"EthernetGates$PortRank", "addWindow", "(JJ)Z"⟩ ⟨"EthernetGates$PortRank", "addWindow", "(JJ)Z"⟩,
  Cond.selects "EthernetGates" ⟨"EthernetGates", "addressOf", "(I)LEthernetGates$Address;"⟩ ⟨"EthernetGates", "addressOf", "(I)LEthernetGates$Address;"⟩,
  Cond.selects "EthernetGates$Stream" ⟨"EthernetGates$Stream", "takesOne", "(J)Z"⟩ ⟨"EthernetGates$Stream", "takesOne", "(J)Z"⟩,
  Cond.selects "EthernetGates$Stream" ⟨"EthernetGates$Stream", "takenAt", "(J)I"⟩ ⟨"EthernetGates$Stream", "takenAt", "(J)I"⟩,
  Cond.selects "EthernetGates$Address" ⟨"EthernetGates$Address", "portAt", "(J)I"⟩ ⟨"EthernetGates$Address", "portAt", "(J)I"⟩,
  Cond.selects "EthernetGates$Address" ⟨"EthernetGates$Address", "isFixed", "()Z"⟩ ⟨"EthernetGates$Address", "isFixed", "()Z"⟩,
  Cond.selects "EthernetGates" ⟨"EthernetGates", "queueCopies", "(LEthernetGates$Port;III)I"⟩ ⟨"EthernetGates", "queueCopies", "(LEthernetGates$Port;III)I"⟩,
  Cond.selects "EthernetGates$Port" ⟨"EthernetGates$Port", "queue", "(III)Z"⟩ ⟨"EthernetGates$Port", "queue", "(III)Z"⟩,
  Cond.selects "EthernetGates$PortRank" ⟨"EthernetGates$PortRank", "add", "(II)Z"⟩ ⟨"EthernetGates$PortRank", "add", "(II)Z"⟩,
  Cond.selects "EthernetGates" ⟨"EthernetGates", "endSendings", "()V"⟩ ⟨"EthernetGates", "endSendings", "()V"⟩,
  Cond.selects "java/util/ArrayList" ⟨"java/util/ArrayList", "add", "(Ljava/lang/Object;[Ljava/lang/Object;I)V"⟩ ⟨"java/util/ArrayList", "add", "(Ljava/lang/Object;[Ljava/lang/Object;I)V"⟩,
  Cond.selects "java/util/ArrayList" ⟨"java/util/ArrayList", "grow", "()[Ljava/lang/Object;"⟩ ⟨"java/util/ArrayList", "grow", "()[Ljava/lang/Object;"⟩,
  Cond.selects "java/util/ArrayList" ⟨"java/util/ArrayList", "grow", "(I)[Ljava/lang/Object;"⟩ ⟨"java/util/ArrayList", "grow", "(I)[Ljava/lang/Object;"⟩,
  Cond.selects "EthernetGates" ⟨"EthernetGates", "beginSendings", "()V"⟩ ⟨"EthernetGates", "beginSendings", "()V"⟩,
  Cond.selects "EthernetGates$Port" ⟨"EthernetGates$Port", "beginNext", "(JJ)V"⟩ ⟨"EthernetGates$Port", "beginNext", "(JJ)V"⟩,
  Cond.selects "EthernetGates$PortRank" ⟨"EthernetGates$PortRank", "firstBits", "()I"⟩ ⟨"EthernetGates$PortRank", "firstBits", "()I"⟩,
  Cond.selects "EthernetGates$PortRank" ⟨"EthernetGates$PortRank", "letsBegin", "(JJ)Z"⟩ ⟨"EthernetGates$PortRank", "letsBegin", "(JJ)Z"⟩,
  Cond.selects "EthernetGates$PortRank" ⟨"EthernetGates$PortRank", "isShaped", "()Z"⟩ ⟨"EthernetGates$PortRank", "isShaped", "()Z"⟩,
  Cond.selects "EthernetGates$PortRank" ⟨"EthernetGates$PortRank", "isOpenFor", "(JJ)Z"⟩ ⟨"EthernetGates$PortRank", "isOpenFor", "(JJ)Z"⟩,
  Cond.selects "EthernetGates$PortRank" ⟨"EthernetGates$PortRank", "removeFirst", "()I"⟩ ⟨"EthernetGates$PortRank", "removeFirst", "()I"⟩,
  Cond.selects "EthernetGates" ⟨"EthernetGates", "ticksUntilChange", "()J"⟩ ⟨"EthernetGates", "ticksUntilChange", "()J"⟩,
  Cond.selects "EthernetGates$Port" ⟨"EthernetGates$Port", "ticksUntilChange", "(J)J"⟩ ⟨"EthernetGates$Port", "ticksUntilChange", "(J)J"⟩,
  Cond.selects "EthernetGates" ⟨"EthernetGates", "moveCredits", "(J)V"⟩ ⟨"EthernetGates", "moveCredits", "(J)V"⟩,
  Cond.selects "EthernetGates$Port" ⟨"EthernetGates$Port", "moveCredits", "(J)V"⟩ ⟨"EthernetGates$Port", "moveCredits", "(J)V"⟩,
  Cond.selects "EthernetGates$PortRank" ⟨"EthernetGates$PortRank", "moveCredit", "(JJ)V"⟩ ⟨"EthernetGates$PortRank", "moveCredit", "(JJ)V"⟩,
  Cond.selects "EthernetGates$PortRank" ⟨"EthernetGates$PortRank", "shape", "(JJ)V"⟩ ⟨"EthernetGates$PortRank", "shape", "(JJ)V"⟩,
  Cond.selects "EthernetGates" ⟨"EthernetGates", "offererOf", "(I)I"⟩ ⟨"EthernetGates", "offererOf", "(I)I"⟩,
  Cond.selects "java/lang/Throwable" ⟨"java/lang/Throwable", "fillInStackTrace", "(I)Ljava/lang/Throwable;"⟩ ⟨"java/lang/Throwable", "fillInStackTrace", "(I)Ljava/lang/Throwable;"⟩,
  Cond.selects "EthernetGatesModel" ⟨"EthernetGatesModel", "none", "(I)Z"⟩ ⟨"EthernetGatesModel", "none", "(I)Z"⟩,
  Cond.selects "EthernetGatesModel" ⟨"EthernetGatesModel", "noRank", "(II)Z"⟩ ⟨"EthernetGatesModel", "noRank", "(II)Z"⟩,
  Cond.selects "EthernetGatesModel" ⟨"EthernetGatesModel", "isAt", "(I)Z"⟩ ⟨"EthernetGatesModel", "isAt", "(I)Z"⟩,
  Cond.selects "EthernetGatesModel" ⟨"EthernetGatesModel", "look", "(I)V"⟩ ⟨"EthernetGatesModel", "look", "(I)V"⟩,
  Cond.selects "EthernetGatesModel" ⟨"EthernetGatesModel", "enter", "(III)I"⟩ ⟨"EthernetGatesModel", "enter", "(III)I"⟩,
  Cond.selects "EthernetGatesModel" ⟨"EthernetGatesModel", "tick", "()V"⟩ ⟨"EthernetGatesModel", "tick", "()V"⟩,
  Cond.selects "EthernetGatesModel" ⟨"EthernetGatesModel", "may", "(II)Z"⟩ ⟨"EthernetGatesModel", "may", "(II)Z"⟩,
  Cond.selects "EthernetGatesModel" ⟨"EthernetGatesModel", "time", "(II)J"⟩ ⟨"EthernetGatesModel", "time", "(II)J"⟩,
  Cond.selects "EthernetGatesModel" ⟨"EthernetGatesModel", "open", "(IJJ)Z"⟩ ⟨"EthernetGatesModel", "open", "(IJJ)Z"⟩,
  Cond.selects "EthernetGatesModel" ⟨"EthernetGatesModel", "begin", "(II)V"⟩ ⟨"EthernetGatesModel", "begin", "(II)V"⟩]
def am_Tq : List Cond := [(Cond.code ({ cls := "EthernetGates", name := "<init>", desc := "(I)V" } : Jvm.MethodName) prog_1_method_1_code (4 : Nat) (Option.none : Option Jvm.ClassFile.FieldType)),
  (Cond.code ({ cls := "java/lang/Object", name := "<init>", desc := "()V" } : Jvm.MethodName) object_method_1_code (1 : Nat) (Option.none : Option Jvm.ClassFile.FieldType)),
  (Cond.code ({ cls := "EthernetGates$Port", name := "<init>", desc := "(I)V" } : Jvm.MethodName) prog_4_method_1_code (3 : Nat) (Option.none : Option Jvm.ClassFile.FieldType)),
  (Cond.code ({ cls := "EthernetGates$PortRank", name := "<init>", desc := "()V" } : Jvm.MethodName) prog_5_method_1_code (1 : Nat) (Option.none : Option Jvm.ClassFile.FieldType)),
  (Cond.code ({ cls := "java/util/ArrayList", name := "<init>", desc := "()V" } : Jvm.MethodName) prog_21_method_2_code (1 : Nat) (Option.none : Option Jvm.ClassFile.FieldType)),
  (Cond.code ({ cls := "java/util/AbstractList", name := "<init>", desc := "()V" } : Jvm.MethodName) prog_20_method_1_code (1 : Nat) (Option.none : Option Jvm.ClassFile.FieldType)),
  (Cond.code ({ cls := "java/util/AbstractCollection", name := "<init>", desc := "()V" } : Jvm.MethodName) prog_19_method_1_code (1 : Nat) (Option.none : Option Jvm.ClassFile.FieldType)),
  (Cond.code ({ cls := "EthernetGates", name := "link", desc := "(IJ)I" } : Jvm.MethodName) prog_1_method_2_code (6 : Nat) (Option.some Jvm.ClassFile.FieldType.int)),
  (Cond.code ({ cls := "EthernetGates", name := "findPort", desc := "(I)LEthernetGates$Port;" } : Jvm.MethodName) prog_1_method_15_code (2 : Nat) (Option.some (Jvm.ClassFile.FieldType.object "EthernetGates$Port"))),
  (Cond.code ({ cls := "EthernetGates$Port", name := "isSending", desc := "()Z" } : Jvm.MethodName) prog_4_method_2_code (1 : Nat) (Option.some Jvm.ClassFile.FieldType.boolean)),
  (Cond.code ({ cls := "EthernetGates$Port", name := "loseFrames", desc := "()I" } : Jvm.MethodName) prog_4_method_4_code (3 : Nat) (Option.some Jvm.ClassFile.FieldType.int)),
  (Cond.code ({ cls := "EthernetGates", name := "gate", desc := "(IIJJ)I" } : Jvm.MethodName) prog_1_method_3_code (9 : Nat) (Option.some Jvm.ClassFile.FieldType.int)),
  (Cond.code ({ cls := "EthernetGates", name := "isRank", desc := "(I)Z" } : Jvm.MethodName) prog_1_method_17_code (1 : Nat) (Option.some Jvm.ClassFile.FieldType.boolean)),
  (Cond.code ({ cls := "EthernetGates$PortRank", name := "addWindow", desc := "(JJ)Z" } : Jvm.MethodName) prog_5_method_5_code (5 : Nat) (Option.some Jvm.ClassFile.FieldType.boolean)),
  (Cond.code ({ cls := "java/lang/Math", name := "max", desc := "(JJ)J" } : Jvm.MethodName) prog_14_method_66_code (4 : Nat) (Option.some Jvm.ClassFile.FieldType.long)),
  (Cond.code ({ cls := "EthernetGates", name := "frame", desc := "(IIII)I" } : Jvm.MethodName) prog_1_method_5_code (7 : Nat) (Option.some Jvm.ClassFile.FieldType.int)),
  (Cond.code ({ cls := "EthernetGates", name := "isAddress", desc := "(I)Z" } : Jvm.MethodName) prog_1_method_18_code (1 : Nat) (Option.some Jvm.ClassFile.FieldType.boolean)),
  (Cond.code ({ cls := "EthernetGates", name := "addressOf", desc := "(I)LEthernetGates$Address;" } : Jvm.MethodName) prog_1_method_16_code (3 : Nat) (Option.some (Jvm.ClassFile.FieldType.object "EthernetGates$Address"))),
  (Cond.code ({ cls := "EthernetGates$Address", name := "<init>", desc := "()V" } : Jvm.MethodName) prog_2_method_1_code (2 : Nat) (Option.none : Option Jvm.ClassFile.FieldType)),
  (Cond.code ({ cls := "EthernetGates$Stream", name := "<init>", desc := "()V" } : Jvm.MethodName) prog_6_method_1_code (1 : Nat) (Option.none : Option Jvm.ClassFile.FieldType)),
  (Cond.code ({ cls := "EthernetGates$Stream", name := "takesOne", desc := "(J)Z" } : Jvm.MethodName) prog_6_method_3_code (4 : Nat) (Option.some Jvm.ClassFile.FieldType.boolean)),
  (Cond.code ({ cls := "EthernetGates$Stream", name := "takenAt", desc := "(J)I" } : Jvm.MethodName) prog_6_method_2_code (3 : Nat) (Option.some Jvm.ClassFile.FieldType.int)),
  (Cond.code ({ cls := "EthernetGates$Address", name := "portAt", desc := "(J)I" } : Jvm.MethodName) prog_2_method_3_code (3 : Nat) (Option.some Jvm.ClassFile.FieldType.int)),
  (Cond.code ({ cls := "EthernetGates$Address", name := "isFixed", desc := "()Z" } : Jvm.MethodName) prog_2_method_2_code (1 : Nat) (Option.some Jvm.ClassFile.FieldType.boolean)),
  (Cond.code ({ cls := "EthernetGates", name := "queueCopies", desc := "(LEthernetGates$Port;III)I" } : Jvm.MethodName) prog_1_method_20_code (9 : Nat) (Option.some Jvm.ClassFile.FieldType.int)),
  (Cond.code ({ cls := "EthernetGates$Port", name := "queue", desc := "(III)Z" } : Jvm.MethodName) prog_4_method_3_code (4 : Nat) (Option.some Jvm.ClassFile.FieldType.boolean)),
  (Cond.code ({ cls := "EthernetGates$PortRank", name := "add", desc := "(II)Z" } : Jvm.MethodName) prog_5_method_2_code (4 : Nat) (Option.some Jvm.ClassFile.FieldType.boolean)),
  (Cond.code ({ cls := "EthernetGates", name := "run", desc := "(J)I" } : Jvm.MethodName) prog_1_method_6_code (9 : Nat) (Option.some Jvm.ClassFile.FieldType.int)),
  (Cond.code ({ cls := "EthernetGates", name := "endSendings", desc := "()V" } : Jvm.MethodName) prog_1_method_21_code (3 : Nat) (Option.none : Option Jvm.ClassFile.FieldType)),
  (Cond.code ({ cls := "java/util/ArrayList", name := "size", desc := "()I" } : Jvm.MethodName) prog_21_method_8_code (1 : Nat) (Option.some Jvm.ClassFile.FieldType.int)),
  (Cond.code ({ cls := "EthernetGates$Departure", name := "<init>", desc := "(IIJJ)V" } : Jvm.MethodName) prog_3_method_1_code (7 : Nat) (Option.none : Option Jvm.ClassFile.FieldType)),
  (Cond.code ({ cls := "java/util/ArrayList", name := "add", desc := "(Ljava/lang/Object;)Z" } : Jvm.MethodName) prog_21_method_25_code (2 : Nat) (Option.some Jvm.ClassFile.FieldType.boolean)),
  (Cond.code ({ cls := "java/util/ArrayList", name := "add", desc := "(Ljava/lang/Object;[Ljava/lang/Object;I)V" } : Jvm.MethodName) prog_21_method_24_code (4 : Nat) (Option.none : Option Jvm.ClassFile.FieldType)),
  (Cond.code ({ cls := "java/util/ArrayList", name := "grow", desc := "()[Ljava/lang/Object;" } : Jvm.MethodName) prog_21_method_7_code (1 : Nat) (Option.some (Jvm.ClassFile.FieldType.array (Jvm.ClassFile.FieldType.object "java/lang/Object")))),
  (Cond.code ({ cls := "java/util/ArrayList", name := "grow", desc := "(I)[Ljava/lang/Object;" } : Jvm.MethodName) prog_21_method_6_code (4 : Nat) (Option.some (Jvm.ClassFile.FieldType.array (Jvm.ClassFile.FieldType.object "java/lang/Object")))),
  (Cond.code ({ cls := "jdk/internal/util/ArraysSupport", name := "newLength", desc := "(III)I" } : Jvm.MethodName) prog_28_method_27_code (4 : Nat) (Option.some Jvm.ClassFile.FieldType.int)),
  (Cond.code ({ cls := "java/lang/Math", name := "max", desc := "(II)I" } : Jvm.MethodName) prog_14_method_65_code (2 : Nat) (Option.some Jvm.ClassFile.FieldType.int)),
  (Cond.code ({ cls := "jdk/internal/util/ArraysSupport", name := "hugeLength", desc := "(II)I" } : Jvm.MethodName) prog_28_method_28_code (3 : Nat) (Option.some Jvm.ClassFile.FieldType.int)),
  (Cond.code ({ cls := "java/util/Arrays", name := "copyOf", desc := "([Ljava/lang/Object;I)[Ljava/lang/Object;" } : Jvm.MethodName) prog_22_method_119_code (2 : Nat) (Option.some (Jvm.ClassFile.FieldType.array (Jvm.ClassFile.FieldType.object "java/lang/Object")))),
  (Cond.code ({ cls := "java/util/Arrays", name := "copyOf", desc := "([Ljava/lang/Object;ILjava/lang/Class;)[Ljava/lang/Object;" } : Jvm.MethodName) prog_22_method_120_code (4 : Nat) (Option.some (Jvm.ClassFile.FieldType.array (Jvm.ClassFile.FieldType.object "java/lang/Object")))),
  (Cond.code ({ cls := "java/lang/Math", name := "min", desc := "(II)I" } : Jvm.MethodName) prog_14_method_69_code (2 : Nat) (Option.some Jvm.ClassFile.FieldType.int)),
  (Cond.code ({ cls := "EthernetGates", name := "beginSendings", desc := "()V" } : Jvm.MethodName) prog_1_method_22_code (2 : Nat) (Option.none : Option Jvm.ClassFile.FieldType)),
  (Cond.code ({ cls := "EthernetGates$Port", name := "beginNext", desc := "(JJ)V" } : Jvm.MethodName) prog_4_method_5_code (11 : Nat) (Option.none : Option Jvm.ClassFile.FieldType)),
  (Cond.code ({ cls := "EthernetGates$PortRank", name := "firstBits", desc := "()I" } : Jvm.MethodName) prog_5_method_4_code (1 : Nat) (Option.some Jvm.ClassFile.FieldType.int)),
  (Cond.code ({ cls := "EthernetGates$PortRank", name := "letsBegin", desc := "(JJ)Z" } : Jvm.MethodName) prog_5_method_8_code (5 : Nat) (Option.some Jvm.ClassFile.FieldType.boolean)),
  (Cond.code ({ cls := "EthernetGates$PortRank", name := "isShaped", desc := "()Z" } : Jvm.MethodName) prog_5_method_6_code (1 : Nat) (Option.some Jvm.ClassFile.FieldType.boolean)),
  (Cond.code ({ cls := "EthernetGates$PortRank", name := "isOpenFor", desc := "(JJ)Z" } : Jvm.MethodName) prog_5_method_9_code (6 : Nat) (Option.some Jvm.ClassFile.FieldType.boolean)),
  (Cond.code ({ cls := "EthernetGates$PortRank", name := "removeFirst", desc := "()I" } : Jvm.MethodName) prog_5_method_3_code (2 : Nat) (Option.some Jvm.ClassFile.FieldType.int)),
  (Cond.code ({ cls := "EthernetGates", name := "ticksUntilChange", desc := "()J" } : Jvm.MethodName) prog_1_method_23_code (4 : Nat) (Option.some Jvm.ClassFile.FieldType.long)),
  (Cond.code ({ cls := "EthernetGates$Port", name := "ticksUntilChange", desc := "(J)J" } : Jvm.MethodName) prog_4_method_6_code (3 : Nat) (Option.some Jvm.ClassFile.FieldType.long)),
  (Cond.code ({ cls := "java/lang/Math", name := "min", desc := "(JJ)J" } : Jvm.MethodName) prog_14_method_70_code (4 : Nat) (Option.some Jvm.ClassFile.FieldType.long)),
  (Cond.code ({ cls := "EthernetGates", name := "moveCredits", desc := "(J)V" } : Jvm.MethodName) prog_1_method_24_code (4 : Nat) (Option.none : Option Jvm.ClassFile.FieldType)),
  (Cond.code ({ cls := "EthernetGates$Port", name := "moveCredits", desc := "(J)V" } : Jvm.MethodName) prog_4_method_7_code (5 : Nat) (Option.none : Option Jvm.ClassFile.FieldType)),
  (Cond.code ({ cls := "EthernetGates$PortRank", name := "moveCredit", desc := "(JJ)V" } : Jvm.MethodName) prog_5_method_10_code (5 : Nat) (Option.none : Option Jvm.ClassFile.FieldType)),
  (Cond.code ({ cls := "EthernetGates", name := "left", desc := "(II)I" } : Jvm.MethodName) prog_1_method_7_code (4 : Nat) (Option.some Jvm.ClassFile.FieldType.int)),
  (Cond.code ({ cls := "java/util/ArrayList", name := "get", desc := "(I)Ljava/lang/Object;" } : Jvm.MethodName) prog_21_method_20_code (2 : Nat) (Option.some (Jvm.ClassFile.FieldType.object "java/lang/Object"))),
  (Cond.code ({ cls := "java/util/Objects", name := "checkIndex", desc := "(II)I" } : Jvm.MethodName) prog_25_method_17_code (2 : Nat) (Option.some Jvm.ClassFile.FieldType.int)),
  (Cond.code ({ cls := "jdk/internal/util/Preconditions", name := "checkIndex", desc := "(IILjava/util/function/BiFunction;)I" } : Jvm.MethodName) prog_29_method_11_code (3 : Nat) (Option.some Jvm.ClassFile.FieldType.int)),
  (Cond.code ({ cls := "java/util/ArrayList", name := "elementData", desc := "(I)Ljava/lang/Object;" } : Jvm.MethodName) prog_21_method_18_code (2 : Nat) (Option.some (Jvm.ClassFile.FieldType.object "java/lang/Object"))),
  (Cond.code ({ cls := "EthernetGates", name := "learn", desc := "(IIJ)I" } : Jvm.MethodName) prog_1_method_8_code (7 : Nat) (Option.some Jvm.ClassFile.FieldType.int)),
  (Cond.code ({ cls := "EthernetGates", name := "credit", desc := "(IIJJ)I" } : Jvm.MethodName) prog_1_method_9_code (8 : Nat) (Option.some Jvm.ClassFile.FieldType.int)),
  (Cond.code ({ cls := "EthernetGates$PortRank", name := "shape", desc := "(JJ)V" } : Jvm.MethodName) prog_5_method_7_code (5 : Nat) (Option.none : Option Jvm.ClassFile.FieldType)),
  (Cond.code ({ cls := "EthernetGates", name := "filter", desc := "(IJ)I" } : Jvm.MethodName) prog_1_method_10_code (6 : Nat) (Option.some Jvm.ClassFile.FieldType.int)),
  (Cond.code ({ cls := "EthernetGates", name := "clock", desc := "(IJ)I" } : Jvm.MethodName) prog_1_method_11_code (7 : Nat) (Option.some Jvm.ClassFile.FieldType.int)),
  (Cond.code ({ cls := "EthernetGates", name := "dropped", desc := "(I)I" } : Jvm.MethodName) prog_1_method_12_code (2 : Nat) (Option.some Jvm.ClassFile.FieldType.int)),
  (Cond.code ({ cls := "EthernetGates", name := "service", desc := "(II)I" } : Jvm.MethodName) prog_1_method_13_code (3 : Nat) (Option.some Jvm.ClassFile.FieldType.int)),
  (Cond.code ({ cls := "EthernetGates", name := "offererOf", desc := "(I)I" } : Jvm.MethodName) prog_1_method_14_code (2 : Nat) (Option.some Jvm.ClassFile.FieldType.int)),
  (Cond.code ({ cls := "EthernetGates", name := "isService", desc := "(I)Z" } : Jvm.MethodName) prog_1_method_19_code (1 : Nat) (Option.some Jvm.ClassFile.FieldType.boolean)),
  (Cond.code ({ cls := "EthernetGatesLaw", name := "cell", desc := "([II)I" } : Jvm.MethodName) method_2_code (2 : Nat) (Option.some Jvm.ClassFile.FieldType.int)),
  (Cond.code ({ cls := "EthernetGates", name := "cycle", desc := "(J)I" } : Jvm.MethodName) prog_1_method_4_code (3 : Nat) (Option.some Jvm.ClassFile.FieldType.int)),
  (Cond.code ({ cls := "java/lang/Throwable", name := "<init>", desc := "()V" } : Jvm.MethodName) prog_18_method_1_code (1 : Nat) (Option.none : Option Jvm.ClassFile.FieldType)),
  (Cond.code ({ cls := "java/lang/ArithmeticException", name := "<init>", desc := "(Ljava/lang/String;)V" } : Jvm.MethodName) prog_10_method_2_code (2 : Nat) (Option.none : Option Jvm.ClassFile.FieldType)),
  (Cond.code ({ cls := "java/lang/RuntimeException", name := "<init>", desc := "(Ljava/lang/String;)V" } : Jvm.MethodName) prog_15_method_2_code (2 : Nat) (Option.none : Option Jvm.ClassFile.FieldType)),
  (Cond.code ({ cls := "java/lang/Exception", name := "<init>", desc := "(Ljava/lang/String;)V" } : Jvm.MethodName) prog_12_method_2_code (2 : Nat) (Option.none : Option Jvm.ClassFile.FieldType)),
  (Cond.code ({ cls := "java/lang/Throwable", name := "<init>", desc := "(Ljava/lang/String;)V" } : Jvm.MethodName) prog_18_method_2_code (2 : Nat) (Option.none : Option Jvm.ClassFile.FieldType)),
  (Cond.code ({ cls := "EthernetGatesModel", name := "<init>", desc := "(I)V" } : Jvm.MethodName) prog_8_method_1_code (2 : Nat) (Option.none : Option Jvm.ClassFile.FieldType)),
  (Cond.code ({ cls := "EthernetGatesModel", name := "thrown", desc := "()I" } : Jvm.MethodName) prog_8_method_2_code (1 : Nat) (Option.some Jvm.ClassFile.FieldType.int)),
  (Cond.code ({ cls := "EthernetGatesModel", name := "link", desc := "(IJ)I" } : Jvm.MethodName) prog_8_method_5_code (6 : Nat) (Option.some Jvm.ClassFile.FieldType.int)),
  (Cond.code ({ cls := "EthernetGatesModel", name := "none", desc := "(I)Z" } : Jvm.MethodName) prog_8_method_3_code (2 : Nat) (Option.some Jvm.ClassFile.FieldType.boolean)),
  (Cond.code ({ cls := "EthernetGatesModel", name := "gate", desc := "(IIJJ)I" } : Jvm.MethodName) prog_8_method_6_code (8 : Nat) (Option.some Jvm.ClassFile.FieldType.int)),
  (Cond.code ({ cls := "EthernetGatesModel", name := "noRank", desc := "(II)Z" } : Jvm.MethodName) prog_8_method_4_code (3 : Nat) (Option.some Jvm.ClassFile.FieldType.boolean)),
  (Cond.code ({ cls := "EthernetGatesModel", name := "cycle", desc := "(J)I" } : Jvm.MethodName) prog_8_method_7_code (5 : Nat) (Option.some Jvm.ClassFile.FieldType.int)),
  (Cond.code ({ cls := "EthernetGatesModel", name := "learn", desc := "(IIJ)I" } : Jvm.MethodName) prog_8_method_9_code (6 : Nat) (Option.some Jvm.ClassFile.FieldType.int)),
  (Cond.code ({ cls := "EthernetGatesModel", name := "isAt", desc := "(I)Z" } : Jvm.MethodName) prog_8_method_8_code (2 : Nat) (Option.some Jvm.ClassFile.FieldType.boolean)),
  (Cond.code ({ cls := "EthernetGatesModel", name := "credit", desc := "(IIJJ)I" } : Jvm.MethodName) prog_8_method_10_code (7 : Nat) (Option.some Jvm.ClassFile.FieldType.int)),
  (Cond.code ({ cls := "EthernetGatesModel", name := "filter", desc := "(IJ)I" } : Jvm.MethodName) prog_8_method_12_code (4 : Nat) (Option.some Jvm.ClassFile.FieldType.int)),
  (Cond.code ({ cls := "EthernetGatesModel", name := "look", desc := "(I)V" } : Jvm.MethodName) prog_8_method_11_code (2 : Nat) (Option.none : Option Jvm.ClassFile.FieldType)),
  (Cond.code ({ cls := "EthernetGatesModel", name := "clock", desc := "(IJ)I" } : Jvm.MethodName) prog_8_method_13_code (4 : Nat) (Option.some Jvm.ClassFile.FieldType.int)),
  (Cond.code ({ cls := "EthernetGatesModel", name := "service", desc := "(II)I" } : Jvm.MethodName) prog_8_method_14_code (3 : Nat) (Option.some Jvm.ClassFile.FieldType.int)),
  (Cond.code ({ cls := "EthernetGatesModel", name := "frame", desc := "(IIII)I" } : Jvm.MethodName) prog_8_method_16_code (10 : Nat) (Option.some Jvm.ClassFile.FieldType.int)),
  (Cond.code ({ cls := "EthernetGatesModel", name := "enter", desc := "(III)I" } : Jvm.MethodName) prog_8_method_15_code (5 : Nat) (Option.some Jvm.ClassFile.FieldType.int)),
  (Cond.code ({ cls := "EthernetGatesModel", name := "run", desc := "(J)I" } : Jvm.MethodName) prog_8_method_22_code (6 : Nat) (Option.some Jvm.ClassFile.FieldType.int)),
  (Cond.code ({ cls := "EthernetGatesModel", name := "tick", desc := "()V" } : Jvm.MethodName) prog_8_method_21_code (3 : Nat) (Option.none : Option Jvm.ClassFile.FieldType)),
  (Cond.code ({ cls := "EthernetGatesModel", name := "may", desc := "(II)Z" } : Jvm.MethodName) prog_8_method_19_code (5 : Nat) (Option.some Jvm.ClassFile.FieldType.boolean)),
  (Cond.code ({ cls := "EthernetGatesModel", name := "time", desc := "(II)J" } : Jvm.MethodName) prog_8_method_17_code (5 : Nat) (Option.some Jvm.ClassFile.FieldType.long)),
  (Cond.code ({ cls := "EthernetGatesModel", name := "open", desc := "(IJJ)Z" } : Jvm.MethodName) prog_8_method_18_code (8 : Nat) (Option.some Jvm.ClassFile.FieldType.boolean)),
  (Cond.code ({ cls := "EthernetGatesModel", name := "begin", desc := "(II)V" } : Jvm.MethodName) prog_8_method_20_code (5 : Nat) (Option.none : Option Jvm.ClassFile.FieldType)),
  (Cond.code ({ cls := "EthernetGatesModel", name := "left", desc := "(II)I" } : Jvm.MethodName) prog_8_method_23_code (3 : Nat) (Option.some Jvm.ClassFile.FieldType.int)),
  (Cond.code ({ cls := "EthernetGatesModel", name := "dropped", desc := "(I)I" } : Jvm.MethodName) prog_8_method_24_code (2 : Nat) (Option.some Jvm.ClassFile.FieldType.int))]
def am_Tg : List Cond := am_Tf ++ (am_Tm ++ (am_Tc ++ (am_Ti ++ (am_Tx ++ (am_Tk ++ (am_Ts ++ am_Tq))))))
abbrev mi_X_init : Nat := 1
abbrev mi_P_init : Nat := 2
abbrev mi_K_init : Nat := 3
abbrev mi_L_init : Nat := 4
abbrev mi_L1_init : Nat := 5
abbrev mi_L0_init : Nat := 6
abbrev mi_X_link : Nat := 7
abbrev mi_X_findPort : Nat := 8
abbrev mi_P_isSending : Nat := 9
abbrev mi_P_loseFrames : Nat := 10
abbrev mi_X_gate : Nat := 11
abbrev mi_X_isRank : Nat := 12
abbrev mi_K_addWindow : Nat := 13
abbrev mi_X_frame : Nat := 14
abbrev mi_X_isAddress : Nat := 15
abbrev mi_X_addressOf : Nat := 16
abbrev mi_A_init : Nat := 17
abbrev mi_S_init : Nat := 18
abbrev mi_S_takesOne : Nat := 19
abbrev mi_S_takenAt : Nat := 20
abbrev mi_A_portAt : Nat := 21
abbrev mi_A_isFixed : Nat := 22
abbrev mi_X_queueCopies : Nat := 23
abbrev mi_P_queue : Nat := 24
abbrev mi_K_add : Nat := 25
abbrev mi_X_run : Nat := 26
abbrev mi_X_endSendings : Nat := 27
abbrev mi_L_size : Nat := 28
abbrev mi_D_init : Nat := 29
abbrev mi_L_add : Nat := 30
abbrev mi_L_add2 : Nat := 31
abbrev mi_L_grow : Nat := 32
abbrev mi_L_grow2 : Nat := 33
abbrev mi_Q_newLength : Nat := 34
abbrev mi_Q_hugeLength : Nat := 35
abbrev mi_R_copyOf : Nat := 36
abbrev mi_X_beginSendings : Nat := 37
abbrev mi_P_beginNext : Nat := 38
abbrev mi_K_firstBits : Nat := 39
abbrev mi_K_letsBegin : Nat := 40
abbrev mi_K_isShaped : Nat := 41
abbrev mi_K_isOpenFor : Nat := 42
abbrev mi_K_removeFirst : Nat := 43
abbrev mi_X_ticksUntilChange : Nat := 44
abbrev mi_P_ticksUntilChange : Nat := 45
abbrev mi_X_moveCredits : Nat := 46
abbrev mi_P_moveCredits : Nat := 47
abbrev mi_K_moveCredit : Nat := 48
abbrev mi_X_left : Nat := 49
abbrev mi_L_get : Nat := 50
abbrev mi_O_checkIndex : Nat := 51
abbrev mi_V_checkIndex : Nat := 52
abbrev mi_L_elementData : Nat := 53
abbrev mi_X_learn : Nat := 54
abbrev mi_X_credit : Nat := 55
abbrev mi_K_shape : Nat := 56
abbrev mi_X_filter : Nat := 57
abbrev mi_X_clock : Nat := 58
abbrev mi_X_dropped : Nat := 59
abbrev mi_X_service : Nat := 60
abbrev mi_X_offererOf : Nat := 61
abbrev mi_X_isService : Nat := 62
abbrev mi_W_cell : Nat := 63
abbrev mi_X_cycle : Nat := 64
abbrev mi_M_init : Nat := 65
abbrev mi_M_thrown : Nat := 66
abbrev mi_M_link : Nat := 67
abbrev mi_M_none : Nat := 68
abbrev mi_M_gate : Nat := 69
abbrev mi_M_noRank : Nat := 70
abbrev mi_M_cycle : Nat := 71
abbrev mi_M_learn : Nat := 72
abbrev mi_M_isAt : Nat := 73
abbrev mi_M_credit : Nat := 74
abbrev mi_M_filter : Nat := 75
abbrev mi_M_look : Nat := 76
abbrev mi_M_clock : Nat := 77
abbrev mi_M_service : Nat := 78
abbrev mi_M_frame : Nat := 79
abbrev mi_M_enter : Nat := 80
abbrev mi_M_run : Nat := 81
abbrev mi_M_tick : Nat := 82
abbrev mi_M_may : Nat := 83
abbrev mi_M_time : Nat := 84
abbrev mi_M_open : Nat := 85
abbrev mi_M_begin : Nat := 86
abbrev mi_M_left : Nat := 87
abbrev mi_M_dropped : Nat := 88
abbrev mi_W_law : Nat := 89
abbrev mi_W_cycle : Nat := 90
def am_mis : List (MethodName × ByteArray × Nat × Option FieldType) := [(Lib.objectInit, ⟨#[0xb1]⟩, 1, none),
  (⟨"EthernetGates", "<init>", "(I)V"⟩, prog_1_method_1_code, 4, none),
  (⟨"EthernetGates$Port", "<init>", "(I)V"⟩, prog_4_method_1_code, 3, none),
  (⟨"EthernetGates$PortRank", "<init>", "()V"⟩, prog_5_method_1_code, 1, none),
  (⟨"java/util/ArrayList", "<init>", "()V"⟩, prog_21_method_2_code, 1, none),
  (⟨"java/util/AbstractList", "<init>", "()V"⟩, prog_20_method_1_code, 1, none),
  (⟨"java/util/AbstractCollection", "<init>", "()V"⟩, prog_19_method_1_code, 1, none),
  (⟨"EthernetGates", "link", "(IJ)I"⟩, prog_1_method_2_code, 6, (some FieldType.int)),
  (⟨"EthernetGates", "findPort", "(I)LEthernetGates$Port;"⟩, prog_1_method_15_code, 2, (some (FieldType.object "EthernetGates$Port"))),
  (⟨"EthernetGates$Port", "isSending", "()Z"⟩, prog_4_method_2_code, 1, (some FieldType.boolean)),
  (⟨"EthernetGates$Port", "loseFrames", "()I"⟩, prog_4_method_4_code, 3, (some FieldType.int)),
  (⟨"EthernetGates", "gate", "(IIJJ)I"⟩, prog_1_method_3_code, 9, (some FieldType.int)),
  (⟨"EthernetGates", "isRank", "(I)Z"⟩, prog_1_method_17_code, 1, (some FieldType.boolean)),
  (⟨"EthernetGates$PortRank", "addWindow", "(JJ)Z"⟩, prog_5_method_5_code, 5, (some FieldType.boolean)),
  (⟨"EthernetGates", "frame", "(IIII)I"⟩, prog_1_method_5_code, 7, (some FieldType.int)),
  (⟨"EthernetGates", "isAddress", "(I)Z"⟩, prog_1_method_18_code, 1, (some FieldType.boolean)),
  (⟨"EthernetGates", "addressOf", "(I)LEthernetGates$Address;"⟩, prog_1_method_16_code, 3, (some (FieldType.object "EthernetGates$Address"))),
  (⟨"EthernetGates$Address", "<init>", "()V"⟩, prog_2_method_1_code, 2, none),
  (⟨"EthernetGates$Stream", "<init>", "()V"⟩, prog_6_method_1_code, 1, none),
  (⟨"EthernetGates$Stream", "takesOne", "(J)Z"⟩, prog_6_method_3_code, 4, (some FieldType.boolean)),
  (⟨"EthernetGates$Stream", "takenAt", "(J)I"⟩, prog_6_method_2_code, 3, (some FieldType.int)),
  (⟨"EthernetGates$Address", "portAt", "(J)I"⟩, prog_2_method_3_code, 3, (some FieldType.int)),
  (⟨"EthernetGates$Address", "isFixed", "()Z"⟩, prog_2_method_2_code, 1, (some FieldType.boolean)),
  (⟨"EthernetGates", "queueCopies", "(LEthernetGates$Port;III)I"⟩, prog_1_method_20_code, 9, (some FieldType.int)),
  (⟨"EthernetGates$Port", "queue", "(III)Z"⟩, prog_4_method_3_code, 4, (some FieldType.boolean)),
  (⟨"EthernetGates$PortRank", "add", "(II)Z"⟩, prog_5_method_2_code, 4, (some FieldType.boolean)),
  (⟨"EthernetGates", "run", "(J)I"⟩, prog_1_method_6_code, 9, (some FieldType.int)),
  (⟨"EthernetGates", "endSendings", "()V"⟩, prog_1_method_21_code, 3, none),
  (⟨"java/util/ArrayList", "size", "()I"⟩, prog_21_method_8_code, 1, (some FieldType.int)),
  (⟨"EthernetGates$Departure", "<init>", "(IIJJ)V"⟩, prog_3_method_1_code, 7, none),
  (⟨"java/util/ArrayList", "add", "(Ljava/lang/Object;)Z"⟩, prog_21_method_25_code, 2, (some FieldType.boolean)),
  (⟨"java/util/ArrayList", "add", "(Ljava/lang/Object;[Ljava/lang/Object;I)V"⟩, prog_21_method_24_code, 4, none),
  (⟨"java/util/ArrayList", "grow", "()[Ljava/lang/Object;"⟩, prog_21_method_7_code, 1, (some (FieldType.array (FieldType.object "java/lang/Object")))),
  (⟨"java/util/ArrayList", "grow", "(I)[Ljava/lang/Object;"⟩, prog_21_method_6_code, 4, (some (FieldType.array (FieldType.object "java/lang/Object")))),
  (⟨"jdk/internal/util/ArraysSupport", "newLength", "(III)I"⟩, prog_28_method_27_code, 4, (some FieldType.int)),
  (⟨"jdk/internal/util/ArraysSupport", "hugeLength", "(II)I"⟩, prog_28_method_28_code, 3, (some FieldType.int)),
  (⟨"java/util/Arrays", "copyOf", "([Ljava/lang/Object;I)[Ljava/lang/Object;"⟩, prog_22_method_119_code, 2, (some (FieldType.array (FieldType.object "java/lang/Object")))),
  (⟨"EthernetGates", "beginSendings", "()V"⟩, prog_1_method_22_code, 2, none),
  (⟨"EthernetGates$Port", "beginNext", "(JJ)V"⟩, prog_4_method_5_code, 11, none),
  (⟨"EthernetGates$PortRank", "firstBits", "()I"⟩, prog_5_method_4_code, 1, (some FieldType.int)),
  (⟨"EthernetGates$PortRank", "letsBegin", "(JJ)Z"⟩, prog_5_method_8_code, 5, (some FieldType.boolean)),
  (⟨"EthernetGates$PortRank", "isShaped", "()Z"⟩, prog_5_method_6_code, 1, (some FieldType.boolean)),
  (⟨"EthernetGates$PortRank", "isOpenFor", "(JJ)Z"⟩, prog_5_method_9_code, 6, (some FieldType.boolean)),
  (⟨"EthernetGates$PortRank", "removeFirst", "()I"⟩, prog_5_method_3_code, 2, (some FieldType.int)),
  (⟨"EthernetGates", "ticksUntilChange", "()J"⟩, prog_1_method_23_code, 4, (some FieldType.long)),
  (⟨"EthernetGates$Port", "ticksUntilChange", "(J)J"⟩, prog_4_method_6_code, 3, (some FieldType.long)),
  (⟨"EthernetGates", "moveCredits", "(J)V"⟩, prog_1_method_24_code, 4, none),
  (⟨"EthernetGates$Port", "moveCredits", "(J)V"⟩, prog_4_method_7_code, 5, none),
  (⟨"EthernetGates$PortRank", "moveCredit", "(JJ)V"⟩, prog_5_method_10_code, 5, none),
  (⟨"EthernetGates", "left", "(II)I"⟩, prog_1_method_7_code, 4, (some FieldType.int)),
  (⟨"java/util/ArrayList", "get", "(I)Ljava/lang/Object;"⟩, prog_21_method_20_code, 2, (some (FieldType.object "java/lang/Object"))),
  (⟨"java/util/Objects", "checkIndex", "(II)I"⟩, prog_25_method_17_code, 2, (some FieldType.int)),
  (⟨"jdk/internal/util/Preconditions", "checkIndex", "(IILjava/util/function/BiFunction;)I"⟩, prog_29_method_11_code, 3, (some FieldType.int)),
  (⟨"java/util/ArrayList", "elementData", "(I)Ljava/lang/Object;"⟩, prog_21_method_18_code, 2, (some (FieldType.object "java/lang/Object"))),
  (⟨"EthernetGates", "learn", "(IIJ)I"⟩, prog_1_method_8_code, 7, (some FieldType.int)),
  (⟨"EthernetGates", "credit", "(IIJJ)I"⟩, prog_1_method_9_code, 8, (some FieldType.int)),
  (⟨"EthernetGates$PortRank", "shape", "(JJ)V"⟩, prog_5_method_7_code, 5, none),
  (⟨"EthernetGates", "filter", "(IJ)I"⟩, prog_1_method_10_code, 6, (some FieldType.int)),
  (⟨"EthernetGates", "clock", "(IJ)I"⟩, prog_1_method_11_code, 7, (some FieldType.int)),
  (⟨"EthernetGates", "dropped", "(I)I"⟩, prog_1_method_12_code, 2, (some FieldType.int)),
  (⟨"EthernetGates", "service", "(II)I"⟩, prog_1_method_13_code, 3, (some FieldType.int)),
  (⟨"EthernetGates", "offererOf", "(I)I"⟩, prog_1_method_14_code, 2, (some FieldType.int)),
  (⟨"EthernetGates", "isService", "(I)Z"⟩, prog_1_method_19_code, 1, (some FieldType.boolean)),
  (⟨"EthernetGatesLaw", "cell", "([II)I"⟩, method_2_code, 2, (some FieldType.int)),
  (⟨"EthernetGates", "cycle", "(J)I"⟩, prog_1_method_4_code, 3, (some FieldType.int)),
  (⟨"EthernetGatesModel", "<init>", "(I)V"⟩, prog_8_method_1_code, 2, none),
  (⟨"EthernetGatesModel", "thrown", "()I"⟩, prog_8_method_2_code, 1, (some FieldType.int)),
  (⟨"EthernetGatesModel", "link", "(IJ)I"⟩, prog_8_method_5_code, 6, (some FieldType.int)),
  (⟨"EthernetGatesModel", "none", "(I)Z"⟩, prog_8_method_3_code, 2, (some FieldType.boolean)),
  (⟨"EthernetGatesModel", "gate", "(IIJJ)I"⟩, prog_8_method_6_code, 8, (some FieldType.int)),
  (⟨"EthernetGatesModel", "noRank", "(II)Z"⟩, prog_8_method_4_code, 3, (some FieldType.boolean)),
  (⟨"EthernetGatesModel", "cycle", "(J)I"⟩, prog_8_method_7_code, 5, (some FieldType.int)),
  (⟨"EthernetGatesModel", "learn", "(IIJ)I"⟩, prog_8_method_9_code, 6, (some FieldType.int)),
  (⟨"EthernetGatesModel", "isAt", "(I)Z"⟩, prog_8_method_8_code, 2, (some FieldType.boolean)),
  (⟨"EthernetGatesModel", "credit", "(IIJJ)I"⟩, prog_8_method_10_code, 7, (some FieldType.int)),
  (⟨"EthernetGatesModel", "filter", "(IJ)I"⟩, prog_8_method_12_code, 4, (some FieldType.int)),
  (⟨"EthernetGatesModel", "look", "(I)V"⟩, prog_8_method_11_code, 2, none),
  (⟨"EthernetGatesModel", "clock", "(IJ)I"⟩, prog_8_method_13_code, 4, (some FieldType.int)),
  (⟨"EthernetGatesModel", "service", "(II)I"⟩, prog_8_method_14_code, 3, (some FieldType.int)),
  (⟨"EthernetGatesModel", "frame", "(IIII)I"⟩, prog_8_method_16_code, 10, (some FieldType.int)),
  (⟨"EthernetGatesModel", "enter", "(III)I"⟩, prog_8_method_15_code, 5, (some FieldType.int)),
  (⟨"EthernetGatesModel", "run", "(J)I"⟩, prog_8_method_22_code, 6, (some FieldType.int)),
  (⟨"EthernetGatesModel", "tick", "()V"⟩, prog_8_method_21_code, 3, none),
  (⟨"EthernetGatesModel", "may", "(II)Z"⟩, prog_8_method_19_code, 5, (some FieldType.boolean)),
  (⟨"EthernetGatesModel", "time", "(II)J"⟩, prog_8_method_17_code, 5, (some FieldType.long)),
  (⟨"EthernetGatesModel", "open", "(IJJ)Z"⟩, prog_8_method_18_code, 8, (some FieldType.boolean)),
  (⟨"EthernetGatesModel", "begin", "(II)V"⟩, prog_8_method_20_code, 5, none),
  (⟨"EthernetGatesModel", "left", "(II)I"⟩, prog_8_method_23_code, 3, (some FieldType.int)),
  (⟨"EthernetGatesModel", "dropped", "(I)I"⟩, prog_8_method_24_code, 2, (some FieldType.int)),
  (⟨"EthernetGatesLaw", "law", "([I)Z"⟩, code, 7, (some FieldType.boolean)),
  (⟨"EthernetGatesLaw", "cycle", "(LEthernetGates;J[J)I"⟩, method_3_code, 5, (some FieldType.int))]
def am_mi (x : Nat) : Option (MethodName × ByteArray × Nat × Option FieldType) := am_mis[x]?
def am_ml (x : Nat) : Nat := [1, 4, 3, 1, 1, 1, 1, 6, 2, 1, 3, 9, 1, 5, 7, 1, 3, 2, 1, 4, 3, 3, 1, 9, 4, 4, 9, 3, 1, 7, 2, 4, 1, 4, 4, 3, 2, 2, 11, 1, 5, 1, 6, 2, 4, 3, 4, 5, 5, 4, 2, 2, 3, 2, 7, 8, 5, 6, 7, 2, 3, 2, 1, 2, 3, 2, 1, 6, 2, 8, 3, 5, 6, 2, 7, 4, 2, 4, 3, 10, 5, 6, 3, 5, 5, 8, 5, 3, 2, 7, 5].getD x 0
def am_mok : List Nat := [1, 2, 3, 4, 5, 6, 7, 8, 9, 10, 11, 12, 13, 14, 15, 16, 17, 18, 19, 20, 21, 22, 23, 24, 25, 26, 27, 28, 29, 30, 31, 32, 33, 34, 35, 36, 37, 38, 39, 40, 41, 42, 43, 44, 45, 46, 47, 48, 49, 50, 51, 52, 53, 54, 55, 56, 57, 58, 59, 60, 61, 62, 63, 64, 65, 66, 67, 68, 69, 70, 71, 72, 73, 74, 75, 76, 77, 78, 79, 80, 81, 82, 83, 84, 85, 86, 87, 88]
def am_mov : List Nat := [7, 8, 9, 10, 11, 13, 14, 16, 19, 20, 21, 22, 23, 24, 25, 26, 27, 28, 30, 31, 32, 33, 37, 38, 39, 40, 41, 42, 43, 44, 45, 46, 47, 48, 49, 50, 53, 54, 55, 56, 57, 58, 59, 60, 61, 64, 66, 67, 68, 69, 70, 71, 72, 73, 74, 75, 76, 77, 78, 79, 80, 81, 82, 83, 84, 85, 86, 87, 88]
def am_moi : List Nat := [1, 2, 3, 4, 5, 6, 17, 18, 29, 65]
def am_mos : List Nat := [12, 15, 34, 35, 36, 51, 52, 62, 63]
def am_asl : List (Nat × Nat) := [(0, 1), (1, 2), (2, 3), (3, 4), (4, 0), (4, 1), (4, 2), (4, 3), (4, 4), (4, 5), (4, 7)]
def am_asg (j c : Nat) : Bool := am_asl.contains (j, c)
end
section
/-! THE ABSTRACT MACHINE (am_): values, heaps, steps -/
abbrev am_V : Type := Int32 ⊕ (Int64 ⊕ Nat)
abbrev am_Ls : Type := List (Option am_V)
abbrev am_Sk : Type := List am_V
/-- a reference is 0 (null) or its address and one -/
def am_o : Nat → Option Nat
  | 0 => none
  | a + 1 => some a
def am_v2 : am_V → Value
  | .inl x => .int x
  | .inr (.inl x) => .long x
  | .inr (.inr r) => va_rf (am_o r)
/-- kinds, lengths, fields of ints, longs, references (field, object), arrays of ints, longs, references (array, place), then: the heap's size, cells made, slots made -/
abbrev am_H : Type := (Nat → Nat) × (Nat → Nat) × (Nat → Nat → Int32) × (Nat → Nat → Int64) × (Nat → Nat → Nat) × (Nat → Nat → Int32) × (Nat → Nat → Int64) × (Nat → Nat → Nat) × (Nat × Nat × Nat)
def am_T (h : am_H) : Nat → Nat := h.1
def am_N (h : am_H) : Nat → Nat := h.2.1
def am_I (h : am_H) : Nat → Nat → Int32 := h.2.2.1
def am_J (h : am_H) : Nat → Nat → Int64 := h.2.2.2.1
def am_R (h : am_H) : Nat → Nat → Nat := h.2.2.2.2.1
def am_aI (h : am_H) : Nat → Nat → Int32 := h.2.2.2.2.2.1
def am_aJ (h : am_H) : Nat → Nat → Int64 := h.2.2.2.2.2.2.1
def am_aR (h : am_H) : Nat → Nat → Nat := h.2.2.2.2.2.2.2.1
def am_Z (h : am_H) : Nat := h.2.2.2.2.2.2.2.2.1
def am_C (h : am_H) : Nat := h.2.2.2.2.2.2.2.2.2.1
def am_S (h : am_H) : Nat := h.2.2.2.2.2.2.2.2.2.2
def am_u2 {α : Type} (g : Nat → Nat → α) (f a : Nat) (v : α) : Nat → Nat → α := fun f' a' => if f' = f ∧ a' = a then v else g f' a'
/-- row a of an array's table is all of one value -/
def am_ua {α : Type} (g : Nat → Nat → α) (a : Nat) (v : α) : Nat → Nat → α := fun a' j => if a' = a then v else g a' j
def am_uf {α : Type} (g : Nat → Nat → α) (a : Nat) (v : α) : Nat → Nat → α := fun f a' => if a' = a then v else g f a'
def am_sI (h : am_H) (f a : Nat) (v : Int32) : am_H := (am_T h, am_N h, am_u2 (am_I h) f a v, am_J h, am_R h, am_aI h, am_aJ h, am_aR h, am_Z h, am_C h, am_S h)
def am_sJ (h : am_H) (f a : Nat) (v : Int64) : am_H := (am_T h, am_N h, am_I h, am_u2 (am_J h) f a v, am_R h, am_aI h, am_aJ h, am_aR h, am_Z h, am_C h, am_S h)
def am_sR (h : am_H) (f a : Nat) (v : Nat) : am_H := (am_T h, am_N h, am_I h, am_J h, am_u2 (am_R h) f a v, am_aI h, am_aJ h, am_aR h, am_Z h, am_C h, am_S h)
def am_xI (h : am_H) (a j : Nat) (v : Int32) : am_H := (am_T h, am_N h, am_I h, am_J h, am_R h, am_u2 (am_aI h) a j v, am_aJ h, am_aR h, am_Z h, am_C h, am_S h)
def am_xJ (h : am_H) (a j : Nat) (v : Int64) : am_H := (am_T h, am_N h, am_I h, am_J h, am_R h, am_aI h, am_u2 (am_aJ h) a j v, am_aR h, am_Z h, am_C h, am_S h)
def am_xR (h : am_H) (a j : Nat) (v : Nat) : am_H := (am_T h, am_N h, am_I h, am_J h, am_R h, am_aI h, am_aJ h, am_u2 (am_aR h) a j v, am_Z h, am_C h, am_S h)
/-- a new object of class c with n fields -/
def am_nO (h : am_H) (c n : Nat) : am_H := (va_up (am_T h) (am_Z h + 1) (10 + c), am_N h, am_uf (am_I h) (am_Z h + 1) 0, am_uf (am_J h) (am_Z h + 1) 0, am_uf (am_R h) (am_Z h + 1) 0, am_aI h, am_aJ h, am_aR h, am_Z h + 1, am_C h + 1, am_S h + n)
/-- a new array of kind t with n places -/
def am_nA (h : am_H) (t n : Nat) : am_H := (va_up (am_T h) (am_Z h + 1) t, va_up (am_N h) (am_Z h + 1) n, am_I h, am_J h, am_R h, am_ua (am_aI h) (am_Z h + 1) 0, am_ua (am_aJ h) (am_Z h + 1) 0, am_ua (am_aR h) (am_Z h + 1) 0, am_Z h + 1, am_C h + 1, am_S h + n)
/-- locals: a store of one slot, of two -/
def am_kl (l : am_Ls) (i : Nat) : am_Ls := match i with
  | 0 => l
  | j + 1 => match l.getD j none with
    | some (.inr (.inl _)) => l.set j none
    | _ => l
def am_s1 (l : am_Ls) (i : Nat) (v : am_V) : am_Ls := (am_kl l i).set i (some v)
def am_s2 (l : am_Ls) (i : Nat) (v : am_V) : am_Ls := ((am_kl l i).set i (some v)).set (i + 1) none
def am_to (pc : Nat) (off : Int) : Nat := ((pc : Int) + off).toNat
/-! ONE STEP. An entry: the instruction, x, y, z, u (slot, target, class, method, ..), its int, its long, a switch's rows -/
abbrev am_E : Type := Instr × Nat × Nat × Nat × Nat × Int32 × Int64 × List (Int32 × Nat)
def am_p1I (st : am_Sk) (f : Int32 → am_Sk → Prop) : Prop := match st with
  | .inl a :: st => f a st
  | _ => False
def am_p2I (st : am_Sk) (f : Int32 → Int32 → am_Sk → Prop) : Prop := match st with
  | .inl b :: .inl a :: st => f a b st
  | _ => False
def am_p1J (st : am_Sk) (f : Int64 → am_Sk → Prop) : Prop := match st with
  | .inr (.inl a) :: st => f a st
  | _ => False
def am_p2J (st : am_Sk) (f : Int64 → Int64 → am_Sk → Prop) : Prop := match st with
  | .inr (.inl b) :: .inr (.inl a) :: st => f a b st
  | _ => False
def am_pJI (st : am_Sk) (f : Int64 → Int32 → am_Sk → Prop) : Prop := match st with
  | .inl b :: .inr (.inl a) :: st => f a b st
  | _ => False
def am_p1R (st : am_Sk) (f : Nat → am_Sk → Prop) : Prop := match st with
  | .inr (.inr a) :: st => f a st
  | _ => False
def am_p2R (st : am_Sk) (f : Nat → Nat → am_Sk → Prop) : Prop := match st with
  | .inr (.inr b) :: .inr (.inr a) :: st => f a b st
  | _ => False
/-- an array's reference, an index -/
def am_pRI (st : am_Sk) (f : Nat → Int32 → am_Sk → Prop) : Prop := match st with
  | .inl i :: .inr (.inr a) :: st => f a i st
  | _ => False
def am_pRII (st : am_Sk) (f : Nat → Int32 → Int32 → am_Sk → Prop) : Prop := match st with
  | .inl v :: .inl i :: .inr (.inr a) :: st => f a i v st
  | _ => False
def am_pRIJ (st : am_Sk) (f : Nat → Int32 → Int64 → am_Sk → Prop) : Prop := match st with
  | .inr (.inl v) :: .inl i :: .inr (.inr a) :: st => f a i v st
  | _ => False
def am_pRIR (st : am_Sk) (f : Nat → Int32 → Nat → am_Sk → Prop) : Prop := match st with
  | .inr (.inr v) :: .inl i :: .inr (.inr a) :: st => f a i v st
  | _ => False
/-- an object's reference below a value of one of the kinds -/
def am_pRv (u : Nat) (st : am_Sk) (h : am_H) (f : Nat) (k : Nat → am_Sk → am_H → Prop) : Prop := match u, st with
  | 0, .inl v :: .inr (.inr a) :: st => k a st (am_sI h f a v)
  | 1, .inr (.inl v) :: .inr (.inr a) :: st => k a st (am_sJ h f a v)
  | 2, .inr (.inr v) :: .inr (.inr a) :: st => k a st (am_sR h f a v)
  | _, _ => False
def am_gt (u : Nat) (h : am_H) (f a : Nat) : am_V := match u with
  | 0 => .inl (am_I h f a)
  | 1 => .inr (.inl (am_J h f a))
  | _ => .inr (.inr (am_R h f a))
def am_lI (l : am_Ls) (x : Nat) (f : Int32 → Prop) : Prop := match l.getD x none with
  | some (.inl v) => f v
  | _ => False
def am_lJ (l : am_Ls) (x : Nat) (f : Int64 → Prop) : Prop := match l.getD x none with
  | some (.inr (.inl v)) => f v
  | _ => False
def am_lR (l : am_Ls) (x : Nat) (f : Nat → Prop) : Prop := match l.getD x none with
  | some (.inr (.inr v)) => f v
  | _ => False
def am_pn : Nat → am_Sk → am_Sk → (am_Sk → am_Sk → Prop) → Prop
  | 0, st, acc, f => f acc st
  | _ + 1, [], _, _ => False
  | n + 1, v :: st, acc, f => am_pn n st (v :: acc) f
def am_br (c : Prop) (a b : Prop) : Prop := (c → a) ∧ (¬ c → b)
def am_tsw (v : Int32) (ts : List (Int32 × Nat)) (k : Nat → Prop) (d : Prop) : Prop := match ts with
  | [] => d
  | (x, t) :: ts => (v = x → k t) ∧ (¬ v = x → am_tsw v ts k d)
def am_cat (v : am_V) : Nat := match v with
  | .inr (.inl _) => 2
  | _ => 1
def am_w1 (st : am_Sk) (f : am_V → am_Sk → Prop) : Prop := match st with
  | v :: st => am_cat v = 1 ∧ f v st
  | _ => False
def am_w2 (st : am_Sk) (f : am_V → am_V → am_Sk → Prop) : Prop := match st with
  | w :: v :: st => am_cat w = 1 ∧ am_cat v = 1 ∧ f v w st
  | _ => False
/-- Math.max, Math.min of ints, of longs -/
def am_mth (z : Nat) (st : am_Sk) (k : am_Sk → Prop) : Prop := match z with
  | 1 => am_p2I st fun a b st => if (st.map am_cat).sum ≤ 8 then k (.inl (if a < b then b else a) :: st) else False
  | 2 => am_p2I st fun a b st => if (st.map am_cat).sum ≤ 8 then k (.inl (if b < a then b else a) :: st) else False
  | 3 => am_p2J st fun a b st => if (st.map am_cat).sum ≤ 8 then k (.inr (.inl (if b < a then a else b)) :: st) else False
  | 4 => am_p2J st fun a b st => if (st.map am_cat).sum ≤ 8 then k (.inr (.inl (if b < a then b else a)) :: st) else False
  | _ => False
/-- the heap behind a write gets a name -/
def am_nh (e : am_H) (k : am_H → Prop) : Prop := ∀ h' : am_H, h' = e → k h'
def am_cps (pc : Nat) (q : am_E) (l : am_Ls) (st : am_Sk) (h : am_H) (K : Nat → am_Ls → am_Sk → am_H → Prop) (Rt : Option am_V → Prop) (Cl : Nat → am_Sk → am_Sk → Prop) : Prop :=
  match q with
  | (i, x, y, z, u, cI, cJ, ts) => match i with
    | .aconst_null => K (pc + 1) l (.inr (.inr 0) :: st) h
    | .iconst _ => K (pc + 1) l (.inl cI :: st) h
    | .bipush _ => K (pc + 2) l (.inl cI :: st) h
    | .sipush _ => K (pc + 3) l (.inl cI :: st) h
    | .ldc _ => K (pc + 2) l (.inl cI :: st) h
    | .lconst _ => K (pc + 1) l (.inr (.inl cJ) :: st) h
    | .ldc2_w _ => K (pc + 3) l (.inr (.inl cJ) :: st) h
    | .iload_n _ => am_lI l x fun v => K (pc + 1) l (.inl v :: st) h
    | .iload _ => am_lI l x fun v => K (pc + 2) l (.inl v :: st) h
    | .lload_n _ => am_lJ l x fun v => K (pc + 1) l (.inr (.inl v) :: st) h
    | .lload _ => am_lJ l x fun v => K (pc + 2) l (.inr (.inl v) :: st) h
    | .aload_n _ => am_lR l x fun v => K (pc + 1) l (.inr (.inr v) :: st) h
    | .aload _ => am_lR l x fun v => K (pc + 2) l (.inr (.inr v) :: st) h
    | .istore_n _ => am_p1I st fun v st => K (pc + 1) (am_s1 l x (.inl v)) st h
    | .istore _ => am_p1I st fun v st => K (pc + 2) (am_s1 l x (.inl v)) st h
    | .lstore_n _ => am_p1J st fun v st => K (pc + 1) (am_s2 l x (.inr (.inl v))) st h
    | .lstore _ => am_p1J st fun v st => K (pc + 2) (am_s2 l x (.inr (.inl v))) st h
    | .astore_n _ => am_p1R st fun v st => K (pc + 1) (am_s1 l x (.inr (.inr v))) st h
    | .astore _ => am_p1R st fun v st => K (pc + 2) (am_s1 l x (.inr (.inr v))) st h
    | .iinc _ _ => am_lI l x fun v => K (pc + 3) (am_s1 l x (.inl (v + cI))) st h
    | .iadd => am_p2I st fun a b st => K (pc + 1) l (.inl (a + b) :: st) h
    | .isub => am_p2I st fun a b st => K (pc + 1) l (.inl (a - b) :: st) h
    | .imul => am_p2I st fun a b st => K (pc + 1) l (.inl (a * b) :: st) h
    | .ishr => am_p2I st fun a b st => K (pc + 1) l (.inl (a >>> (b &&& 31)) :: st) h
    | .iand => am_p2I st fun a b st => K (pc + 1) l (.inl (a &&& b) :: st) h
    | .idiv => am_p2I st fun a b st => ¬ b = 0 ∧ K (pc + 1) l (.inl (a / b) :: st) h
    | .irem => am_p2I st fun a b st => ¬ b = 0 ∧ K (pc + 1) l (.inl (a - a / b * b) :: st) h
    | .ladd => am_p2J st fun a b st => K (pc + 1) l (.inr (.inl (a + b)) :: st) h
    | .lsub => am_p2J st fun a b st => K (pc + 1) l (.inr (.inl (a - b)) :: st) h
    | .lmul => am_p2J st fun a b st => K (pc + 1) l (.inr (.inl (a * b)) :: st) h
    | .land => am_p2J st fun a b st => K (pc + 1) l (.inr (.inl (a &&& b)) :: st) h
    | .lor => am_p2J st fun a b st => K (pc + 1) l (.inr (.inl (a ||| b)) :: st) h
    | .ldiv => am_p2J st fun a b st => ¬ b = 0 ∧ K (pc + 1) l (.inr (.inl (a / b)) :: st) h
    | .lrem => am_p2J st fun a b st => ¬ b = 0 ∧ K (pc + 1) l (.inr (.inl (a - a / b * b)) :: st) h
    | .lneg => am_p1J st fun a st => K (pc + 1) l (.inr (.inl (-a)) :: st) h
    | .lshl => am_pJI st fun a b st => K (pc + 1) l (.inr (.inl (a <<< (b.toInt64 &&& 63))) :: st) h
    | .i2l => am_p1I st fun a st => K (pc + 1) l (.inr (.inl a.toInt64) :: st) h
    | .l2i => am_p1J st fun a st => K (pc + 1) l (.inl a.toInt32 :: st) h
    | .lcmp => am_p2J st fun a b st => K (pc + 1) l (.inl (lg_cmp a b) :: st) h
    | .dup => am_w1 st fun v st => K (pc + 1) l (v :: v :: st) h
    | .pop => am_w1 st fun _ st => K (pc + 1) l st h
    | .dup_x1 => am_w2 st fun v w st => K (pc + 1) l (w :: v :: w :: st) h
    | .dup2 => match st with
      | .inr (.inl a) :: st => K (pc + 1) l (.inr (.inl a) :: .inr (.inl a) :: st) h
      | st => am_w2 st fun v w st => K (pc + 1) l (w :: v :: w :: v :: st) h
    | .ifCond c _ => am_p1I st fun a st => match c with
      | .eq => am_br (a = 0) (K x l st h) (K (pc + 3) l st h)
      | .ne => am_br (a = 0) (K (pc + 3) l st h) (K x l st h)
      | .lt => am_br (a < 0) (K x l st h) (K (pc + 3) l st h)
      | .ge => am_br (0 ≤ a) (K x l st h) (K (pc + 3) l st h)
      | .gt => am_br (0 < a) (K x l st h) (K (pc + 3) l st h)
      | .le => am_br (a ≤ 0) (K x l st h) (K (pc + 3) l st h)
    | .if_icmp c _ => am_p2I st fun a b st => match c with
      | .eq => am_br (a = b) (K x l st h) (K (pc + 3) l st h)
      | .ne => am_br (a = b) (K (pc + 3) l st h) (K x l st h)
      | .lt => am_br (a < b) (K x l st h) (K (pc + 3) l st h)
      | .ge => am_br (b ≤ a) (K x l st h) (K (pc + 3) l st h)
      | .gt => am_br (b < a) (K x l st h) (K (pc + 3) l st h)
      | .le => am_br (a ≤ b) (K x l st h) (K (pc + 3) l st h)
    | .if_acmp c _ => am_p2R st fun a b st => match c with
      | .eq => am_br (a = b) (K x l st h) (K (pc + 3) l st h)
      | .ne => am_br (a = b) (K (pc + 3) l st h) (K x l st h)
    | .ifnull _ => am_p1R st fun a st => am_br (a = 0) (K x l st h) (K (pc + 3) l st h)
    | .ifnonnull _ => am_p1R st fun a st => am_br (a = 0) (K (pc + 3) l st h) (K x l st h)
    | .goto _ => K x l st h
    | .tableswitch _ _ _ _ => am_p1I st fun v st => am_tsw v ts (fun t => K t l st h) (K x l st h)
    | .getstatic _ => K (pc + 3) l (.inr (.inr (am_R h 9000 0)) :: st) h
    | .getfield _ => am_p1R st fun a st => am_T h a = 10 + x ∧ K (pc + 3) l (am_gt u h (32 * x + y) a :: st) h
    | .putfield _ => am_pRv u st h (32 * x + y) fun a st e => am_T h a = 10 + x ∧ am_nh e fun h' => K (pc + 3) l st h'
    | .iaload => am_pRI st fun a i st => (am_T h a = 1 ∨ am_T h a = 3) ∧ vp_in i (am_N h a) ∧ K (pc + 1) l (.inl (am_aI h a i.toNatClampNeg) :: st) h
    | .laload => am_pRI st fun a i st => am_T h a = 2 ∧ vp_in i (am_N h a) ∧ K (pc + 1) l (.inr (.inl (am_aJ h a i.toNatClampNeg)) :: st) h
    | .aaload => am_pRI st fun a i st => 100 ≤ am_T h a ∧ vp_in i (am_N h a) ∧ K (pc + 1) l (.inr (.inr (am_aR h a i.toNatClampNeg)) :: st) h
    | .iastore => am_pRII st fun a i v st => am_T h a = 1 ∧ vp_in i (am_N h a) ∧ am_nh (am_xI h a i.toNatClampNeg v) fun h' => K (pc + 1) l st h'
    | .lastore => am_pRIJ st fun a i v st => am_T h a = 2 ∧ vp_in i (am_N h a) ∧ am_nh (am_xJ h a i.toNatClampNeg v) fun h' => K (pc + 1) l st h'
    | .aastore => am_pRIR st fun a i v st => 100 ≤ am_T h a ∧ vp_in i (am_N h a) ∧ (v = 0 ∨ (10 ≤ am_T h v ∧ am_asg (am_T h a - 100) (am_T h v - 10) = true)) ∧ am_nh (am_xR h a i.toNatClampNeg v) fun h' => K (pc + 1) l st h'
    | .arraylength => am_p1R st fun a st => (am_T h a = 1 ∨ am_T h a = 2 ∨ am_T h a = 3 ∨ am_T h a = 4 ∨ 100 ≤ am_T h a) ∧ K (pc + 1) l (.inl (Int32.ofNat (am_N h a)) :: st) h
    | .newarray _ => am_p1I st fun n st => (¬ n < 0) ∧ n.toNatClampNeg ≤ 1000000 ∧ am_nh (am_nA h x n.toNatClampNeg) fun h' => K (pc + 2) l (.inr (.inr (am_Z h + 1)) :: st) h'
    | .anewarray _ => am_p1I st fun n st => (¬ n < 0) ∧ n.toNatClampNeg ≤ 1000000 ∧ am_nh (am_nA h (100 + x) n.toNatClampNeg) fun h' => K (pc + 3) l (.inr (.inr (am_Z h + 1)) :: st) h'
    | .new _ => am_nh (am_nO h x y) fun h' => K (pc + 3) l (.inr (.inr (am_Z h + 1)) :: st) h'
    | .checkcast _ => am_p1R st fun a st => (a = 0 ∨ am_T h a = 10 + x) ∧ K (pc + 3) l (.inr (.inr a) :: st) h
    | .invokevirtual _ => am_pn y st [] fun as rest => am_p1R rest fun a rest => am_T h a = 10 + z ∧ if (rest.map am_cat).sum ≤ 8 ∧ 1 + (as.map am_cat).sum ≤ am_ml x then Cl x (.inr (.inr a) :: as) rest else False
    | .invokespecial _ => am_pn y st [] fun as rest => am_p1R rest fun a rest => ¬ a = 0 ∧ if (rest.map am_cat).sum ≤ 8 ∧ 1 + (as.map am_cat).sum ≤ am_ml x then (if x = 0 then K (pc + 3) l rest h else Cl x (.inr (.inr a) :: as) rest) else False
    | .invokestatic _ => if x = 0 then am_mth z st fun st => K (pc + 3) l st h else am_pn y st [] fun as rest => if (rest.map am_cat).sum ≤ 8 ∧ (as.map am_cat).sum ≤ am_ml x then Cl x as rest else False
    | .ireturn => match st with
      | [.inl v] => if u = 0 then Rt (some (.inl v)) else (v = 0 ∨ v = 1) ∧ Rt (some (.inl v))
      | _ => False
    | .lreturn => match st with
      | [.inr (.inl v)] => Rt (some (.inr (.inl v)))
      | _ => False
    | .areturn => match st with
      | [.inr (.inr v)] => Rt (some (.inr (.inr v)))
      | _ => False
    | .return_ => match st with
      | [] => Rt none
      | _ => False
    | _ => False
/-- what a call of kind u leaves on the stack -/
def am_rk (u : Nat) (rest : am_Sk) (r : Option am_V) (k : am_Sk → Prop) : Prop := match u with
  | 0 => r = none ∧ k rest
  | 1 => ∃ x : Int32, r = some (.inl x) ∧ k (.inl x :: rest)
  | 2 => ∃ x : Int64, r = some (.inr (.inl x)) ∧ k (.inr (.inl x) :: rest)
  | _ => ∃ x : Nat, r = some (.inr (.inr x)) ∧ k (.inr (.inr x) :: rest)
end
section
/-! PROGRAMS of the abstract machine, written by program out of the Statement's bytes -/
def pg_X_init : List (Nat × am_E) := [(0, (.aload_n 0, 0, 0, 0, 0, 0, 0, [])),
  (1, (.invokespecial 1, 0, 0, 0, 0, 0, 0, [])),
  (4, (.iload_n 1, 1, 0, 0, 0, 0, 0, [])),
  (5, (.iconst 1, 0, 0, 0, 0, 1, 0, [])),
  (6, (.if_icmp .lt 13, 19, 0, 0, 0, 0, 0, [])),
  (9, (.iload_n 1, 1, 0, 0, 0, 0, 0, [])),
  (10, (.bipush 16, 0, 0, 0, 0, 16, 0, [])),
  (12, (.if_icmp .gt 7, 19, 0, 0, 0, 0, 0, [])),
  (15, (.iload_n 1, 1, 0, 0, 0, 0, 0, [])),
  (16, (.goto 4, 20, 0, 0, 0, 0, 0, [])),
  (19, (.iconst 4, 0, 0, 0, 0, 4, 0, [])),
  (20, (.istore_n 2, 2, 0, 0, 0, 0, 0, [])),
  (21, (.aload_n 0, 0, 0, 0, 0, 0, 0, [])),
  (22, (.iload_n 2, 2, 0, 0, 0, 0, 0, [])),
  (23, (.anewarray 9, 0, 0, 0, 0, 0, 0, [])),
  (26, (.putfield 11, 0, 0, 0, 2, 0, 0, [])),
  (29, (.iconst 0, 0, 0, 0, 0, 0, 0, [])),
  (30, (.istore_n 3, 3, 0, 0, 0, 0, 0, [])),
  (31, (.iload_n 3, 3, 0, 0, 0, 0, 0, [])),
  (32, (.iload_n 2, 2, 0, 0, 0, 0, 0, [])),
  (33, (.if_icmp .ge 25, 58, 0, 0, 0, 0, 0, [])),
  (36, (.aload_n 0, 0, 0, 0, 0, 0, 0, [])),
  (37, (.getfield 11, 0, 0, 0, 2, 0, 0, [])),
  (40, (.iload_n 3, 3, 0, 0, 0, 0, 0, [])),
  (41, (.new 9, 1, 9, 0, 0, 0, 0, [])),
  (44, (.dup, 0, 0, 0, 0, 0, 0, [])),
  (45, (.iload_n 3, 3, 0, 0, 0, 0, 0, [])),
  (46, (.iconst 1, 0, 0, 0, 0, 1, 0, [])),
  (47, (.iadd, 0, 0, 0, 0, 0, 0, [])),
  (48, (.invokespecial 15, 2, 1, 0, 0, 0, 0, [])),
  (51, (.aastore, 0, 0, 0, 0, 0, 0, [])),
  (52, (.iinc 3 1, 3, 0, 0, 0, 1, 0, [])),
  (55, (.goto (-24), 31, 0, 0, 0, 0, 0, [])),
  (58, (.aload_n 0, 0, 0, 0, 0, 0, 0, [])),
  (59, (.sipush 1001, 0, 0, 0, 0, 1001, 0, [])),
  (62, (.anewarray 18, 2, 0, 0, 0, 0, 0, [])),
  (65, (.putfield 20, 0, 1, 0, 2, 0, 0, [])),
  (68, (.aload_n 0, 0, 0, 0, 0, 0, 0, [])),
  (69, (.new 24, 6, 3, 0, 0, 0, 0, [])),
  (72, (.dup, 0, 0, 0, 0, 0, 0, [])),
  (73, (.invokespecial 26, 4, 0, 0, 0, 0, 0, [])),
  (76, (.putfield 27, 0, 2, 0, 2, 0, 0, [])),
  (79, (.aload_n 0, 0, 0, 0, 0, 0, 0, [])),
  (80, (.iconst 4, 0, 0, 0, 0, 4, 0, [])),
  (81, (.newarray .int, 1, 0, 0, 0, 0, 0, [])),
  (83, (.putfield 31, 0, 3, 0, 2, 0, 0, [])),
  (86, (.aload_n 0, 0, 0, 0, 0, 0, 0, [])),
  (87, (.bipush 101, 0, 0, 0, 0, 101, 0, [])),
  (89, (.newarray .int, 1, 0, 0, 0, 0, 0, [])),
  (91, (.putfield 35, 0, 4, 0, 2, 0, 0, [])),
  (94, (.aload_n 0, 0, 0, 0, 0, 0, 0, [])),
  (95, (.bipush 101, 0, 0, 0, 0, 101, 0, [])),
  (97, (.newarray .long, 2, 0, 0, 0, 0, 0, [])),
  (99, (.putfield 38, 0, 5, 0, 2, 0, 0, [])),
  (102, (.aload_n 0, 0, 0, 0, 0, 0, 0, [])),
  (103, (.ldc2_w 42, 0, 0, 0, 0, 0, 1000, [])),
  (106, (.putfield 44, 0, 7, 0, 1, 0, 0, [])),
  (109, (.return_, 0, 0, 0, 0, 0, 0, []))]
def pg_P_init : List (Nat × am_E) := [(0, (.aload_n 0, 0, 0, 0, 0, 0, 0, [])),
  (1, (.invokespecial 3, 0, 0, 0, 0, 0, 0, [])),
  (4, (.aload_n 0, 0, 0, 0, 0, 0, 0, [])),
  (5, (.iload_n 1, 1, 0, 0, 0, 0, 0, [])),
  (6, (.putfield 9, 1, 0, 0, 0, 0, 0, [])),
  (9, (.aload_n 0, 0, 0, 0, 0, 0, 0, [])),
  (10, (.bipush 8, 0, 0, 0, 0, 8, 0, [])),
  (12, (.anewarray 15, 1, 0, 0, 0, 0, 0, [])),
  (15, (.putfield 17, 1, 1, 0, 2, 0, 0, [])),
  (18, (.iconst 0, 0, 0, 0, 0, 0, 0, [])),
  (19, (.istore_n 2, 2, 0, 0, 0, 0, 0, [])),
  (20, (.iload_n 2, 2, 0, 0, 0, 0, 0, [])),
  (21, (.bipush 8, 0, 0, 0, 0, 8, 0, [])),
  (23, (.if_icmp .ge 22, 45, 0, 0, 0, 0, 0, [])),
  (26, (.aload_n 0, 0, 0, 0, 0, 0, 0, [])),
  (27, (.getfield 17, 1, 1, 0, 2, 0, 0, [])),
  (30, (.iload_n 2, 2, 0, 0, 0, 0, 0, [])),
  (31, (.new 15, 2, 10, 0, 0, 0, 0, [])),
  (34, (.dup, 0, 0, 0, 0, 0, 0, [])),
  (35, (.invokespecial 21, 3, 0, 0, 0, 0, 0, [])),
  (38, (.aastore, 0, 0, 0, 0, 0, 0, [])),
  (39, (.iinc 2 1, 2, 0, 0, 0, 1, 0, [])),
  (42, (.goto (-22), 20, 0, 0, 0, 0, 0, [])),
  (45, (.return_, 0, 0, 0, 0, 0, 0, []))]
def pg_K_init : List (Nat × am_E) := [(0, (.aload_n 0, 0, 0, 0, 0, 0, 0, [])),
  (1, (.invokespecial 3, 0, 0, 0, 0, 0, 0, [])),
  (4, (.aload_n 0, 0, 0, 0, 0, 0, 0, [])),
  (5, (.bipush 16, 0, 0, 0, 0, 16, 0, [])),
  (7, (.newarray .int, 1, 0, 0, 0, 0, 0, [])),
  (9, (.putfield 9, 2, 0, 0, 2, 0, 0, [])),
  (12, (.aload_n 0, 0, 0, 0, 0, 0, 0, [])),
  (13, (.bipush 16, 0, 0, 0, 0, 16, 0, [])),
  (15, (.newarray .int, 1, 0, 0, 0, 0, 0, [])),
  (17, (.putfield 15, 2, 1, 0, 2, 0, 0, [])),
  (20, (.aload_n 0, 0, 0, 0, 0, 0, 0, [])),
  (21, (.bipush 8, 0, 0, 0, 0, 8, 0, [])),
  (23, (.newarray .long, 2, 0, 0, 0, 0, 0, [])),
  (25, (.putfield 18, 2, 4, 0, 2, 0, 0, [])),
  (28, (.aload_n 0, 0, 0, 0, 0, 0, 0, [])),
  (29, (.bipush 8, 0, 0, 0, 0, 8, 0, [])),
  (31, (.newarray .long, 2, 0, 0, 0, 0, 0, [])),
  (33, (.putfield 22, 2, 5, 0, 2, 0, 0, [])),
  (36, (.return_, 0, 0, 0, 0, 0, 0, []))]
def pg_L_init : List (Nat × am_E) := [(0, (.aload_n 0, 0, 0, 0, 0, 0, 0, [])),
  (1, (.invokespecial 1, 5, 0, 0, 0, 0, 0, [])),
  (4, (.aload_n 0, 0, 0, 0, 0, 0, 0, [])),
  (5, (.getstatic 39, 0, 0, 0, 0, 0, 0, [])),
  (8, (.putfield 9, 6, 0, 0, 2, 0, 0, [])),
  (11, (.return_, 0, 0, 0, 0, 0, 0, []))]
def pg_L1_init : List (Nat × am_E) := [(0, (.aload_n 0, 0, 0, 0, 0, 0, 0, [])),
  (1, (.invokespecial 1, 6, 0, 0, 0, 0, 0, [])),
  (4, (.aload_n 0, 0, 0, 0, 0, 0, 0, [])),
  (5, (.iconst 0, 0, 0, 0, 0, 0, 0, [])),
  (6, (.putfield 7, 6, 2, 0, 0, 0, 0, [])),
  (9, (.return_, 0, 0, 0, 0, 0, 0, []))]
def pg_L0_init : List (Nat × am_E) := [(0, (.aload_n 0, 0, 0, 0, 0, 0, 0, [])),
  (1, (.invokespecial 1, 0, 0, 0, 0, 0, 0, [])),
  (4, (.return_, 0, 0, 0, 0, 0, 0, []))]
def pg_X_link : List (Nat × am_E) := [(0, (.aload_n 0, 0, 0, 0, 0, 0, 0, [])),
  (1, (.iload_n 1, 1, 0, 0, 0, 0, 0, [])),
  (2, (.invokevirtual 48, 8, 1, 0, 3, 0, 0, [])),
  (5, (.astore 4, 4, 0, 0, 0, 0, 0, [])),
  (7, (.aload 4, 4, 0, 0, 0, 0, 0, [])),
  (9, (.ifnonnull 5, 14, 0, 0, 0, 0, 0, [])),
  (12, (.iconst (-1), 0, 0, 0, 0, (-1), 0, [])),
  (13, (.ireturn, 0, 0, 0, 0, 0, 0, [])),
  (14, (.lload_n 2, 2, 0, 0, 0, 0, 0, [])),
  (15, (.lconst 0, 0, 0, 0, 0, 0, 0, [])),
  (16, (.lcmp, 0, 0, 0, 0, 0, 0, [])),
  (17, (.ifCond .lt 11, 28, 0, 0, 0, 0, 0, [])),
  (20, (.lload_n 2, 2, 0, 0, 0, 0, 0, [])),
  (21, (.ldc2_w 52, 0, 0, 0, 0, 0, 10000, [])),
  (24, (.lcmp, 0, 0, 0, 0, 0, 0, [])),
  (25, (.ifCond .le 6, 31, 0, 0, 0, 0, 0, [])),
  (28, (.bipush (-2), 0, 0, 0, 0, (-2), 0, [])),
  (30, (.ireturn, 0, 0, 0, 0, 0, 0, [])),
  (31, (.lload_n 2, 2, 0, 0, 0, 0, 0, [])),
  (32, (.lconst 0, 0, 0, 0, 0, 0, 0, [])),
  (33, (.lcmp, 0, 0, 0, 0, 0, 0, [])),
  (34, (.ifCond .le 24, 58, 0, 0, 0, 0, 0, [])),
  (37, (.lload_n 2, 2, 0, 0, 0, 0, 0, [])),
  (38, (.aload 4, 4, 0, 0, 0, 0, 0, [])),
  (40, (.getfield 54, 1, 2, 0, 1, 0, 0, [])),
  (43, (.lcmp, 0, 0, 0, 0, 0, 0, [])),
  (44, (.ifCond .eq 14, 58, 0, 0, 0, 0, 0, [])),
  (47, (.aload 4, 4, 0, 0, 0, 0, 0, [])),
  (49, (.invokevirtual 57, 9, 0, 1, 1, 0, 0, [])),
  (52, (.ifCond .eq 6, 58, 0, 0, 0, 0, 0, [])),
  (55, (.bipush (-3), 0, 0, 0, 0, (-3), 0, [])),
  (57, (.ireturn, 0, 0, 0, 0, 0, 0, [])),
  (58, (.aload 4, 4, 0, 0, 0, 0, 0, [])),
  (60, (.lload_n 2, 2, 0, 0, 0, 0, 0, [])),
  (61, (.putfield 54, 1, 2, 0, 1, 0, 0, [])),
  (64, (.lload_n 2, 2, 0, 0, 0, 0, 0, [])),
  (65, (.lconst 0, 0, 0, 0, 0, 0, 0, [])),
  (66, (.lcmp, 0, 0, 0, 0, 0, 0, [])),
  (67, (.ifCond .le 5, 72, 0, 0, 0, 0, 0, [])),
  (70, (.iconst 0, 0, 0, 0, 0, 0, 0, [])),
  (71, (.ireturn, 0, 0, 0, 0, 0, 0, [])),
  (72, (.aload 4, 4, 0, 0, 0, 0, 0, [])),
  (74, (.invokevirtual 61, 10, 0, 1, 1, 0, 0, [])),
  (77, (.istore 5, 5, 0, 0, 0, 0, 0, [])),
  (79, (.aload_n 0, 0, 0, 0, 0, 0, 0, [])),
  (80, (.getfield 31, 0, 3, 0, 2, 0, 0, [])),
  (83, (.iconst 3, 0, 0, 0, 0, 3, 0, [])),
  (84, (.dup2, 0, 0, 0, 0, 0, 0, [])),
  (85, (.iaload, 0, 0, 0, 0, 0, 0, [])),
  (86, (.iload 5, 5, 0, 0, 0, 0, 0, [])),
  (88, (.iadd, 0, 0, 0, 0, 0, 0, [])),
  (89, (.iastore, 0, 0, 0, 0, 0, 0, [])),
  (90, (.iload 5, 5, 0, 0, 0, 0, 0, [])),
  (92, (.ireturn, 0, 0, 0, 0, 0, 0, []))]
def pg_X_findPort : List (Nat × am_E) := [(0, (.iload_n 1, 1, 0, 0, 0, 0, 0, [])),
  (1, (.iconst 1, 0, 0, 0, 0, 1, 0, [])),
  (2, (.if_icmp .lt 23, 25, 0, 0, 0, 0, 0, [])),
  (5, (.iload_n 1, 1, 0, 0, 0, 0, 0, [])),
  (6, (.aload_n 0, 0, 0, 0, 0, 0, 0, [])),
  (7, (.getfield 11, 0, 0, 0, 2, 0, 0, [])),
  (10, (.arraylength, 0, 0, 0, 0, 0, 0, [])),
  (11, (.if_icmp .gt 14, 25, 0, 0, 0, 0, 0, [])),
  (14, (.aload_n 0, 0, 0, 0, 0, 0, 0, [])),
  (15, (.getfield 11, 0, 0, 0, 2, 0, 0, [])),
  (18, (.iload_n 1, 1, 0, 0, 0, 0, 0, [])),
  (19, (.iconst 1, 0, 0, 0, 0, 1, 0, [])),
  (20, (.isub, 0, 0, 0, 0, 0, 0, [])),
  (21, (.aaload, 0, 0, 0, 0, 0, 0, [])),
  (22, (.goto 4, 26, 0, 0, 0, 0, 0, [])),
  (25, (.aconst_null, 0, 0, 0, 0, 0, 0, [])),
  (26, (.areturn, 0, 0, 0, 0, 0, 0, []))]
def pg_P_isSending : List (Nat × am_E) := [(0, (.aload_n 0, 0, 0, 0, 0, 0, 0, [])),
  (1, (.getfield 22, 1, 5, 0, 0, 0, 0, [])),
  (4, (.ifCond .eq 7, 11, 0, 0, 0, 0, 0, [])),
  (7, (.iconst 1, 0, 0, 0, 0, 1, 0, [])),
  (8, (.goto 4, 12, 0, 0, 0, 0, 0, [])),
  (11, (.iconst 0, 0, 0, 0, 0, 0, 0, [])),
  (12, (.ireturn, 0, 0, 0, 1, 0, 0, []))]
def pg_P_loseFrames : List (Nat × am_E) := [(0, (.aload_n 0, 0, 0, 0, 0, 0, 0, [])),
  (1, (.getfield 29, 1, 4, 0, 0, 0, 0, [])),
  (4, (.aload_n 0, 0, 0, 0, 0, 0, 0, [])),
  (5, (.invokevirtual 32, 9, 0, 1, 1, 0, 0, [])),
  (8, (.ifCond .eq 7, 15, 0, 0, 0, 0, 0, [])),
  (11, (.iconst 1, 0, 0, 0, 0, 1, 0, [])),
  (12, (.goto 4, 16, 0, 0, 0, 0, 0, [])),
  (15, (.iconst 0, 0, 0, 0, 0, 0, 0, [])),
  (16, (.iadd, 0, 0, 0, 0, 0, 0, [])),
  (17, (.istore_n 1, 1, 0, 0, 0, 0, 0, [])),
  (18, (.iconst 0, 0, 0, 0, 0, 0, 0, [])),
  (19, (.istore_n 2, 2, 0, 0, 0, 0, 0, [])),
  (20, (.iload_n 2, 2, 0, 0, 0, 0, 0, [])),
  (21, (.bipush 8, 0, 0, 0, 0, 8, 0, [])),
  (23, (.if_icmp .ge 19, 42, 0, 0, 0, 0, 0, [])),
  (26, (.aload_n 0, 0, 0, 0, 0, 0, 0, [])),
  (27, (.getfield 17, 1, 1, 0, 2, 0, 0, [])),
  (30, (.iload_n 2, 2, 0, 0, 0, 0, 0, [])),
  (31, (.aaload, 0, 0, 0, 0, 0, 0, [])),
  (32, (.iconst 0, 0, 0, 0, 0, 0, 0, [])),
  (33, (.putfield 36, 2, 3, 0, 0, 0, 0, [])),
  (36, (.iinc 2 1, 2, 0, 0, 0, 1, 0, [])),
  (39, (.goto (-19), 20, 0, 0, 0, 0, 0, [])),
  (42, (.aload_n 0, 0, 0, 0, 0, 0, 0, [])),
  (43, (.iconst 0, 0, 0, 0, 0, 0, 0, [])),
  (44, (.putfield 29, 1, 4, 0, 0, 0, 0, [])),
  (47, (.aload_n 0, 0, 0, 0, 0, 0, 0, [])),
  (48, (.iconst 0, 0, 0, 0, 0, 0, 0, [])),
  (49, (.putfield 22, 1, 5, 0, 0, 0, 0, [])),
  (52, (.iload_n 1, 1, 0, 0, 0, 0, 0, [])),
  (53, (.ireturn, 0, 0, 0, 0, 0, 0, []))]
def pg_X_gate : List (Nat × am_E) := [(0, (.aload_n 0, 0, 0, 0, 0, 0, 0, [])),
  (1, (.iload_n 1, 1, 0, 0, 0, 0, 0, [])),
  (2, (.invokevirtual 48, 8, 1, 0, 3, 0, 0, [])),
  (5, (.astore 7, 7, 0, 0, 0, 0, 0, [])),
  (7, (.aload 7, 7, 0, 0, 0, 0, 0, [])),
  (9, (.ifnull 10, 19, 0, 0, 0, 0, 0, [])),
  (12, (.iload_n 2, 2, 0, 0, 0, 0, 0, [])),
  (13, (.invokestatic 65, 12, 1, 0, 1, 0, 0, [])),
  (16, (.ifCond .ne 5, 21, 0, 0, 0, 0, 0, [])),
  (19, (.iconst (-1), 0, 0, 0, 0, (-1), 0, [])),
  (20, (.ireturn, 0, 0, 0, 0, 0, 0, [])),
  (21, (.lload_n 3, 3, 0, 0, 0, 0, 0, [])),
  (22, (.lconst 0, 0, 0, 0, 0, 0, 0, [])),
  (23, (.lcmp, 0, 0, 0, 0, 0, 0, [])),
  (24, (.ifCond .lt 20, 44, 0, 0, 0, 0, 0, [])),
  (27, (.lload_n 3, 3, 0, 0, 0, 0, 0, [])),
  (28, (.lload 5, 5, 0, 0, 0, 0, 0, [])),
  (30, (.lcmp, 0, 0, 0, 0, 0, 0, [])),
  (31, (.ifCond .ge 13, 44, 0, 0, 0, 0, 0, [])),
  (34, (.lload 5, 5, 0, 0, 0, 0, 0, [])),
  (36, (.aload_n 0, 0, 0, 0, 0, 0, 0, [])),
  (37, (.getfield 44, 0, 7, 0, 1, 0, 0, [])),
  (40, (.lcmp, 0, 0, 0, 0, 0, 0, [])),
  (41, (.ifCond .le 6, 47, 0, 0, 0, 0, 0, [])),
  (44, (.bipush (-2), 0, 0, 0, 0, (-2), 0, [])),
  (46, (.ireturn, 0, 0, 0, 0, 0, 0, [])),
  (47, (.aload 7, 7, 0, 0, 0, 0, 0, [])),
  (49, (.getfield 69, 1, 1, 0, 2, 0, 0, [])),
  (52, (.iload_n 2, 2, 0, 0, 0, 0, 0, [])),
  (53, (.aaload, 0, 0, 0, 0, 0, 0, [])),
  (54, (.astore 8, 8, 0, 0, 0, 0, 0, [])),
  (56, (.aload 8, 8, 0, 0, 0, 0, 0, [])),
  (58, (.lload_n 3, 3, 0, 0, 0, 0, 0, [])),
  (59, (.lload 5, 5, 0, 0, 0, 0, 0, [])),
  (61, (.invokevirtual 73, 13, 2, 2, 1, 0, 0, [])),
  (64, (.ifCond .ne 6, 70, 0, 0, 0, 0, 0, [])),
  (67, (.bipush (-4), 0, 0, 0, 0, (-4), 0, [])),
  (69, (.ireturn, 0, 0, 0, 0, 0, 0, [])),
  (70, (.aload_n 0, 0, 0, 0, 0, 0, 0, [])),
  (71, (.aload_n 0, 0, 0, 0, 0, 0, 0, [])),
  (72, (.getfield 79, 0, 8, 0, 1, 0, 0, [])),
  (75, (.lload 5, 5, 0, 0, 0, 0, 0, [])),
  (77, (.invokestatic 82, 0, 0, 3, 0, 0, 0, [])),
  (80, (.putfield 79, 0, 8, 0, 1, 0, 0, [])),
  (83, (.aload 8, 8, 0, 0, 0, 0, 0, [])),
  (85, (.getfield 88, 2, 6, 0, 0, 0, 0, [])),
  (88, (.ireturn, 0, 0, 0, 0, 0, 0, []))]
def pg_X_isRank : List (Nat × am_E) := [(0, (.iload_n 0, 0, 0, 0, 0, 0, 0, [])),
  (1, (.ifCond .lt 13, 14, 0, 0, 0, 0, 0, [])),
  (4, (.iload_n 0, 0, 0, 0, 0, 0, 0, [])),
  (5, (.bipush 8, 0, 0, 0, 0, 8, 0, [])),
  (7, (.if_icmp .ge 7, 14, 0, 0, 0, 0, 0, [])),
  (10, (.iconst 1, 0, 0, 0, 0, 1, 0, [])),
  (11, (.goto 4, 15, 0, 0, 0, 0, 0, [])),
  (14, (.iconst 0, 0, 0, 0, 0, 0, 0, [])),
  (15, (.ireturn, 0, 0, 0, 1, 0, 0, []))]
def pg_K_addWindow : List (Nat × am_E) := [(0, (.aload_n 0, 0, 0, 0, 0, 0, 0, [])),
  (1, (.getfield 32, 2, 6, 0, 0, 0, 0, [])),
  (4, (.bipush 8, 0, 0, 0, 0, 8, 0, [])),
  (6, (.if_icmp .lt 5, 11, 0, 0, 0, 0, 0, [])),
  (9, (.iconst 0, 0, 0, 0, 0, 0, 0, [])),
  (10, (.ireturn, 0, 0, 0, 1, 0, 0, [])),
  (11, (.aload_n 0, 0, 0, 0, 0, 0, 0, [])),
  (12, (.getfield 18, 2, 4, 0, 2, 0, 0, [])),
  (15, (.aload_n 0, 0, 0, 0, 0, 0, 0, [])),
  (16, (.getfield 32, 2, 6, 0, 0, 0, 0, [])),
  (19, (.lload_n 1, 1, 0, 0, 0, 0, 0, [])),
  (20, (.lastore, 0, 0, 0, 0, 0, 0, [])),
  (21, (.aload_n 0, 0, 0, 0, 0, 0, 0, [])),
  (22, (.getfield 22, 2, 5, 0, 2, 0, 0, [])),
  (25, (.aload_n 0, 0, 0, 0, 0, 0, 0, [])),
  (26, (.getfield 32, 2, 6, 0, 0, 0, 0, [])),
  (29, (.lload_n 3, 3, 0, 0, 0, 0, 0, [])),
  (30, (.lastore, 0, 0, 0, 0, 0, 0, [])),
  (31, (.aload_n 0, 0, 0, 0, 0, 0, 0, [])),
  (32, (.dup, 0, 0, 0, 0, 0, 0, [])),
  (33, (.getfield 32, 2, 6, 0, 0, 0, 0, [])),
  (36, (.iconst 1, 0, 0, 0, 0, 1, 0, [])),
  (37, (.iadd, 0, 0, 0, 0, 0, 0, [])),
  (38, (.putfield 32, 2, 6, 0, 0, 0, 0, [])),
  (41, (.iconst 1, 0, 0, 0, 0, 1, 0, [])),
  (42, (.ireturn, 0, 0, 0, 1, 0, 0, []))]
def pg_X_frame : List (Nat × am_E) := [(0, (.aload_n 0, 0, 0, 0, 0, 0, 0, [])),
  (1, (.iload_n 1, 1, 0, 0, 0, 0, 0, [])),
  (2, (.invokevirtual 48, 8, 1, 0, 3, 0, 0, [])),
  (5, (.astore 5, 5, 0, 0, 0, 0, 0, [])),
  (7, (.aload 5, 5, 0, 0, 0, 0, 0, [])),
  (9, (.ifnonnull 5, 14, 0, 0, 0, 0, 0, [])),
  (12, (.iconst (-1), 0, 0, 0, 0, (-1), 0, [])),
  (13, (.ireturn, 0, 0, 0, 0, 0, 0, [])),
  (14, (.iload_n 2, 2, 0, 0, 0, 0, 0, [])),
  (15, (.invokestatic 101, 15, 1, 0, 1, 0, 0, [])),
  (18, (.ifCond .eq 25, 43, 0, 0, 0, 0, 0, [])),
  (21, (.iload_n 3, 3, 0, 0, 0, 0, 0, [])),
  (22, (.invokestatic 65, 12, 1, 0, 1, 0, 0, [])),
  (25, (.ifCond .eq 18, 43, 0, 0, 0, 0, 0, [])),
  (28, (.iload 4, 4, 0, 0, 0, 0, 0, [])),
  (30, (.bipush 64, 0, 0, 0, 0, 64, 0, [])),
  (32, (.if_icmp .lt 11, 43, 0, 0, 0, 0, 0, [])),
  (35, (.iload 4, 4, 0, 0, 0, 0, 0, [])),
  (37, (.sipush 1522, 0, 0, 0, 0, 1522, 0, [])),
  (40, (.if_icmp .le 6, 46, 0, 0, 0, 0, 0, [])),
  (43, (.bipush (-2), 0, 0, 0, 0, (-2), 0, [])),
  (45, (.ireturn, 0, 0, 0, 0, 0, 0, [])),
  (46, (.aload 5, 5, 0, 0, 0, 0, 0, [])),
  (48, (.getfield 54, 1, 2, 0, 1, 0, 0, [])),
  (51, (.lconst 0, 0, 0, 0, 0, 0, 0, [])),
  (52, (.lcmp, 0, 0, 0, 0, 0, 0, [])),
  (53, (.ifCond .ne 6, 59, 0, 0, 0, 0, 0, [])),
  (56, (.bipush (-3), 0, 0, 0, 0, (-3), 0, [])),
  (58, (.ireturn, 0, 0, 0, 0, 0, 0, [])),
  (59, (.aload_n 0, 0, 0, 0, 0, 0, 0, [])),
  (60, (.getfield 104, 0, 9, 0, 0, 0, 0, [])),
  (63, (.sipush 5000, 0, 0, 0, 0, 5000, 0, [])),
  (66, (.if_icmp .lt 6, 72, 0, 0, 0, 0, 0, [])),
  (69, (.bipush (-4), 0, 0, 0, 0, (-4), 0, [])),
  (71, (.ireturn, 0, 0, 0, 0, 0, 0, [])),
  (72, (.aload_n 0, 0, 0, 0, 0, 0, 0, [])),
  (73, (.dup, 0, 0, 0, 0, 0, 0, [])),
  (74, (.getfield 104, 0, 9, 0, 0, 0, 0, [])),
  (77, (.iconst 1, 0, 0, 0, 0, 1, 0, [])),
  (78, (.iadd, 0, 0, 0, 0, 0, 0, [])),
  (79, (.putfield 104, 0, 9, 0, 0, 0, 0, [])),
  (82, (.aload_n 0, 0, 0, 0, 0, 0, 0, [])),
  (83, (.iload_n 2, 2, 0, 0, 0, 0, 0, [])),
  (84, (.invokevirtual 107, 16, 1, 0, 3, 0, 0, [])),
  (87, (.astore 6, 6, 0, 0, 0, 0, 0, [])),
  (89, (.aload 6, 6, 0, 0, 0, 0, 0, [])),
  (91, (.getfield 111, 3, 0, 0, 2, 0, 0, [])),
  (94, (.iload_n 3, 3, 0, 0, 0, 0, 0, [])),
  (95, (.aaload, 0, 0, 0, 0, 0, 0, [])),
  (96, (.aload_n 0, 0, 0, 0, 0, 0, 0, [])),
  (97, (.getfield 115, 0, 6, 0, 1, 0, 0, [])),
  (100, (.invokevirtual 118, 19, 1, 4, 1, 0, 0, [])),
  (103, (.ifCond .ne 15, 118, 0, 0, 0, 0, 0, [])),
  (106, (.aload_n 0, 0, 0, 0, 0, 0, 0, [])),
  (107, (.getfield 31, 0, 3, 0, 2, 0, 0, [])),
  (110, (.iconst 1, 0, 0, 0, 0, 1, 0, [])),
  (111, (.dup2, 0, 0, 0, 0, 0, 0, [])),
  (112, (.iaload, 0, 0, 0, 0, 0, 0, [])),
  (113, (.iconst 1, 0, 0, 0, 0, 1, 0, [])),
  (114, (.iadd, 0, 0, 0, 0, 0, 0, [])),
  (115, (.iastore, 0, 0, 0, 0, 0, 0, [])),
  (116, (.iconst 0, 0, 0, 0, 0, 0, 0, [])),
  (117, (.ireturn, 0, 0, 0, 0, 0, 0, [])),
  (118, (.aload_n 0, 0, 0, 0, 0, 0, 0, [])),
  (119, (.aload 5, 5, 0, 0, 0, 0, 0, [])),
  (121, (.aload 6, 6, 0, 0, 0, 0, 0, [])),
  (123, (.aload_n 0, 0, 0, 0, 0, 0, 0, [])),
  (124, (.getfield 115, 0, 6, 0, 1, 0, 0, [])),
  (127, (.invokevirtual 124, 21, 1, 3, 1, 0, 0, [])),
  (130, (.iload_n 3, 3, 0, 0, 0, 0, 0, [])),
  (131, (.iload 4, 4, 0, 0, 0, 0, 0, [])),
  (133, (.invokevirtual 128, 23, 4, 0, 1, 0, 0, [])),
  (136, (.ifCond .le 10, 146, 0, 0, 0, 0, 0, [])),
  (139, (.aload_n 0, 0, 0, 0, 0, 0, 0, [])),
  (140, (.getfield 104, 0, 9, 0, 0, 0, 0, [])),
  (143, (.goto 4, 147, 0, 0, 0, 0, 0, [])),
  (146, (.iconst 0, 0, 0, 0, 0, 0, 0, [])),
  (147, (.ireturn, 0, 0, 0, 0, 0, 0, []))]
def pg_X_isAddress : List (Nat × am_E) := [(0, (.iload_n 0, 0, 0, 0, 0, 0, 0, [])),
  (1, (.iconst 1, 0, 0, 0, 0, 1, 0, [])),
  (2, (.if_icmp .lt 14, 16, 0, 0, 0, 0, 0, [])),
  (5, (.iload_n 0, 0, 0, 0, 0, 0, 0, [])),
  (6, (.sipush 1000, 0, 0, 0, 0, 1000, 0, [])),
  (9, (.if_icmp .gt 7, 16, 0, 0, 0, 0, 0, [])),
  (12, (.iconst 1, 0, 0, 0, 0, 1, 0, [])),
  (13, (.goto 4, 17, 0, 0, 0, 0, 0, [])),
  (16, (.iconst 0, 0, 0, 0, 0, 0, 0, [])),
  (17, (.ireturn, 0, 0, 0, 1, 0, 0, []))]
def pg_X_addressOf : List (Nat × am_E) := [(0, (.aload_n 0, 0, 0, 0, 0, 0, 0, [])),
  (1, (.getfield 20, 0, 1, 0, 2, 0, 0, [])),
  (4, (.iload_n 1, 1, 0, 0, 0, 0, 0, [])),
  (5, (.aaload, 0, 0, 0, 0, 0, 0, [])),
  (6, (.astore_n 2, 2, 0, 0, 0, 0, 0, [])),
  (7, (.aload_n 2, 2, 0, 0, 0, 0, 0, [])),
  (8, (.ifnonnull 18, 26, 0, 0, 0, 0, 0, [])),
  (11, (.new 18, 3, 3, 0, 0, 0, 0, [])),
  (14, (.dup, 0, 0, 0, 0, 0, 0, [])),
  (15, (.invokespecial 208, 17, 0, 0, 0, 0, 0, [])),
  (18, (.astore_n 2, 2, 0, 0, 0, 0, 0, [])),
  (19, (.aload_n 0, 0, 0, 0, 0, 0, 0, [])),
  (20, (.getfield 20, 0, 1, 0, 2, 0, 0, [])),
  (23, (.iload_n 1, 1, 0, 0, 0, 0, 0, [])),
  (24, (.aload_n 2, 2, 0, 0, 0, 0, 0, [])),
  (25, (.aastore, 0, 0, 0, 0, 0, 0, [])),
  (26, (.aload_n 2, 2, 0, 0, 0, 0, 0, [])),
  (27, (.areturn, 0, 0, 0, 0, 0, 0, []))]
def pg_A_init : List (Nat × am_E) := [(0, (.aload_n 0, 0, 0, 0, 0, 0, 0, [])),
  (1, (.invokespecial 3, 0, 0, 0, 0, 0, 0, [])),
  (4, (.aload_n 0, 0, 0, 0, 0, 0, 0, [])),
  (5, (.bipush 8, 0, 0, 0, 0, 8, 0, [])),
  (7, (.anewarray 9, 3, 0, 0, 0, 0, 0, [])),
  (10, (.putfield 11, 3, 0, 0, 2, 0, 0, [])),
  (13, (.iconst 0, 0, 0, 0, 0, 0, 0, [])),
  (14, (.istore_n 1, 1, 0, 0, 0, 0, 0, [])),
  (15, (.iload_n 1, 1, 0, 0, 0, 0, 0, [])),
  (16, (.bipush 8, 0, 0, 0, 0, 8, 0, [])),
  (18, (.if_icmp .ge 22, 40, 0, 0, 0, 0, 0, [])),
  (21, (.aload_n 0, 0, 0, 0, 0, 0, 0, [])),
  (22, (.getfield 11, 3, 0, 0, 2, 0, 0, [])),
  (25, (.iload_n 1, 1, 0, 0, 0, 0, 0, [])),
  (26, (.new 9, 4, 3, 0, 0, 0, 0, [])),
  (29, (.dup, 0, 0, 0, 0, 0, 0, [])),
  (30, (.invokespecial 17, 18, 0, 0, 0, 0, 0, [])),
  (33, (.aastore, 0, 0, 0, 0, 0, 0, [])),
  (34, (.iinc 1 1, 1, 0, 0, 0, 1, 0, [])),
  (37, (.goto (-22), 15, 0, 0, 0, 0, 0, [])),
  (40, (.return_, 0, 0, 0, 0, 0, 0, []))]
def pg_S_init : List (Nat × am_E) := [(0, (.aload_n 0, 0, 0, 0, 0, 0, 0, [])),
  (1, (.invokespecial 3, 0, 0, 0, 0, 0, 0, [])),
  (4, (.aload_n 0, 0, 0, 0, 0, 0, 0, [])),
  (5, (.ldc2_w 9, 0, 0, 0, 0, 0, (-1), [])),
  (8, (.putfield 11, 4, 0, 0, 1, 0, 0, [])),
  (11, (.return_, 0, 0, 0, 0, 0, 0, []))]
def pg_S_takesOne : List (Nat × am_E) := [(0, (.aload_n 0, 0, 0, 0, 0, 0, 0, [])),
  (1, (.lload_n 1, 1, 0, 0, 0, 0, 0, [])),
  (2, (.invokevirtual 26, 20, 1, 4, 1, 0, 0, [])),
  (5, (.istore_n 3, 3, 0, 0, 0, 0, 0, [])),
  (6, (.aload_n 0, 0, 0, 0, 0, 0, 0, [])),
  (7, (.getfield 11, 4, 0, 0, 1, 0, 0, [])),
  (10, (.ldc2_w 9, 0, 0, 0, 0, 0, (-1), [])),
  (13, (.lcmp, 0, 0, 0, 0, 0, 0, [])),
  (14, (.ifCond .eq 15, 29, 0, 0, 0, 0, 0, [])),
  (17, (.iload_n 3, 3, 0, 0, 0, 0, 0, [])),
  (18, (.i2l, 0, 0, 0, 0, 0, 0, [])),
  (19, (.aload_n 0, 0, 0, 0, 0, 0, 0, [])),
  (20, (.getfield 11, 4, 0, 0, 1, 0, 0, [])),
  (23, (.lcmp, 0, 0, 0, 0, 0, 0, [])),
  (24, (.ifCond .lt 5, 29, 0, 0, 0, 0, 0, [])),
  (27, (.iconst 0, 0, 0, 0, 0, 0, 0, [])),
  (28, (.ireturn, 0, 0, 0, 1, 0, 0, [])),
  (29, (.aload_n 0, 0, 0, 0, 0, 0, 0, [])),
  (30, (.lload_n 1, 1, 0, 0, 0, 0, 0, [])),
  (31, (.ldc2_w 20, 0, 0, 0, 0, 0, 1000, [])),
  (34, (.ldiv, 0, 0, 0, 0, 0, 0, [])),
  (35, (.putfield 17, 4, 1, 0, 1, 0, 0, [])),
  (38, (.aload_n 0, 0, 0, 0, 0, 0, 0, [])),
  (39, (.iload_n 3, 3, 0, 0, 0, 0, 0, [])),
  (40, (.iconst 1, 0, 0, 0, 0, 1, 0, [])),
  (41, (.iadd, 0, 0, 0, 0, 0, 0, [])),
  (42, (.putfield 22, 4, 2, 0, 0, 0, 0, [])),
  (45, (.iconst 1, 0, 0, 0, 0, 1, 0, [])),
  (46, (.ireturn, 0, 0, 0, 1, 0, 0, []))]
def pg_S_takenAt : List (Nat × am_E) := [(0, (.aload_n 0, 0, 0, 0, 0, 0, 0, [])),
  (1, (.getfield 17, 4, 1, 0, 1, 0, 0, [])),
  (4, (.lload_n 1, 1, 0, 0, 0, 0, 0, [])),
  (5, (.ldc2_w 20, 0, 0, 0, 0, 0, 1000, [])),
  (8, (.ldiv, 0, 0, 0, 0, 0, 0, [])),
  (9, (.lcmp, 0, 0, 0, 0, 0, 0, [])),
  (10, (.ifCond .ne 10, 20, 0, 0, 0, 0, 0, [])),
  (13, (.aload_n 0, 0, 0, 0, 0, 0, 0, [])),
  (14, (.getfield 22, 4, 2, 0, 0, 0, 0, [])),
  (17, (.goto 4, 21, 0, 0, 0, 0, 0, [])),
  (20, (.iconst 0, 0, 0, 0, 0, 0, 0, [])),
  (21, (.ireturn, 0, 0, 0, 0, 0, 0, []))]
def pg_A_portAt : List (Nat × am_E) := [(0, (.aload_n 0, 0, 0, 0, 0, 0, 0, [])),
  (1, (.invokevirtual 24, 22, 0, 3, 1, 0, 0, [])),
  (4, (.ifCond .ne 16, 20, 0, 0, 0, 0, 0, [])),
  (7, (.lload_n 1, 1, 0, 0, 0, 0, 0, [])),
  (8, (.aload_n 0, 0, 0, 0, 0, 0, 0, [])),
  (9, (.getfield 18, 3, 2, 0, 1, 0, 0, [])),
  (12, (.lsub, 0, 0, 0, 0, 0, 0, [])),
  (13, (.ldc2_w 28, 0, 0, 0, 0, 0, 3000, [])),
  (16, (.lcmp, 0, 0, 0, 0, 0, 0, [])),
  (17, (.ifCond .ge 10, 27, 0, 0, 0, 0, 0, [])),
  (20, (.aload_n 0, 0, 0, 0, 0, 0, 0, [])),
  (21, (.getfield 30, 3, 1, 0, 0, 0, 0, [])),
  (24, (.goto 4, 28, 0, 0, 0, 0, 0, [])),
  (27, (.iconst 0, 0, 0, 0, 0, 0, 0, [])),
  (28, (.ireturn, 0, 0, 0, 0, 0, 0, []))]
def pg_A_isFixed : List (Nat × am_E) := [(0, (.aload_n 0, 0, 0, 0, 0, 0, 0, [])),
  (1, (.getfield 18, 3, 2, 0, 1, 0, 0, [])),
  (4, (.ldc2_w 22, 0, 0, 0, 0, 0, (-1), [])),
  (7, (.lcmp, 0, 0, 0, 0, 0, 0, [])),
  (8, (.ifCond .ne 7, 15, 0, 0, 0, 0, 0, [])),
  (11, (.iconst 1, 0, 0, 0, 0, 1, 0, [])),
  (12, (.goto 4, 16, 0, 0, 0, 0, 0, [])),
  (15, (.iconst 0, 0, 0, 0, 0, 0, 0, [])),
  (16, (.ireturn, 0, 0, 0, 1, 0, 0, []))]
def pg_X_queueCopies : List (Nat × am_E) := [(0, (.iconst 0, 0, 0, 0, 0, 0, 0, [])),
  (1, (.istore 5, 5, 0, 0, 0, 0, 0, [])),
  (3, (.iconst 0, 0, 0, 0, 0, 0, 0, [])),
  (4, (.istore 6, 6, 0, 0, 0, 0, 0, [])),
  (6, (.iconst 0, 0, 0, 0, 0, 0, 0, [])),
  (7, (.istore 7, 7, 0, 0, 0, 0, 0, [])),
  (9, (.iload 7, 7, 0, 0, 0, 0, 0, [])),
  (11, (.aload_n 0, 0, 0, 0, 0, 0, 0, [])),
  (12, (.getfield 11, 0, 0, 0, 2, 0, 0, [])),
  (15, (.arraylength, 0, 0, 0, 0, 0, 0, [])),
  (16, (.if_icmp .ge 71, 87, 0, 0, 0, 0, 0, [])),
  (19, (.aload_n 0, 0, 0, 0, 0, 0, 0, [])),
  (20, (.getfield 11, 0, 0, 0, 2, 0, 0, [])),
  (23, (.iload 7, 7, 0, 0, 0, 0, 0, [])),
  (25, (.aaload, 0, 0, 0, 0, 0, 0, [])),
  (26, (.astore 8, 8, 0, 0, 0, 0, 0, [])),
  (28, (.aload 8, 8, 0, 0, 0, 0, 0, [])),
  (30, (.aload_n 1, 1, 0, 0, 0, 0, 0, [])),
  (31, (.if_acmp .eq 50, 81, 0, 0, 0, 0, 0, [])),
  (34, (.aload 8, 8, 0, 0, 0, 0, 0, [])),
  (36, (.getfield 54, 1, 2, 0, 1, 0, 0, [])),
  (39, (.lconst 0, 0, 0, 0, 0, 0, 0, [])),
  (40, (.lcmp, 0, 0, 0, 0, 0, 0, [])),
  (41, (.ifCond .eq 40, 81, 0, 0, 0, 0, 0, [])),
  (44, (.iload_n 2, 2, 0, 0, 0, 0, 0, [])),
  (45, (.ifCond .eq 15, 60, 0, 0, 0, 0, 0, [])),
  (48, (.iload_n 2, 2, 0, 0, 0, 0, 0, [])),
  (49, (.aload 8, 8, 0, 0, 0, 0, 0, [])),
  (51, (.getfield 209, 1, 0, 0, 0, 0, 0, [])),
  (54, (.if_icmp .eq 6, 60, 0, 0, 0, 0, 0, [])),
  (57, (.goto 24, 81, 0, 0, 0, 0, 0, [])),
  (60, (.iinc 5 1, 5, 0, 0, 0, 1, 0, [])),
  (63, (.aload 8, 8, 0, 0, 0, 0, 0, [])),
  (65, (.aload_n 0, 0, 0, 0, 0, 0, 0, [])),
  (66, (.getfield 104, 0, 9, 0, 0, 0, 0, [])),
  (69, (.iload_n 3, 3, 0, 0, 0, 0, 0, [])),
  (70, (.iload 4, 4, 0, 0, 0, 0, 0, [])),
  (72, (.invokevirtual 212, 24, 3, 1, 1, 0, 0, [])),
  (75, (.ifCond .eq 6, 81, 0, 0, 0, 0, 0, [])),
  (78, (.iinc 6 1, 6, 0, 0, 0, 1, 0, [])),
  (81, (.iinc 7 1, 7, 0, 0, 0, 1, 0, [])),
  (84, (.goto (-75), 9, 0, 0, 0, 0, 0, [])),
  (87, (.aload_n 0, 0, 0, 0, 0, 0, 0, [])),
  (88, (.getfield 31, 0, 3, 0, 2, 0, 0, [])),
  (91, (.iconst 0, 0, 0, 0, 0, 0, 0, [])),
  (92, (.dup2, 0, 0, 0, 0, 0, 0, [])),
  (93, (.iaload, 0, 0, 0, 0, 0, 0, [])),
  (94, (.iload 5, 5, 0, 0, 0, 0, 0, [])),
  (96, (.iload 6, 6, 0, 0, 0, 0, 0, [])),
  (98, (.isub, 0, 0, 0, 0, 0, 0, [])),
  (99, (.iadd, 0, 0, 0, 0, 0, 0, [])),
  (100, (.iastore, 0, 0, 0, 0, 0, 0, [])),
  (101, (.iload 5, 5, 0, 0, 0, 0, 0, [])),
  (103, (.ifCond .ne 13, 116, 0, 0, 0, 0, 0, [])),
  (106, (.aload_n 0, 0, 0, 0, 0, 0, 0, [])),
  (107, (.getfield 31, 0, 3, 0, 2, 0, 0, [])),
  (110, (.iconst 2, 0, 0, 0, 0, 2, 0, [])),
  (111, (.dup2, 0, 0, 0, 0, 0, 0, [])),
  (112, (.iaload, 0, 0, 0, 0, 0, 0, [])),
  (113, (.iconst 1, 0, 0, 0, 0, 1, 0, [])),
  (114, (.iadd, 0, 0, 0, 0, 0, 0, [])),
  (115, (.iastore, 0, 0, 0, 0, 0, 0, [])),
  (116, (.iload 6, 6, 0, 0, 0, 0, 0, [])),
  (118, (.ireturn, 0, 0, 0, 0, 0, 0, []))]
def pg_P_queue : List (Nat × am_E) := [(0, (.aload_n 0, 0, 0, 0, 0, 0, 0, [])),
  (1, (.getfield 17, 1, 1, 0, 2, 0, 0, [])),
  (4, (.iload_n 2, 2, 0, 0, 0, 0, 0, [])),
  (5, (.aaload, 0, 0, 0, 0, 0, 0, [])),
  (6, (.iload_n 1, 1, 0, 0, 0, 0, 0, [])),
  (7, (.iload_n 3, 3, 0, 0, 0, 0, 0, [])),
  (8, (.invokevirtual 25, 25, 2, 2, 1, 0, 0, [])),
  (11, (.ifCond .ne 5, 16, 0, 0, 0, 0, 0, [])),
  (14, (.iconst 0, 0, 0, 0, 0, 0, 0, [])),
  (15, (.ireturn, 0, 0, 0, 1, 0, 0, [])),
  (16, (.aload_n 0, 0, 0, 0, 0, 0, 0, [])),
  (17, (.dup, 0, 0, 0, 0, 0, 0, [])),
  (18, (.getfield 29, 1, 4, 0, 0, 0, 0, [])),
  (21, (.iconst 1, 0, 0, 0, 0, 1, 0, [])),
  (22, (.iadd, 0, 0, 0, 0, 0, 0, [])),
  (23, (.putfield 29, 1, 4, 0, 0, 0, 0, [])),
  (26, (.iconst 1, 0, 0, 0, 0, 1, 0, [])),
  (27, (.ireturn, 0, 0, 0, 1, 0, 0, []))]
def pg_K_add : List (Nat × am_E) := [(0, (.aload_n 0, 0, 0, 0, 0, 0, 0, [])),
  (1, (.getfield 25, 2, 3, 0, 0, 0, 0, [])),
  (4, (.bipush 16, 0, 0, 0, 0, 16, 0, [])),
  (6, (.if_icmp .lt 5, 11, 0, 0, 0, 0, 0, [])),
  (9, (.iconst 0, 0, 0, 0, 0, 0, 0, [])),
  (10, (.ireturn, 0, 0, 0, 1, 0, 0, [])),
  (11, (.aload_n 0, 0, 0, 0, 0, 0, 0, [])),
  (12, (.getfield 29, 2, 2, 0, 0, 0, 0, [])),
  (15, (.aload_n 0, 0, 0, 0, 0, 0, 0, [])),
  (16, (.getfield 25, 2, 3, 0, 0, 0, 0, [])),
  (19, (.iadd, 0, 0, 0, 0, 0, 0, [])),
  (20, (.bipush 16, 0, 0, 0, 0, 16, 0, [])),
  (22, (.irem, 0, 0, 0, 0, 0, 0, [])),
  (23, (.istore_n 3, 3, 0, 0, 0, 0, 0, [])),
  (24, (.aload_n 0, 0, 0, 0, 0, 0, 0, [])),
  (25, (.getfield 9, 2, 0, 0, 2, 0, 0, [])),
  (28, (.iload_n 3, 3, 0, 0, 0, 0, 0, [])),
  (29, (.iload_n 1, 1, 0, 0, 0, 0, 0, [])),
  (30, (.iastore, 0, 0, 0, 0, 0, 0, [])),
  (31, (.aload_n 0, 0, 0, 0, 0, 0, 0, [])),
  (32, (.getfield 15, 2, 1, 0, 2, 0, 0, [])),
  (35, (.iload_n 3, 3, 0, 0, 0, 0, 0, [])),
  (36, (.iload_n 2, 2, 0, 0, 0, 0, 0, [])),
  (37, (.iastore, 0, 0, 0, 0, 0, 0, [])),
  (38, (.aload_n 0, 0, 0, 0, 0, 0, 0, [])),
  (39, (.dup, 0, 0, 0, 0, 0, 0, [])),
  (40, (.getfield 25, 2, 3, 0, 0, 0, 0, [])),
  (43, (.iconst 1, 0, 0, 0, 0, 1, 0, [])),
  (44, (.iadd, 0, 0, 0, 0, 0, 0, [])),
  (45, (.putfield 25, 2, 3, 0, 0, 0, 0, [])),
  (48, (.iconst 1, 0, 0, 0, 0, 1, 0, [])),
  (49, (.ireturn, 0, 0, 0, 1, 0, 0, []))]
def pg_X_run : List (Nat × am_E) := [(0, (.lload_n 1, 1, 0, 0, 0, 0, 0, [])),
  (1, (.lconst 0, 0, 0, 0, 0, 0, 0, [])),
  (2, (.lcmp, 0, 0, 0, 0, 0, 0, [])),
  (3, (.ifCond .lt 11, 14, 0, 0, 0, 0, 0, [])),
  (6, (.lload_n 1, 1, 0, 0, 0, 0, 0, [])),
  (7, (.ldc2_w 132, 0, 0, 0, 0, 0, 2000, [])),
  (10, (.lcmp, 0, 0, 0, 0, 0, 0, [])),
  (11, (.ifCond .le 6, 17, 0, 0, 0, 0, 0, [])),
  (14, (.bipush (-2), 0, 0, 0, 0, (-2), 0, [])),
  (16, (.ireturn, 0, 0, 0, 0, 0, 0, [])),
  (17, (.aload_n 0, 0, 0, 0, 0, 0, 0, [])),
  (18, (.getfield 134, 0, 10, 0, 0, 0, 0, [])),
  (21, (.istore_n 3, 3, 0, 0, 0, 0, 0, [])),
  (22, (.aload_n 0, 0, 0, 0, 0, 0, 0, [])),
  (23, (.getfield 115, 0, 6, 0, 1, 0, 0, [])),
  (26, (.lload_n 1, 1, 0, 0, 0, 0, 0, [])),
  (27, (.ladd, 0, 0, 0, 0, 0, 0, [])),
  (28, (.lstore 4, 4, 0, 0, 0, 0, 0, [])),
  (30, (.iconst 0, 0, 0, 0, 0, 0, 0, [])),
  (31, (.istore 6, 6, 0, 0, 0, 0, 0, [])),
  (33, (.iload 6, 6, 0, 0, 0, 0, 0, [])),
  (35, (.i2l, 0, 0, 0, 0, 0, 0, [])),
  (36, (.ldc2_w 132, 0, 0, 0, 0, 0, 2000, [])),
  (39, (.lcmp, 0, 0, 0, 0, 0, 0, [])),
  (40, (.ifCond .ge 60, 100, 0, 0, 0, 0, 0, [])),
  (43, (.aload_n 0, 0, 0, 0, 0, 0, 0, [])),
  (44, (.getfield 115, 0, 6, 0, 1, 0, 0, [])),
  (47, (.lload 4, 4, 0, 0, 0, 0, 0, [])),
  (49, (.lcmp, 0, 0, 0, 0, 0, 0, [])),
  (50, (.ifCond .ge 50, 100, 0, 0, 0, 0, 0, [])),
  (53, (.aload_n 0, 0, 0, 0, 0, 0, 0, [])),
  (54, (.invokevirtual 137, 27, 0, 0, 0, 0, 0, [])),
  (57, (.aload_n 0, 0, 0, 0, 0, 0, 0, [])),
  (58, (.invokevirtual 140, 37, 0, 0, 0, 0, 0, [])),
  (61, (.lload 4, 4, 0, 0, 0, 0, 0, [])),
  (63, (.aload_n 0, 0, 0, 0, 0, 0, 0, [])),
  (64, (.getfield 115, 0, 6, 0, 1, 0, 0, [])),
  (67, (.lsub, 0, 0, 0, 0, 0, 0, [])),
  (68, (.aload_n 0, 0, 0, 0, 0, 0, 0, [])),
  (69, (.invokevirtual 143, 44, 0, 0, 2, 0, 0, [])),
  (72, (.invokestatic 147, 0, 0, 4, 0, 0, 0, [])),
  (75, (.lstore 7, 7, 0, 0, 0, 0, 0, [])),
  (77, (.aload_n 0, 0, 0, 0, 0, 0, 0, [])),
  (78, (.lload 7, 7, 0, 0, 0, 0, 0, [])),
  (80, (.invokevirtual 150, 46, 1, 0, 0, 0, 0, [])),
  (83, (.aload_n 0, 0, 0, 0, 0, 0, 0, [])),
  (84, (.dup, 0, 0, 0, 0, 0, 0, [])),
  (85, (.getfield 115, 0, 6, 0, 1, 0, 0, [])),
  (88, (.lload 7, 7, 0, 0, 0, 0, 0, [])),
  (90, (.ladd, 0, 0, 0, 0, 0, 0, [])),
  (91, (.putfield 115, 0, 6, 0, 1, 0, 0, [])),
  (94, (.iinc 6 1, 6, 0, 0, 0, 1, 0, [])),
  (97, (.goto (-64), 33, 0, 0, 0, 0, 0, [])),
  (100, (.aload_n 0, 0, 0, 0, 0, 0, 0, [])),
  (101, (.getfield 134, 0, 10, 0, 0, 0, 0, [])),
  (104, (.iload_n 3, 3, 0, 0, 0, 0, 0, [])),
  (105, (.isub, 0, 0, 0, 0, 0, 0, [])),
  (106, (.ireturn, 0, 0, 0, 0, 0, 0, []))]
def pg_X_endSendings : List (Nat × am_E) := [(0, (.iconst 0, 0, 0, 0, 0, 0, 0, [])),
  (1, (.istore_n 1, 1, 0, 0, 0, 0, 0, [])),
  (2, (.iload_n 1, 1, 0, 0, 0, 0, 0, [])),
  (3, (.aload_n 0, 0, 0, 0, 0, 0, 0, [])),
  (4, (.getfield 11, 0, 0, 0, 2, 0, 0, [])),
  (7, (.arraylength, 0, 0, 0, 0, 0, 0, [])),
  (8, (.if_icmp .ge 94, 102, 0, 0, 0, 0, 0, [])),
  (11, (.aload_n 0, 0, 0, 0, 0, 0, 0, [])),
  (12, (.getfield 11, 0, 0, 0, 2, 0, 0, [])),
  (15, (.iload_n 1, 1, 0, 0, 0, 0, 0, [])),
  (16, (.aaload, 0, 0, 0, 0, 0, 0, [])),
  (17, (.astore_n 2, 2, 0, 0, 0, 0, 0, [])),
  (18, (.aload_n 2, 2, 0, 0, 0, 0, 0, [])),
  (19, (.invokevirtual 57, 9, 0, 1, 1, 0, 0, [])),
  (22, (.ifCond .eq 74, 96, 0, 0, 0, 0, 0, [])),
  (25, (.aload_n 2, 2, 0, 0, 0, 0, 0, [])),
  (26, (.getfield 216, 1, 8, 0, 1, 0, 0, [])),
  (29, (.aload_n 0, 0, 0, 0, 0, 0, 0, [])),
  (30, (.getfield 115, 0, 6, 0, 1, 0, 0, [])),
  (33, (.lcmp, 0, 0, 0, 0, 0, 0, [])),
  (34, (.ifCond .gt 62, 96, 0, 0, 0, 0, 0, [])),
  (37, (.aload_n 0, 0, 0, 0, 0, 0, 0, [])),
  (38, (.getfield 27, 0, 2, 0, 2, 0, 0, [])),
  (41, (.invokevirtual 154, 28, 0, 6, 1, 0, 0, [])),
  (44, (.sipush 5000, 0, 0, 0, 0, 5000, 0, [])),
  (47, (.if_icmp .ge 34, 81, 0, 0, 0, 0, 0, [])),
  (50, (.aload_n 0, 0, 0, 0, 0, 0, 0, [])),
  (51, (.getfield 27, 0, 2, 0, 2, 0, 0, [])),
  (54, (.new 161, 5, 4, 0, 0, 0, 0, [])),
  (57, (.dup, 0, 0, 0, 0, 0, 0, [])),
  (58, (.aload_n 2, 2, 0, 0, 0, 0, 0, [])),
  (59, (.getfield 219, 1, 5, 0, 0, 0, 0, [])),
  (62, (.aload_n 2, 2, 0, 0, 0, 0, 0, [])),
  (63, (.getfield 209, 1, 0, 0, 0, 0, 0, [])),
  (66, (.aload_n 2, 2, 0, 0, 0, 0, 0, [])),
  (67, (.getfield 222, 1, 7, 0, 1, 0, 0, [])),
  (70, (.aload_n 2, 2, 0, 0, 0, 0, 0, [])),
  (71, (.getfield 216, 1, 8, 0, 1, 0, 0, [])),
  (74, (.invokespecial 225, 29, 4, 0, 0, 0, 0, [])),
  (77, (.invokevirtual 228, 30, 1, 6, 1, 0, 0, [])),
  (80, (.pop, 0, 0, 0, 0, 0, 0, [])),
  (81, (.aload_n 0, 0, 0, 0, 0, 0, 0, [])),
  (82, (.dup, 0, 0, 0, 0, 0, 0, [])),
  (83, (.getfield 134, 0, 10, 0, 0, 0, 0, [])),
  (86, (.iconst 1, 0, 0, 0, 0, 1, 0, [])),
  (87, (.iadd, 0, 0, 0, 0, 0, 0, [])),
  (88, (.putfield 134, 0, 10, 0, 0, 0, 0, [])),
  (91, (.aload_n 2, 2, 0, 0, 0, 0, 0, [])),
  (92, (.iconst 0, 0, 0, 0, 0, 0, 0, [])),
  (93, (.putfield 219, 1, 5, 0, 0, 0, 0, [])),
  (96, (.iinc 1 1, 1, 0, 0, 0, 1, 0, [])),
  (99, (.goto (-97), 2, 0, 0, 0, 0, 0, [])),
  (102, (.return_, 0, 0, 0, 0, 0, 0, []))]
def pg_L_size : List (Nat × am_E) := [(0, (.aload_n 0, 0, 0, 0, 0, 0, 0, [])),
  (1, (.getfield 48, 6, 1, 0, 0, 0, 0, [])),
  (4, (.ireturn, 0, 0, 0, 0, 0, 0, []))]
def pg_D_init : List (Nat × am_E) := [(0, (.aload_n 0, 0, 0, 0, 0, 0, 0, [])),
  (1, (.invokespecial 1, 0, 0, 0, 0, 0, 0, [])),
  (4, (.aload_n 0, 0, 0, 0, 0, 0, 0, [])),
  (5, (.iload_n 1, 1, 0, 0, 0, 0, 0, [])),
  (6, (.putfield 7, 5, 0, 0, 0, 0, 0, [])),
  (9, (.aload_n 0, 0, 0, 0, 0, 0, 0, [])),
  (10, (.iload_n 2, 2, 0, 0, 0, 0, 0, [])),
  (11, (.putfield 13, 5, 1, 0, 0, 0, 0, [])),
  (14, (.aload_n 0, 0, 0, 0, 0, 0, 0, [])),
  (15, (.lload_n 3, 3, 0, 0, 0, 0, 0, [])),
  (16, (.putfield 16, 5, 2, 0, 1, 0, 0, [])),
  (19, (.aload_n 0, 0, 0, 0, 0, 0, 0, [])),
  (20, (.lload 5, 5, 0, 0, 0, 0, 0, [])),
  (22, (.putfield 20, 5, 3, 0, 1, 0, 0, [])),
  (25, (.return_, 0, 0, 0, 0, 0, 0, []))]
def pg_L_add : List (Nat × am_E) := [(0, (.aload_n 0, 0, 0, 0, 0, 0, 0, [])),
  (1, (.dup, 0, 0, 0, 0, 0, 0, [])),
  (2, (.getfield 63, 6, 2, 0, 0, 0, 0, [])),
  (5, (.iconst 1, 0, 0, 0, 0, 1, 0, [])),
  (6, (.iadd, 0, 0, 0, 0, 0, 0, [])),
  (7, (.putfield 63, 6, 2, 0, 0, 0, 0, [])),
  (10, (.aload_n 0, 0, 0, 0, 0, 0, 0, [])),
  (11, (.aload_n 1, 1, 0, 0, 0, 0, 0, [])),
  (12, (.aload_n 0, 0, 0, 0, 0, 0, 0, [])),
  (13, (.getfield 9, 6, 0, 0, 2, 0, 0, [])),
  (16, (.aload_n 0, 0, 0, 0, 0, 0, 0, [])),
  (17, (.getfield 48, 6, 1, 0, 0, 0, 0, [])),
  (20, (.invokevirtual 131, 31, 3, 6, 0, 0, 0, [])),
  (23, (.iconst 1, 0, 0, 0, 0, 1, 0, [])),
  (24, (.ireturn, 0, 0, 0, 1, 0, 0, []))]
def pg_L_add2 : List (Nat × am_E) := [(0, (.iload_n 3, 3, 0, 0, 0, 0, 0, [])),
  (1, (.aload_n 2, 2, 0, 0, 0, 0, 0, [])),
  (2, (.arraylength, 0, 0, 0, 0, 0, 0, [])),
  (3, (.if_icmp .ne 8, 11, 0, 0, 0, 0, 0, [])),
  (6, (.aload_n 0, 0, 0, 0, 0, 0, 0, [])),
  (7, (.invokevirtual 129, 32, 0, 6, 3, 0, 0, [])),
  (10, (.astore_n 2, 2, 0, 0, 0, 0, 0, [])),
  (11, (.aload_n 2, 2, 0, 0, 0, 0, 0, [])),
  (12, (.iload_n 3, 3, 0, 0, 0, 0, 0, [])),
  (13, (.aload_n 1, 1, 0, 0, 0, 0, 0, [])),
  (14, (.aastore, 0, 0, 0, 0, 0, 0, [])),
  (15, (.aload_n 0, 0, 0, 0, 0, 0, 0, [])),
  (16, (.iload_n 3, 3, 0, 0, 0, 0, 0, [])),
  (17, (.iconst 1, 0, 0, 0, 0, 1, 0, [])),
  (18, (.iadd, 0, 0, 0, 0, 0, 0, [])),
  (19, (.putfield 48, 6, 1, 0, 0, 0, 0, [])),
  (22, (.return_, 0, 0, 0, 0, 0, 0, []))]
def pg_L_grow : List (Nat × am_E) := [(0, (.aload_n 0, 0, 0, 0, 0, 0, 0, [])),
  (1, (.aload_n 0, 0, 0, 0, 0, 0, 0, [])),
  (2, (.getfield 48, 6, 1, 0, 0, 0, 0, [])),
  (5, (.iconst 1, 0, 0, 0, 0, 1, 0, [])),
  (6, (.iadd, 0, 0, 0, 0, 0, 0, [])),
  (7, (.invokevirtual 69, 33, 1, 6, 3, 0, 0, [])),
  (10, (.areturn, 0, 0, 0, 0, 0, 0, []))]
def pg_L_grow2 : List (Nat × am_E) := [(0, (.aload_n 0, 0, 0, 0, 0, 0, 0, [])),
  (1, (.getfield 9, 6, 0, 0, 2, 0, 0, [])),
  (4, (.arraylength, 0, 0, 0, 0, 0, 0, [])),
  (5, (.istore_n 2, 2, 0, 0, 0, 0, 0, [])),
  (6, (.iload_n 2, 2, 0, 0, 0, 0, 0, [])),
  (7, (.ifCond .gt 13, 20, 0, 0, 0, 0, 0, [])),
  (10, (.aload_n 0, 0, 0, 0, 0, 0, 0, [])),
  (11, (.getfield 9, 6, 0, 0, 2, 0, 0, [])),
  (14, (.getstatic 39, 0, 0, 0, 0, 0, 0, [])),
  (17, (.if_acmp .eq 28, 45, 0, 0, 0, 0, 0, [])),
  (20, (.iload_n 2, 2, 0, 0, 0, 0, 0, [])),
  (21, (.iload_n 1, 1, 0, 0, 0, 0, 0, [])),
  (22, (.iload_n 2, 2, 0, 0, 0, 0, 0, [])),
  (23, (.isub, 0, 0, 0, 0, 0, 0, [])),
  (24, (.iload_n 2, 2, 0, 0, 0, 0, 0, [])),
  (25, (.iconst 1, 0, 0, 0, 0, 1, 0, [])),
  (26, (.ishr, 0, 0, 0, 0, 0, 0, [])),
  (27, (.invokestatic 73, 34, 3, 0, 1, 0, 0, [])),
  (30, (.istore_n 3, 3, 0, 0, 0, 0, 0, [])),
  (31, (.aload_n 0, 0, 0, 0, 0, 0, 0, [])),
  (32, (.aload_n 0, 0, 0, 0, 0, 0, 0, [])),
  (33, (.getfield 9, 6, 0, 0, 2, 0, 0, [])),
  (36, (.iload_n 3, 3, 0, 0, 0, 0, 0, [])),
  (37, (.invokestatic 66, 36, 2, 0, 3, 0, 0, [])),
  (40, (.dup_x1, 0, 0, 0, 0, 0, 0, [])),
  (41, (.putfield 9, 6, 0, 0, 2, 0, 0, [])),
  (44, (.areturn, 0, 0, 0, 0, 0, 0, [])),
  (45, (.aload_n 0, 0, 0, 0, 0, 0, 0, [])),
  (46, (.bipush 10, 0, 0, 0, 0, 10, 0, [])),
  (48, (.iload_n 1, 1, 0, 0, 0, 0, 0, [])),
  (49, (.invokestatic 79, 0, 0, 1, 0, 0, 0, [])),
  (52, (.anewarray 7, 4, 0, 0, 0, 0, 0, [])),
  (55, (.dup_x1, 0, 0, 0, 0, 0, 0, [])),
  (56, (.putfield 9, 6, 0, 0, 2, 0, 0, [])),
  (59, (.areturn, 0, 0, 0, 0, 0, 0, []))]
def pg_Q_newLength : List (Nat × am_E) := [(0, (.iload_n 0, 0, 0, 0, 0, 0, 0, [])),
  (1, (.iload_n 1, 1, 0, 0, 0, 0, 0, [])),
  (2, (.iload_n 2, 2, 0, 0, 0, 0, 0, [])),
  (3, (.invokestatic 194, 0, 0, 1, 0, 0, 0, [])),
  (6, (.iadd, 0, 0, 0, 0, 0, 0, [])),
  (7, (.istore_n 3, 3, 0, 0, 0, 0, 0, [])),
  (8, (.iconst 0, 0, 0, 0, 0, 0, 0, [])),
  (9, (.iload_n 3, 3, 0, 0, 0, 0, 0, [])),
  (10, (.if_icmp .ge 11, 21, 0, 0, 0, 0, 0, [])),
  (13, (.iload_n 3, 3, 0, 0, 0, 0, 0, [])),
  (14, (.ldc 200, 0, 0, 0, 0, 2147483639, 0, [])),
  (16, (.if_icmp .gt 5, 21, 0, 0, 0, 0, 0, [])),
  (19, (.iload_n 3, 3, 0, 0, 0, 0, 0, [])),
  (20, (.ireturn, 0, 0, 0, 0, 0, 0, [])),
  (21, (.iload_n 0, 0, 0, 0, 0, 0, 0, [])),
  (22, (.iload_n 1, 1, 0, 0, 0, 0, 0, [])),
  (23, (.invokestatic 201, 35, 2, 0, 1, 0, 0, [])),
  (26, (.ireturn, 0, 0, 0, 0, 0, 0, []))]
def pg_Q_hugeLength : List (Nat × am_E) := [(0, (.iload_n 0, 0, 0, 0, 0, 0, 0, [])),
  (1, (.iload_n 1, 1, 0, 0, 0, 0, 0, [])),
  (2, (.iadd, 0, 0, 0, 0, 0, 0, [])),
  (3, (.istore_n 2, 2, 0, 0, 0, 0, 0, [])),
  (4, (.iload_n 2, 2, 0, 0, 0, 0, 0, [])),
  (5, (.ifCond .ge 44, 49, 0, 0, 0, 0, 0, [])),
  (11, (.dup, 0, 0, 0, 0, 0, 0, [])),
  (15, (.dup, 0, 0, 0, 0, 0, 0, [])),
  (24, (.iload_n 0, 0, 0, 0, 0, 0, 0, [])),
  (33, (.iload_n 1, 1, 0, 0, 0, 0, 0, [])),
  (49, (.iload_n 2, 2, 0, 0, 0, 0, 0, [])),
  (50, (.ldc 200, 0, 0, 0, 0, 2147483639, 0, [])),
  (52, (.if_icmp .gt 6, 58, 0, 0, 0, 0, 0, [])),
  (55, (.ldc 200, 0, 0, 0, 0, 2147483639, 0, [])),
  (57, (.ireturn, 0, 0, 0, 0, 0, 0, [])),
  (58, (.iload_n 2, 2, 0, 0, 0, 0, 0, [])),
  (59, (.ireturn, 0, 0, 0, 0, 0, 0, []))]
def pg_R_copyOf : List (Nat × am_E) := [(0, (.aload_n 0, 0, 0, 0, 0, 0, 0, [])),
  (1, (.iload_n 1, 1, 0, 0, 0, 0, 0, [])),
  (2, (.aload_n 0, 0, 0, 0, 0, 0, 0, [])),
  (9, (.areturn, 0, 0, 0, 0, 0, 0, []))]
def pg_X_beginSendings : List (Nat × am_E) := [(0, (.iconst 0, 0, 0, 0, 0, 0, 0, [])),
  (1, (.istore_n 1, 1, 0, 0, 0, 0, 0, [])),
  (2, (.iload_n 1, 1, 0, 0, 0, 0, 0, [])),
  (3, (.aload_n 0, 0, 0, 0, 0, 0, 0, [])),
  (4, (.getfield 11, 0, 0, 0, 2, 0, 0, [])),
  (7, (.arraylength, 0, 0, 0, 0, 0, 0, [])),
  (8, (.if_icmp .ge 26, 34, 0, 0, 0, 0, 0, [])),
  (11, (.aload_n 0, 0, 0, 0, 0, 0, 0, [])),
  (12, (.getfield 11, 0, 0, 0, 2, 0, 0, [])),
  (15, (.iload_n 1, 1, 0, 0, 0, 0, 0, [])),
  (16, (.aaload, 0, 0, 0, 0, 0, 0, [])),
  (17, (.aload_n 0, 0, 0, 0, 0, 0, 0, [])),
  (18, (.getfield 115, 0, 6, 0, 1, 0, 0, [])),
  (21, (.aload_n 0, 0, 0, 0, 0, 0, 0, [])),
  (22, (.getfield 44, 0, 7, 0, 1, 0, 0, [])),
  (25, (.invokevirtual 232, 38, 2, 1, 0, 0, 0, [])),
  (28, (.iinc 1 1, 1, 0, 0, 0, 1, 0, [])),
  (31, (.goto (-29), 2, 0, 0, 0, 0, 0, [])),
  (34, (.return_, 0, 0, 0, 0, 0, 0, []))]
def pg_P_beginNext : List (Nat × am_E) := [(0, (.aload_n 0, 0, 0, 0, 0, 0, 0, [])),
  (1, (.getfield 37, 1, 2, 0, 1, 0, 0, [])),
  (4, (.lconst 0, 0, 0, 0, 0, 0, 0, [])),
  (5, (.lcmp, 0, 0, 0, 0, 0, 0, [])),
  (6, (.ifCond .le 23, 29, 0, 0, 0, 0, 0, [])),
  (9, (.lload_n 3, 3, 0, 0, 0, 0, 0, [])),
  (10, (.lconst 0, 0, 0, 0, 0, 0, 0, [])),
  (11, (.lcmp, 0, 0, 0, 0, 0, 0, [])),
  (12, (.ifCond .le 17, 29, 0, 0, 0, 0, 0, [])),
  (15, (.aload_n 0, 0, 0, 0, 0, 0, 0, [])),
  (16, (.getfield 29, 1, 4, 0, 0, 0, 0, [])),
  (19, (.ifCond .eq 10, 29, 0, 0, 0, 0, 0, [])),
  (22, (.aload_n 0, 0, 0, 0, 0, 0, 0, [])),
  (23, (.invokevirtual 32, 9, 0, 1, 1, 0, 0, [])),
  (26, (.ifCond .eq 4, 30, 0, 0, 0, 0, 0, [])),
  (29, (.return_, 0, 0, 0, 0, 0, 0, [])),
  (30, (.lload_n 1, 1, 0, 0, 0, 0, 0, [])),
  (31, (.aload_n 0, 0, 0, 0, 0, 0, 0, [])),
  (32, (.getfield 41, 1, 3, 0, 1, 0, 0, [])),
  (35, (.ladd, 0, 0, 0, 0, 0, 0, [])),
  (36, (.lload_n 3, 3, 0, 0, 0, 0, 0, [])),
  (37, (.lrem, 0, 0, 0, 0, 0, 0, [])),
  (38, (.lstore 5, 5, 0, 0, 0, 0, 0, [])),
  (40, (.bipush 7, 0, 0, 0, 0, 7, 0, [])),
  (42, (.istore 7, 7, 0, 0, 0, 0, 0, [])),
  (44, (.iload 7, 7, 0, 0, 0, 0, 0, [])),
  (46, (.ifCond .lt 100, 146, 0, 0, 0, 0, 0, [])),
  (49, (.aload_n 0, 0, 0, 0, 0, 0, 0, [])),
  (50, (.getfield 17, 1, 1, 0, 2, 0, 0, [])),
  (53, (.iload 7, 7, 0, 0, 0, 0, 0, [])),
  (55, (.aaload, 0, 0, 0, 0, 0, 0, [])),
  (56, (.astore 8, 8, 0, 0, 0, 0, 0, [])),
  (58, (.aload 8, 8, 0, 0, 0, 0, 0, [])),
  (60, (.getfield 36, 2, 3, 0, 0, 0, 0, [])),
  (63, (.ifCond .ne 6, 69, 0, 0, 0, 0, 0, [])),
  (66, (.goto 74, 140, 0, 0, 0, 0, 0, [])),
  (69, (.aload 8, 8, 0, 0, 0, 0, 0, [])),
  (71, (.invokevirtual 44, 39, 0, 2, 1, 0, 0, [])),
  (74, (.i2l, 0, 0, 0, 0, 0, 0, [])),
  (75, (.aload_n 0, 0, 0, 0, 0, 0, 0, [])),
  (76, (.getfield 37, 1, 2, 0, 1, 0, 0, [])),
  (79, (.ladd, 0, 0, 0, 0, 0, 0, [])),
  (80, (.lconst 1, 0, 0, 0, 0, 0, 1, [])),
  (81, (.lsub, 0, 0, 0, 0, 0, 0, [])),
  (82, (.aload_n 0, 0, 0, 0, 0, 0, 0, [])),
  (83, (.getfield 37, 1, 2, 0, 1, 0, 0, [])),
  (86, (.ldiv, 0, 0, 0, 0, 0, 0, [])),
  (87, (.lstore 9, 9, 0, 0, 0, 0, 0, [])),
  (89, (.aload 8, 8, 0, 0, 0, 0, 0, [])),
  (91, (.lload 5, 5, 0, 0, 0, 0, 0, [])),
  (93, (.lload 9, 9, 0, 0, 0, 0, 0, [])),
  (95, (.invokevirtual 48, 40, 2, 2, 1, 0, 0, [])),
  (98, (.ifCond .eq 42, 140, 0, 0, 0, 0, 0, [])),
  (101, (.aload_n 0, 0, 0, 0, 0, 0, 0, [])),
  (102, (.aload 8, 8, 0, 0, 0, 0, 0, [])),
  (104, (.invokevirtual 52, 43, 0, 2, 1, 0, 0, [])),
  (107, (.putfield 22, 1, 5, 0, 0, 0, 0, [])),
  (110, (.aload_n 0, 0, 0, 0, 0, 0, 0, [])),
  (111, (.iload 7, 7, 0, 0, 0, 0, 0, [])),
  (113, (.putfield 55, 1, 6, 0, 0, 0, 0, [])),
  (116, (.aload_n 0, 0, 0, 0, 0, 0, 0, [])),
  (117, (.lload_n 1, 1, 0, 0, 0, 0, 0, [])),
  (118, (.putfield 58, 1, 7, 0, 1, 0, 0, [])),
  (121, (.aload_n 0, 0, 0, 0, 0, 0, 0, [])),
  (122, (.lload_n 1, 1, 0, 0, 0, 0, 0, [])),
  (123, (.lload 9, 9, 0, 0, 0, 0, 0, [])),
  (125, (.ladd, 0, 0, 0, 0, 0, 0, [])),
  (126, (.putfield 61, 1, 8, 0, 1, 0, 0, [])),
  (129, (.aload_n 0, 0, 0, 0, 0, 0, 0, [])),
  (130, (.dup, 0, 0, 0, 0, 0, 0, [])),
  (131, (.getfield 29, 1, 4, 0, 0, 0, 0, [])),
  (134, (.iconst 1, 0, 0, 0, 0, 1, 0, [])),
  (135, (.isub, 0, 0, 0, 0, 0, 0, [])),
  (136, (.putfield 29, 1, 4, 0, 0, 0, 0, [])),
  (139, (.return_, 0, 0, 0, 0, 0, 0, [])),
  (140, (.iinc 7 (-1), 7, 0, 0, 0, (-1), 0, [])),
  (143, (.goto (-99), 44, 0, 0, 0, 0, 0, [])),
  (146, (.return_, 0, 0, 0, 0, 0, 0, []))]
def pg_K_firstBits : List (Nat × am_E) := [(0, (.bipush 8, 0, 0, 0, 0, 8, 0, [])),
  (2, (.aload_n 0, 0, 0, 0, 0, 0, 0, [])),
  (3, (.getfield 15, 2, 1, 0, 2, 0, 0, [])),
  (6, (.aload_n 0, 0, 0, 0, 0, 0, 0, [])),
  (7, (.getfield 29, 2, 2, 0, 0, 0, 0, [])),
  (10, (.iaload, 0, 0, 0, 0, 0, 0, [])),
  (11, (.bipush 20, 0, 0, 0, 0, 20, 0, [])),
  (13, (.iadd, 0, 0, 0, 0, 0, 0, [])),
  (14, (.imul, 0, 0, 0, 0, 0, 0, [])),
  (15, (.ireturn, 0, 0, 0, 0, 0, 0, []))]
def pg_K_letsBegin : List (Nat × am_E) := [(0, (.aload_n 0, 0, 0, 0, 0, 0, 0, [])),
  (1, (.invokevirtual 45, 41, 0, 2, 1, 0, 0, [])),
  (4, (.ifCond .eq 12, 16, 0, 0, 0, 0, 0, [])),
  (7, (.aload_n 0, 0, 0, 0, 0, 0, 0, [])),
  (8, (.getfield 42, 2, 9, 0, 1, 0, 0, [])),
  (11, (.lconst 0, 0, 0, 0, 0, 0, 0, [])),
  (12, (.lcmp, 0, 0, 0, 0, 0, 0, [])),
  (13, (.ifCond .lt 16, 29, 0, 0, 0, 0, 0, [])),
  (16, (.aload_n 0, 0, 0, 0, 0, 0, 0, [])),
  (17, (.lload_n 1, 1, 0, 0, 0, 0, 0, [])),
  (18, (.lload_n 3, 3, 0, 0, 0, 0, 0, [])),
  (19, (.invokevirtual 49, 42, 2, 2, 1, 0, 0, [])),
  (22, (.ifCond .eq 7, 29, 0, 0, 0, 0, 0, [])),
  (25, (.iconst 1, 0, 0, 0, 0, 1, 0, [])),
  (26, (.goto 4, 30, 0, 0, 0, 0, 0, [])),
  (29, (.iconst 0, 0, 0, 0, 0, 0, 0, [])),
  (30, (.ireturn, 0, 0, 0, 1, 0, 0, []))]
def pg_K_isShaped : List (Nat × am_E) := [(0, (.aload_n 0, 0, 0, 0, 0, 0, 0, [])),
  (1, (.getfield 35, 2, 7, 0, 1, 0, 0, [])),
  (4, (.lconst 0, 0, 0, 0, 0, 0, 0, [])),
  (5, (.lcmp, 0, 0, 0, 0, 0, 0, [])),
  (6, (.ifCond .le 7, 13, 0, 0, 0, 0, 0, [])),
  (9, (.iconst 1, 0, 0, 0, 0, 1, 0, [])),
  (10, (.goto 4, 14, 0, 0, 0, 0, 0, [])),
  (13, (.iconst 0, 0, 0, 0, 0, 0, 0, [])),
  (14, (.ireturn, 0, 0, 0, 1, 0, 0, []))]
def pg_K_isOpenFor : List (Nat × am_E) := [(0, (.iconst 0, 0, 0, 0, 0, 0, 0, [])),
  (1, (.istore 5, 5, 0, 0, 0, 0, 0, [])),
  (3, (.iload 5, 5, 0, 0, 0, 0, 0, [])),
  (5, (.aload_n 0, 0, 0, 0, 0, 0, 0, [])),
  (6, (.getfield 32, 2, 6, 0, 0, 0, 0, [])),
  (9, (.if_icmp .ge 49, 58, 0, 0, 0, 0, 0, [])),
  (12, (.aload_n 0, 0, 0, 0, 0, 0, 0, [])),
  (13, (.getfield 18, 2, 4, 0, 2, 0, 0, [])),
  (16, (.iload 5, 5, 0, 0, 0, 0, 0, [])),
  (18, (.laload, 0, 0, 0, 0, 0, 0, [])),
  (19, (.lload_n 1, 1, 0, 0, 0, 0, 0, [])),
  (20, (.lcmp, 0, 0, 0, 0, 0, 0, [])),
  (21, (.ifCond .gt 31, 52, 0, 0, 0, 0, 0, [])),
  (24, (.lload_n 1, 1, 0, 0, 0, 0, 0, [])),
  (25, (.aload_n 0, 0, 0, 0, 0, 0, 0, [])),
  (26, (.getfield 22, 2, 5, 0, 2, 0, 0, [])),
  (29, (.iload 5, 5, 0, 0, 0, 0, 0, [])),
  (31, (.laload, 0, 0, 0, 0, 0, 0, [])),
  (32, (.lcmp, 0, 0, 0, 0, 0, 0, [])),
  (33, (.ifCond .ge 19, 52, 0, 0, 0, 0, 0, [])),
  (36, (.lload_n 3, 3, 0, 0, 0, 0, 0, [])),
  (37, (.aload_n 0, 0, 0, 0, 0, 0, 0, [])),
  (38, (.getfield 22, 2, 5, 0, 2, 0, 0, [])),
  (41, (.iload 5, 5, 0, 0, 0, 0, 0, [])),
  (43, (.laload, 0, 0, 0, 0, 0, 0, [])),
  (44, (.lload_n 1, 1, 0, 0, 0, 0, 0, [])),
  (45, (.lsub, 0, 0, 0, 0, 0, 0, [])),
  (46, (.lcmp, 0, 0, 0, 0, 0, 0, [])),
  (47, (.ifCond .gt 5, 52, 0, 0, 0, 0, 0, [])),
  (50, (.iconst 1, 0, 0, 0, 0, 1, 0, [])),
  (51, (.ireturn, 0, 0, 0, 1, 0, 0, [])),
  (52, (.iinc 5 1, 5, 0, 0, 0, 1, 0, [])),
  (55, (.goto (-52), 3, 0, 0, 0, 0, 0, [])),
  (58, (.aload_n 0, 0, 0, 0, 0, 0, 0, [])),
  (59, (.getfield 32, 2, 6, 0, 0, 0, 0, [])),
  (62, (.ifCond .ne 7, 69, 0, 0, 0, 0, 0, [])),
  (65, (.iconst 1, 0, 0, 0, 0, 1, 0, [])),
  (66, (.goto 4, 70, 0, 0, 0, 0, 0, [])),
  (69, (.iconst 0, 0, 0, 0, 0, 0, 0, [])),
  (70, (.ireturn, 0, 0, 0, 1, 0, 0, []))]
def pg_K_removeFirst : List (Nat × am_E) := [(0, (.aload_n 0, 0, 0, 0, 0, 0, 0, [])),
  (1, (.getfield 9, 2, 0, 0, 2, 0, 0, [])),
  (4, (.aload_n 0, 0, 0, 0, 0, 0, 0, [])),
  (5, (.getfield 29, 2, 2, 0, 0, 0, 0, [])),
  (8, (.iaload, 0, 0, 0, 0, 0, 0, [])),
  (9, (.istore_n 1, 1, 0, 0, 0, 0, 0, [])),
  (10, (.aload_n 0, 0, 0, 0, 0, 0, 0, [])),
  (11, (.aload_n 0, 0, 0, 0, 0, 0, 0, [])),
  (12, (.getfield 29, 2, 2, 0, 0, 0, 0, [])),
  (15, (.iconst 1, 0, 0, 0, 0, 1, 0, [])),
  (16, (.iadd, 0, 0, 0, 0, 0, 0, [])),
  (17, (.bipush 16, 0, 0, 0, 0, 16, 0, [])),
  (19, (.irem, 0, 0, 0, 0, 0, 0, [])),
  (20, (.putfield 29, 2, 2, 0, 0, 0, 0, [])),
  (23, (.aload_n 0, 0, 0, 0, 0, 0, 0, [])),
  (24, (.dup, 0, 0, 0, 0, 0, 0, [])),
  (25, (.getfield 25, 2, 3, 0, 0, 0, 0, [])),
  (28, (.iconst 1, 0, 0, 0, 0, 1, 0, [])),
  (29, (.isub, 0, 0, 0, 0, 0, 0, [])),
  (30, (.putfield 25, 2, 3, 0, 0, 0, 0, [])),
  (33, (.iload_n 1, 1, 0, 0, 0, 0, 0, [])),
  (34, (.ireturn, 0, 0, 0, 0, 0, 0, []))]
def pg_X_ticksUntilChange : List (Nat × am_E) := [(0, (.ldc2_w 132, 0, 0, 0, 0, 0, 2000, [])),
  (3, (.lstore_n 1, 1, 0, 0, 0, 0, 0, [])),
  (4, (.iconst 0, 0, 0, 0, 0, 0, 0, [])),
  (5, (.istore_n 3, 3, 0, 0, 0, 0, 0, [])),
  (6, (.iload_n 3, 3, 0, 0, 0, 0, 0, [])),
  (7, (.aload_n 0, 0, 0, 0, 0, 0, 0, [])),
  (8, (.getfield 11, 0, 0, 0, 2, 0, 0, [])),
  (11, (.arraylength, 0, 0, 0, 0, 0, 0, [])),
  (12, (.if_icmp .ge 27, 39, 0, 0, 0, 0, 0, [])),
  (15, (.lload_n 1, 1, 0, 0, 0, 0, 0, [])),
  (16, (.aload_n 0, 0, 0, 0, 0, 0, 0, [])),
  (17, (.getfield 11, 0, 0, 0, 2, 0, 0, [])),
  (20, (.iload_n 3, 3, 0, 0, 0, 0, 0, [])),
  (21, (.aaload, 0, 0, 0, 0, 0, 0, [])),
  (22, (.aload_n 0, 0, 0, 0, 0, 0, 0, [])),
  (23, (.getfield 115, 0, 6, 0, 1, 0, 0, [])),
  (26, (.invokevirtual 235, 45, 1, 1, 2, 0, 0, [])),
  (29, (.invokestatic 147, 0, 0, 4, 0, 0, 0, [])),
  (32, (.lstore_n 1, 1, 0, 0, 0, 0, 0, [])),
  (33, (.iinc 3 1, 3, 0, 0, 0, 1, 0, [])),
  (36, (.goto (-30), 6, 0, 0, 0, 0, 0, [])),
  (39, (.lconst 1, 0, 0, 0, 0, 0, 1, [])),
  (40, (.lload_n 1, 1, 0, 0, 0, 0, 0, [])),
  (41, (.invokestatic 82, 0, 0, 3, 0, 0, 0, [])),
  (44, (.lreturn, 0, 0, 0, 0, 0, 0, []))]
def pg_P_ticksUntilChange : List (Nat × am_E) := [(0, (.aload_n 0, 0, 0, 0, 0, 0, 0, [])),
  (1, (.invokevirtual 32, 9, 0, 1, 1, 0, 0, [])),
  (4, (.ifCond .eq 10, 14, 0, 0, 0, 0, 0, [])),
  (7, (.aload_n 0, 0, 0, 0, 0, 0, 0, [])),
  (8, (.getfield 61, 1, 8, 0, 1, 0, 0, [])),
  (11, (.lload_n 1, 1, 0, 0, 0, 0, 0, [])),
  (12, (.lsub, 0, 0, 0, 0, 0, 0, [])),
  (13, (.lreturn, 0, 0, 0, 0, 0, 0, [])),
  (14, (.aload_n 0, 0, 0, 0, 0, 0, 0, [])),
  (15, (.getfield 29, 1, 4, 0, 0, 0, 0, [])),
  (18, (.ifCond .le 7, 25, 0, 0, 0, 0, 0, [])),
  (21, (.lconst 1, 0, 0, 0, 0, 0, 1, [])),
  (22, (.goto 6, 28, 0, 0, 0, 0, 0, [])),
  (25, (.ldc2_w 64, 0, 0, 0, 0, 0, 2000, [])),
  (28, (.lreturn, 0, 0, 0, 0, 0, 0, []))]
def pg_X_moveCredits : List (Nat × am_E) := [(0, (.iconst 0, 0, 0, 0, 0, 0, 0, [])),
  (1, (.istore_n 3, 3, 0, 0, 0, 0, 0, [])),
  (2, (.iload_n 3, 3, 0, 0, 0, 0, 0, [])),
  (3, (.aload_n 0, 0, 0, 0, 0, 0, 0, [])),
  (4, (.getfield 11, 0, 0, 0, 2, 0, 0, [])),
  (7, (.arraylength, 0, 0, 0, 0, 0, 0, [])),
  (8, (.if_icmp .ge 19, 27, 0, 0, 0, 0, 0, [])),
  (11, (.aload_n 0, 0, 0, 0, 0, 0, 0, [])),
  (12, (.getfield 11, 0, 0, 0, 2, 0, 0, [])),
  (15, (.iload_n 3, 3, 0, 0, 0, 0, 0, [])),
  (16, (.aaload, 0, 0, 0, 0, 0, 0, [])),
  (17, (.lload_n 1, 1, 0, 0, 0, 0, 0, [])),
  (18, (.invokevirtual 238, 47, 1, 1, 0, 0, 0, [])),
  (21, (.iinc 3 1, 3, 0, 0, 0, 1, 0, [])),
  (24, (.goto (-22), 2, 0, 0, 0, 0, 0, [])),
  (27, (.return_, 0, 0, 0, 0, 0, 0, []))]
def pg_P_moveCredits : List (Nat × am_E) := [(0, (.iconst 0, 0, 0, 0, 0, 0, 0, [])),
  (1, (.istore_n 3, 3, 0, 0, 0, 0, 0, [])),
  (2, (.iload_n 3, 3, 0, 0, 0, 0, 0, [])),
  (3, (.bipush 8, 0, 0, 0, 0, 8, 0, [])),
  (5, (.if_icmp .ge 54, 59, 0, 0, 0, 0, 0, [])),
  (8, (.aload_n 0, 0, 0, 0, 0, 0, 0, [])),
  (9, (.getfield 17, 1, 1, 0, 2, 0, 0, [])),
  (12, (.iload_n 3, 3, 0, 0, 0, 0, 0, [])),
  (13, (.aaload, 0, 0, 0, 0, 0, 0, [])),
  (14, (.astore 4, 4, 0, 0, 0, 0, 0, [])),
  (16, (.aload 4, 4, 0, 0, 0, 0, 0, [])),
  (18, (.invokevirtual 66, 41, 0, 2, 1, 0, 0, [])),
  (21, (.ifCond .eq 32, 53, 0, 0, 0, 0, 0, [])),
  (24, (.aload 4, 4, 0, 0, 0, 0, 0, [])),
  (26, (.lload_n 1, 1, 0, 0, 0, 0, 0, [])),
  (27, (.aload_n 0, 0, 0, 0, 0, 0, 0, [])),
  (28, (.invokevirtual 32, 9, 0, 1, 1, 0, 0, [])),
  (31, (.ifCond .eq 18, 49, 0, 0, 0, 0, 0, [])),
  (34, (.aload_n 0, 0, 0, 0, 0, 0, 0, [])),
  (35, (.getfield 55, 1, 6, 0, 0, 0, 0, [])),
  (38, (.iload_n 3, 3, 0, 0, 0, 0, 0, [])),
  (39, (.if_icmp .ne 10, 49, 0, 0, 0, 0, 0, [])),
  (42, (.aload_n 0, 0, 0, 0, 0, 0, 0, [])),
  (43, (.getfield 37, 1, 2, 0, 1, 0, 0, [])),
  (46, (.goto 4, 50, 0, 0, 0, 0, 0, [])),
  (49, (.lconst 0, 0, 0, 0, 0, 0, 0, [])),
  (50, (.invokevirtual 69, 48, 2, 2, 0, 0, 0, [])),
  (53, (.iinc 3 1, 3, 0, 0, 0, 1, 0, [])),
  (56, (.goto (-54), 2, 0, 0, 0, 0, 0, [])),
  (59, (.return_, 0, 0, 0, 0, 0, 0, []))]
def pg_K_moveCredit : List (Nat × am_E) := [(0, (.lload_n 3, 3, 0, 0, 0, 0, 0, [])),
  (1, (.lconst 0, 0, 0, 0, 0, 0, 0, [])),
  (2, (.lcmp, 0, 0, 0, 0, 0, 0, [])),
  (3, (.ifCond .le 28, 31, 0, 0, 0, 0, 0, [])),
  (6, (.aload_n 0, 0, 0, 0, 0, 0, 0, [])),
  (7, (.dup, 0, 0, 0, 0, 0, 0, [])),
  (8, (.getfield 42, 2, 9, 0, 1, 0, 0, [])),
  (11, (.lload_n 1, 1, 0, 0, 0, 0, 0, [])),
  (12, (.lload_n 3, 3, 0, 0, 0, 0, 0, [])),
  (13, (.aload_n 0, 0, 0, 0, 0, 0, 0, [])),
  (14, (.getfield 39, 2, 8, 0, 1, 0, 0, [])),
  (17, (.lmul, 0, 0, 0, 0, 0, 0, [])),
  (18, (.aload_n 0, 0, 0, 0, 0, 0, 0, [])),
  (19, (.getfield 35, 2, 7, 0, 1, 0, 0, [])),
  (22, (.lsub, 0, 0, 0, 0, 0, 0, [])),
  (23, (.lmul, 0, 0, 0, 0, 0, 0, [])),
  (24, (.lsub, 0, 0, 0, 0, 0, 0, [])),
  (25, (.putfield 42, 2, 9, 0, 1, 0, 0, [])),
  (28, (.goto 60, 88, 0, 0, 0, 0, 0, [])),
  (31, (.aload_n 0, 0, 0, 0, 0, 0, 0, [])),
  (32, (.getfield 25, 2, 3, 0, 0, 0, 0, [])),
  (35, (.ifCond .le 21, 56, 0, 0, 0, 0, 0, [])),
  (38, (.aload_n 0, 0, 0, 0, 0, 0, 0, [])),
  (39, (.dup, 0, 0, 0, 0, 0, 0, [])),
  (40, (.getfield 42, 2, 9, 0, 1, 0, 0, [])),
  (43, (.lload_n 1, 1, 0, 0, 0, 0, 0, [])),
  (44, (.aload_n 0, 0, 0, 0, 0, 0, 0, [])),
  (45, (.getfield 35, 2, 7, 0, 1, 0, 0, [])),
  (48, (.lmul, 0, 0, 0, 0, 0, 0, [])),
  (49, (.ladd, 0, 0, 0, 0, 0, 0, [])),
  (50, (.putfield 42, 2, 9, 0, 1, 0, 0, [])),
  (53, (.goto 35, 88, 0, 0, 0, 0, 0, [])),
  (56, (.aload_n 0, 0, 0, 0, 0, 0, 0, [])),
  (57, (.aload_n 0, 0, 0, 0, 0, 0, 0, [])),
  (58, (.getfield 42, 2, 9, 0, 1, 0, 0, [])),
  (61, (.lconst 0, 0, 0, 0, 0, 0, 0, [])),
  (62, (.lcmp, 0, 0, 0, 0, 0, 0, [])),
  (63, (.ifCond .ge 21, 84, 0, 0, 0, 0, 0, [])),
  (66, (.lconst 0, 0, 0, 0, 0, 0, 0, [])),
  (67, (.aload_n 0, 0, 0, 0, 0, 0, 0, [])),
  (68, (.getfield 42, 2, 9, 0, 1, 0, 0, [])),
  (71, (.lload_n 1, 1, 0, 0, 0, 0, 0, [])),
  (72, (.aload_n 0, 0, 0, 0, 0, 0, 0, [])),
  (73, (.getfield 35, 2, 7, 0, 1, 0, 0, [])),
  (76, (.lmul, 0, 0, 0, 0, 0, 0, [])),
  (77, (.ladd, 0, 0, 0, 0, 0, 0, [])),
  (78, (.invokestatic 53, 0, 0, 4, 0, 0, 0, [])),
  (81, (.goto 4, 85, 0, 0, 0, 0, 0, [])),
  (84, (.lconst 0, 0, 0, 0, 0, 0, 0, [])),
  (85, (.putfield 42, 2, 9, 0, 1, 0, 0, [])),
  (88, (.return_, 0, 0, 0, 0, 0, 0, []))]
def pg_X_left : List (Nat × am_E) := [(0, (.iload_n 1, 1, 0, 0, 0, 0, 0, [])),
  (1, (.iconst (-1), 0, 0, 0, 0, (-1), 0, [])),
  (2, (.if_icmp .ne 12, 14, 0, 0, 0, 0, 0, [])),
  (5, (.iload_n 2, 2, 0, 0, 0, 0, 0, [])),
  (6, (.ifCond .ne 8, 14, 0, 0, 0, 0, 0, [])),
  (9, (.aload_n 0, 0, 0, 0, 0, 0, 0, [])),
  (10, (.getfield 134, 0, 10, 0, 0, 0, 0, [])),
  (13, (.ireturn, 0, 0, 0, 0, 0, 0, [])),
  (14, (.iload_n 1, 1, 0, 0, 0, 0, 0, [])),
  (15, (.ifCond .lt 14, 29, 0, 0, 0, 0, 0, [])),
  (18, (.iload_n 1, 1, 0, 0, 0, 0, 0, [])),
  (19, (.aload_n 0, 0, 0, 0, 0, 0, 0, [])),
  (20, (.getfield 27, 0, 2, 0, 2, 0, 0, [])),
  (23, (.invokevirtual 154, 28, 0, 6, 1, 0, 0, [])),
  (26, (.if_icmp .lt 5, 31, 0, 0, 0, 0, 0, [])),
  (29, (.iconst (-1), 0, 0, 0, 0, (-1), 0, [])),
  (30, (.ireturn, 0, 0, 0, 0, 0, 0, [])),
  (31, (.aload_n 0, 0, 0, 0, 0, 0, 0, [])),
  (32, (.getfield 27, 0, 2, 0, 2, 0, 0, [])),
  (35, (.iload_n 1, 1, 0, 0, 0, 0, 0, [])),
  (36, (.invokevirtual 157, 50, 1, 6, 3, 0, 0, [])),
  (39, (.checkcast 161, 5, 0, 0, 0, 0, 0, [])),
  (42, (.astore_n 3, 3, 0, 0, 0, 0, 0, [])),
  (43, (.iload_n 2, 2, 0, 0, 0, 0, 0, [])),
  (44, (.tableswitch 54 0 3 #[32, 37, 42, 48], 98, 0, 0, 0, 0, 0, [(0, 76), (1, 81), (2, 86), (3, 92)])),
  (76, (.aload_n 3, 3, 0, 0, 0, 0, 0, [])),
  (77, (.getfield 163, 5, 0, 0, 0, 0, 0, [])),
  (80, (.ireturn, 0, 0, 0, 0, 0, 0, [])),
  (81, (.aload_n 3, 3, 0, 0, 0, 0, 0, [])),
  (82, (.getfield 166, 5, 1, 0, 0, 0, 0, [])),
  (85, (.ireturn, 0, 0, 0, 0, 0, 0, [])),
  (86, (.aload_n 3, 3, 0, 0, 0, 0, 0, [])),
  (87, (.getfield 169, 5, 2, 0, 1, 0, 0, [])),
  (90, (.l2i, 0, 0, 0, 0, 0, 0, [])),
  (91, (.ireturn, 0, 0, 0, 0, 0, 0, [])),
  (92, (.aload_n 3, 3, 0, 0, 0, 0, 0, [])),
  (93, (.getfield 172, 5, 3, 0, 1, 0, 0, [])),
  (96, (.l2i, 0, 0, 0, 0, 0, 0, [])),
  (97, (.ireturn, 0, 0, 0, 0, 0, 0, [])),
  (98, (.bipush (-2), 0, 0, 0, 0, (-2), 0, [])),
  (100, (.ireturn, 0, 0, 0, 0, 0, 0, []))]
def pg_L_get : List (Nat × am_E) := [(0, (.iload_n 1, 1, 0, 0, 0, 0, 0, [])),
  (1, (.aload_n 0, 0, 0, 0, 0, 0, 0, [])),
  (2, (.getfield 48, 6, 1, 0, 0, 0, 0, [])),
  (5, (.invokestatic 118, 51, 2, 0, 1, 0, 0, [])),
  (8, (.pop, 0, 0, 0, 0, 0, 0, [])),
  (9, (.aload_n 0, 0, 0, 0, 0, 0, 0, [])),
  (10, (.iload_n 1, 1, 0, 0, 0, 0, 0, [])),
  (11, (.invokevirtual 123, 53, 1, 6, 3, 0, 0, [])),
  (14, (.areturn, 0, 0, 0, 0, 0, 0, []))]
def pg_O_checkIndex : List (Nat × am_E) := [(0, (.iload_n 0, 0, 0, 0, 0, 0, 0, [])),
  (1, (.iload_n 1, 1, 0, 0, 0, 0, 0, [])),
  (2, (.aconst_null, 0, 0, 0, 0, 0, 0, [])),
  (3, (.invokestatic 105, 52, 3, 0, 1, 0, 0, [])),
  (6, (.ireturn, 0, 0, 0, 0, 0, 0, []))]
def pg_V_checkIndex : List (Nat × am_E) := [(0, (.iload_n 0, 0, 0, 0, 0, 0, 0, [])),
  (1, (.ifCond .lt 8, 9, 0, 0, 0, 0, 0, [])),
  (4, (.iload_n 0, 0, 0, 0, 0, 0, 0, [])),
  (5, (.iload_n 1, 1, 0, 0, 0, 0, 0, [])),
  (6, (.if_icmp .lt 10, 16, 0, 0, 0, 0, 0, [])),
  (9, (.aload_n 2, 2, 0, 0, 0, 0, 0, [])),
  (10, (.iload_n 0, 0, 0, 0, 0, 0, 0, [])),
  (11, (.iload_n 1, 1, 0, 0, 0, 0, 0, [])),
  (16, (.iload_n 0, 0, 0, 0, 0, 0, 0, [])),
  (17, (.ireturn, 0, 0, 0, 0, 0, 0, []))]
def pg_L_elementData : List (Nat × am_E) := [(0, (.aload_n 0, 0, 0, 0, 0, 0, 0, [])),
  (1, (.getfield 9, 6, 0, 0, 2, 0, 0, [])),
  (4, (.iload_n 1, 1, 0, 0, 0, 0, 0, [])),
  (5, (.aaload, 0, 0, 0, 0, 0, 0, [])),
  (6, (.areturn, 0, 0, 0, 0, 0, 0, []))]
def pg_X_learn : List (Nat × am_E) := [(0, (.aload_n 0, 0, 0, 0, 0, 0, 0, [])),
  (1, (.iload_n 2, 2, 0, 0, 0, 0, 0, [])),
  (2, (.invokevirtual 48, 8, 1, 0, 3, 0, 0, [])),
  (5, (.ifnonnull 5, 10, 0, 0, 0, 0, 0, [])),
  (8, (.iconst (-1), 0, 0, 0, 0, (-1), 0, [])),
  (9, (.ireturn, 0, 0, 0, 0, 0, 0, [])),
  (10, (.iload_n 1, 1, 0, 0, 0, 0, 0, [])),
  (11, (.invokestatic 101, 15, 1, 0, 1, 0, 0, [])),
  (14, (.ifCond .eq 20, 34, 0, 0, 0, 0, 0, [])),
  (17, (.lload_n 3, 3, 0, 0, 0, 0, 0, [])),
  (18, (.ldc2_w 175, 0, 0, 0, 0, 0, (-1), [])),
  (21, (.lcmp, 0, 0, 0, 0, 0, 0, [])),
  (22, (.ifCond .lt 12, 34, 0, 0, 0, 0, 0, [])),
  (25, (.lload_n 3, 3, 0, 0, 0, 0, 0, [])),
  (26, (.aload_n 0, 0, 0, 0, 0, 0, 0, [])),
  (27, (.getfield 115, 0, 6, 0, 1, 0, 0, [])),
  (30, (.lcmp, 0, 0, 0, 0, 0, 0, [])),
  (31, (.ifCond .le 6, 37, 0, 0, 0, 0, 0, [])),
  (34, (.bipush (-2), 0, 0, 0, 0, (-2), 0, [])),
  (36, (.ireturn, 0, 0, 0, 0, 0, 0, [])),
  (37, (.aload_n 0, 0, 0, 0, 0, 0, 0, [])),
  (38, (.iload_n 1, 1, 0, 0, 0, 0, 0, [])),
  (39, (.invokevirtual 107, 16, 1, 0, 3, 0, 0, [])),
  (42, (.astore 5, 5, 0, 0, 0, 0, 0, [])),
  (44, (.aload 5, 5, 0, 0, 0, 0, 0, [])),
  (46, (.invokevirtual 177, 22, 0, 3, 1, 0, 0, [])),
  (49, (.ifCond .eq 14, 63, 0, 0, 0, 0, 0, [])),
  (52, (.lload_n 3, 3, 0, 0, 0, 0, 0, [])),
  (53, (.ldc2_w 175, 0, 0, 0, 0, 0, (-1), [])),
  (56, (.lcmp, 0, 0, 0, 0, 0, 0, [])),
  (57, (.ifCond .eq 6, 63, 0, 0, 0, 0, 0, [])),
  (60, (.bipush (-3), 0, 0, 0, 0, (-3), 0, [])),
  (62, (.ireturn, 0, 0, 0, 0, 0, 0, [])),
  (63, (.aload 5, 5, 0, 0, 0, 0, 0, [])),
  (65, (.aload_n 0, 0, 0, 0, 0, 0, 0, [])),
  (66, (.getfield 115, 0, 6, 0, 1, 0, 0, [])),
  (69, (.invokevirtual 124, 21, 1, 3, 1, 0, 0, [])),
  (72, (.istore 6, 6, 0, 0, 0, 0, 0, [])),
  (74, (.aload 5, 5, 0, 0, 0, 0, 0, [])),
  (76, (.iload_n 2, 2, 0, 0, 0, 0, 0, [])),
  (77, (.putfield 180, 3, 1, 0, 0, 0, 0, [])),
  (80, (.aload 5, 5, 0, 0, 0, 0, 0, [])),
  (82, (.lload_n 3, 3, 0, 0, 0, 0, 0, [])),
  (83, (.putfield 181, 3, 2, 0, 1, 0, 0, [])),
  (86, (.iload 6, 6, 0, 0, 0, 0, 0, [])),
  (88, (.ireturn, 0, 0, 0, 0, 0, 0, []))]
def pg_X_credit : List (Nat × am_E) := [(0, (.aload_n 0, 0, 0, 0, 0, 0, 0, [])),
  (1, (.iload_n 1, 1, 0, 0, 0, 0, 0, [])),
  (2, (.invokevirtual 48, 8, 1, 0, 3, 0, 0, [])),
  (5, (.astore 7, 7, 0, 0, 0, 0, 0, [])),
  (7, (.aload 7, 7, 0, 0, 0, 0, 0, [])),
  (9, (.ifnull 10, 19, 0, 0, 0, 0, 0, [])),
  (12, (.iload_n 2, 2, 0, 0, 0, 0, 0, [])),
  (13, (.invokestatic 65, 12, 1, 0, 1, 0, 0, [])),
  (16, (.ifCond .ne 5, 21, 0, 0, 0, 0, 0, [])),
  (19, (.iconst (-1), 0, 0, 0, 0, (-1), 0, [])),
  (20, (.ireturn, 0, 0, 0, 0, 0, 0, [])),
  (21, (.lload 5, 5, 0, 0, 0, 0, 0, [])),
  (23, (.lconst 1, 0, 0, 0, 0, 0, 1, [])),
  (24, (.lcmp, 0, 0, 0, 0, 0, 0, [])),
  (25, (.ifCond .lt 29, 54, 0, 0, 0, 0, 0, [])),
  (28, (.lload 5, 5, 0, 0, 0, 0, 0, [])),
  (30, (.ldc2_w 42, 0, 0, 0, 0, 0, 1000, [])),
  (33, (.lcmp, 0, 0, 0, 0, 0, 0, [])),
  (34, (.ifCond .gt 20, 54, 0, 0, 0, 0, 0, [])),
  (37, (.lload_n 3, 3, 0, 0, 0, 0, 0, [])),
  (38, (.lconst 0, 0, 0, 0, 0, 0, 0, [])),
  (39, (.lcmp, 0, 0, 0, 0, 0, 0, [])),
  (40, (.ifCond .lt 14, 54, 0, 0, 0, 0, 0, [])),
  (43, (.lload_n 3, 3, 0, 0, 0, 0, 0, [])),
  (44, (.ldc2_w 52, 0, 0, 0, 0, 0, 10000, [])),
  (47, (.lload 5, 5, 0, 0, 0, 0, 0, [])),
  (49, (.lmul, 0, 0, 0, 0, 0, 0, [])),
  (50, (.lcmp, 0, 0, 0, 0, 0, 0, [])),
  (51, (.ifCond .le 6, 57, 0, 0, 0, 0, 0, [])),
  (54, (.bipush (-2), 0, 0, 0, 0, (-2), 0, [])),
  (56, (.ireturn, 0, 0, 0, 0, 0, 0, [])),
  (57, (.aload 7, 7, 0, 0, 0, 0, 0, [])),
  (59, (.getfield 69, 1, 1, 0, 2, 0, 0, [])),
  (62, (.iload_n 2, 2, 0, 0, 0, 0, 0, [])),
  (63, (.aaload, 0, 0, 0, 0, 0, 0, [])),
  (64, (.lload_n 3, 3, 0, 0, 0, 0, 0, [])),
  (65, (.lload 5, 5, 0, 0, 0, 0, 0, [])),
  (67, (.invokevirtual 184, 56, 2, 2, 0, 0, 0, [])),
  (70, (.iconst 1, 0, 0, 0, 0, 1, 0, [])),
  (71, (.ireturn, 0, 0, 0, 0, 0, 0, []))]
def pg_K_shape : List (Nat × am_E) := [(0, (.aload_n 0, 0, 0, 0, 0, 0, 0, [])),
  (1, (.lload_n 1, 1, 0, 0, 0, 0, 0, [])),
  (2, (.putfield 35, 2, 7, 0, 1, 0, 0, [])),
  (5, (.aload_n 0, 0, 0, 0, 0, 0, 0, [])),
  (6, (.lload_n 3, 3, 0, 0, 0, 0, 0, [])),
  (7, (.putfield 39, 2, 8, 0, 1, 0, 0, [])),
  (10, (.aload_n 0, 0, 0, 0, 0, 0, 0, [])),
  (11, (.lconst 0, 0, 0, 0, 0, 0, 0, [])),
  (12, (.putfield 42, 2, 9, 0, 1, 0, 0, [])),
  (15, (.return_, 0, 0, 0, 0, 0, 0, []))]
def pg_X_filter : List (Nat × am_E) := [(0, (.iload_n 1, 1, 0, 0, 0, 0, 0, [])),
  (1, (.bipush 8, 0, 0, 0, 0, 8, 0, [])),
  (3, (.idiv, 0, 0, 0, 0, 0, 0, [])),
  (4, (.istore 4, 4, 0, 0, 0, 0, 0, [])),
  (6, (.iload_n 1, 1, 0, 0, 0, 0, 0, [])),
  (7, (.ifCond .lt 11, 18, 0, 0, 0, 0, 0, [])),
  (10, (.iload 4, 4, 0, 0, 0, 0, 0, [])),
  (12, (.invokestatic 101, 15, 1, 0, 1, 0, 0, [])),
  (15, (.ifCond .ne 5, 20, 0, 0, 0, 0, 0, [])),
  (18, (.iconst (-1), 0, 0, 0, 0, (-1), 0, [])),
  (19, (.ireturn, 0, 0, 0, 0, 0, 0, [])),
  (20, (.lload_n 2, 2, 0, 0, 0, 0, 0, [])),
  (21, (.ldc2_w 175, 0, 0, 0, 0, 0, (-1), [])),
  (24, (.lcmp, 0, 0, 0, 0, 0, 0, [])),
  (25, (.ifCond .ge 6, 31, 0, 0, 0, 0, 0, [])),
  (28, (.bipush (-2), 0, 0, 0, 0, (-2), 0, [])),
  (30, (.ireturn, 0, 0, 0, 0, 0, 0, [])),
  (31, (.aload_n 0, 0, 0, 0, 0, 0, 0, [])),
  (32, (.iload 4, 4, 0, 0, 0, 0, 0, [])),
  (34, (.invokevirtual 107, 16, 1, 0, 3, 0, 0, [])),
  (37, (.getfield 111, 3, 0, 0, 2, 0, 0, [])),
  (40, (.iload_n 1, 1, 0, 0, 0, 0, 0, [])),
  (41, (.bipush 8, 0, 0, 0, 0, 8, 0, [])),
  (43, (.irem, 0, 0, 0, 0, 0, 0, [])),
  (44, (.aaload, 0, 0, 0, 0, 0, 0, [])),
  (45, (.astore 5, 5, 0, 0, 0, 0, 0, [])),
  (47, (.aload 5, 5, 0, 0, 0, 0, 0, [])),
  (49, (.lload_n 2, 2, 0, 0, 0, 0, 0, [])),
  (50, (.putfield 188, 4, 0, 0, 1, 0, 0, [])),
  (53, (.aload 5, 5, 0, 0, 0, 0, 0, [])),
  (55, (.aload_n 0, 0, 0, 0, 0, 0, 0, [])),
  (56, (.getfield 115, 0, 6, 0, 1, 0, 0, [])),
  (59, (.invokevirtual 191, 20, 1, 4, 1, 0, 0, [])),
  (62, (.ireturn, 0, 0, 0, 0, 0, 0, []))]
def pg_X_clock : List (Nat × am_E) := [(0, (.aload_n 0, 0, 0, 0, 0, 0, 0, [])),
  (1, (.iload_n 1, 1, 0, 0, 0, 0, 0, [])),
  (2, (.invokevirtual 48, 8, 1, 0, 3, 0, 0, [])),
  (5, (.astore 4, 4, 0, 0, 0, 0, 0, [])),
  (7, (.aload 4, 4, 0, 0, 0, 0, 0, [])),
  (9, (.ifnonnull 5, 14, 0, 0, 0, 0, 0, [])),
  (12, (.iconst (-1), 0, 0, 0, 0, (-1), 0, [])),
  (13, (.ireturn, 0, 0, 0, 0, 0, 0, [])),
  (14, (.lload_n 2, 2, 0, 0, 0, 0, 0, [])),
  (15, (.lconst 0, 0, 0, 0, 0, 0, 0, [])),
  (16, (.lcmp, 0, 0, 0, 0, 0, 0, [])),
  (17, (.ifCond .lt 11, 28, 0, 0, 0, 0, 0, [])),
  (20, (.lload_n 2, 2, 0, 0, 0, 0, 0, [])),
  (21, (.ldc2_w 92, 0, 0, 0, 0, 0, 1000000, [])),
  (24, (.lcmp, 0, 0, 0, 0, 0, 0, [])),
  (25, (.ifCond .le 6, 31, 0, 0, 0, 0, 0, [])),
  (28, (.bipush (-2), 0, 0, 0, 0, (-2), 0, [])),
  (30, (.ireturn, 0, 0, 0, 0, 0, 0, [])),
  (31, (.ldc2_w 194, 0, 0, 0, 0, 0, (-100), [])),
  (34, (.ldc2_w 196, 0, 0, 0, 0, 0, 100, [])),
  (37, (.lload_n 2, 2, 0, 0, 0, 0, 0, [])),
  (38, (.aload 4, 4, 0, 0, 0, 0, 0, [])),
  (40, (.getfield 198, 1, 3, 0, 1, 0, 0, [])),
  (43, (.lsub, 0, 0, 0, 0, 0, 0, [])),
  (44, (.invokestatic 147, 0, 0, 4, 0, 0, 0, [])),
  (47, (.invokestatic 82, 0, 0, 3, 0, 0, 0, [])),
  (50, (.lstore 5, 5, 0, 0, 0, 0, 0, [])),
  (52, (.aload 4, 4, 0, 0, 0, 0, 0, [])),
  (54, (.dup, 0, 0, 0, 0, 0, 0, [])),
  (55, (.getfield 198, 1, 3, 0, 1, 0, 0, [])),
  (58, (.lload 5, 5, 0, 0, 0, 0, 0, [])),
  (60, (.ladd, 0, 0, 0, 0, 0, 0, [])),
  (61, (.putfield 198, 1, 3, 0, 1, 0, 0, [])),
  (64, (.aload 4, 4, 0, 0, 0, 0, 0, [])),
  (66, (.getfield 198, 1, 3, 0, 1, 0, 0, [])),
  (69, (.l2i, 0, 0, 0, 0, 0, 0, [])),
  (70, (.ireturn, 0, 0, 0, 0, 0, 0, []))]
def pg_X_dropped : List (Nat × am_E) := [(0, (.iload_n 1, 1, 0, 0, 0, 0, 0, [])),
  (1, (.ifCond .lt 12, 13, 0, 0, 0, 0, 0, [])),
  (4, (.iload_n 1, 1, 0, 0, 0, 0, 0, [])),
  (5, (.aload_n 0, 0, 0, 0, 0, 0, 0, [])),
  (6, (.getfield 31, 0, 3, 0, 2, 0, 0, [])),
  (9, (.arraylength, 0, 0, 0, 0, 0, 0, [])),
  (10, (.if_icmp .lt 6, 16, 0, 0, 0, 0, 0, [])),
  (13, (.bipush (-2), 0, 0, 0, 0, (-2), 0, [])),
  (15, (.ireturn, 0, 0, 0, 0, 0, 0, [])),
  (16, (.aload_n 0, 0, 0, 0, 0, 0, 0, [])),
  (17, (.getfield 31, 0, 3, 0, 2, 0, 0, [])),
  (20, (.iload_n 1, 1, 0, 0, 0, 0, 0, [])),
  (21, (.iaload, 0, 0, 0, 0, 0, 0, [])),
  (22, (.ireturn, 0, 0, 0, 0, 0, 0, []))]
def pg_X_service : List (Nat × am_E) := [(0, (.iload_n 1, 1, 0, 0, 0, 0, 0, [])),
  (1, (.ifCond .ne 9, 10, 0, 0, 0, 0, 0, [])),
  (4, (.aload_n 0, 0, 0, 0, 0, 0, 0, [])),
  (5, (.iload_n 2, 2, 0, 0, 0, 0, 0, [])),
  (6, (.invokevirtual 201, 61, 1, 0, 1, 0, 0, [])),
  (9, (.ireturn, 0, 0, 0, 0, 0, 0, [])),
  (10, (.aload_n 0, 0, 0, 0, 0, 0, 0, [])),
  (11, (.iload_n 2, 2, 0, 0, 0, 0, 0, [])),
  (12, (.invokevirtual 48, 8, 1, 0, 3, 0, 0, [])),
  (15, (.ifnonnull 5, 20, 0, 0, 0, 0, 0, [])),
  (18, (.iconst (-1), 0, 0, 0, 0, (-1), 0, [])),
  (19, (.ireturn, 0, 0, 0, 0, 0, 0, [])),
  (20, (.iload_n 1, 1, 0, 0, 0, 0, 0, [])),
  (21, (.invokestatic 205, 62, 1, 0, 1, 0, 0, [])),
  (24, (.ifCond .ne 6, 30, 0, 0, 0, 0, 0, [])),
  (27, (.bipush (-2), 0, 0, 0, 0, (-2), 0, [])),
  (29, (.ireturn, 0, 0, 0, 0, 0, 0, [])),
  (30, (.aload_n 0, 0, 0, 0, 0, 0, 0, [])),
  (31, (.getfield 35, 0, 4, 0, 2, 0, 0, [])),
  (34, (.iload_n 1, 1, 0, 0, 0, 0, 0, [])),
  (35, (.iload_n 2, 2, 0, 0, 0, 0, 0, [])),
  (36, (.iastore, 0, 0, 0, 0, 0, 0, [])),
  (37, (.aload_n 0, 0, 0, 0, 0, 0, 0, [])),
  (38, (.getfield 38, 0, 5, 0, 2, 0, 0, [])),
  (41, (.iload_n 1, 1, 0, 0, 0, 0, 0, [])),
  (42, (.aload_n 0, 0, 0, 0, 0, 0, 0, [])),
  (43, (.getfield 115, 0, 6, 0, 1, 0, 0, [])),
  (46, (.ldc2_w 42, 0, 0, 0, 0, 0, 1000, [])),
  (49, (.ladd, 0, 0, 0, 0, 0, 0, [])),
  (50, (.lastore, 0, 0, 0, 0, 0, 0, [])),
  (51, (.iload_n 2, 2, 0, 0, 0, 0, 0, [])),
  (52, (.ireturn, 0, 0, 0, 0, 0, 0, []))]
def pg_X_offererOf : List (Nat × am_E) := [(0, (.iload_n 1, 1, 0, 0, 0, 0, 0, [])),
  (1, (.invokestatic 205, 62, 1, 0, 1, 0, 0, [])),
  (4, (.ifCond .ne 6, 10, 0, 0, 0, 0, 0, [])),
  (7, (.bipush (-2), 0, 0, 0, 0, (-2), 0, [])),
  (9, (.ireturn, 0, 0, 0, 0, 0, 0, [])),
  (10, (.aload_n 0, 0, 0, 0, 0, 0, 0, [])),
  (11, (.getfield 115, 0, 6, 0, 1, 0, 0, [])),
  (14, (.aload_n 0, 0, 0, 0, 0, 0, 0, [])),
  (15, (.getfield 38, 0, 5, 0, 2, 0, 0, [])),
  (18, (.iload_n 1, 1, 0, 0, 0, 0, 0, [])),
  (19, (.laload, 0, 0, 0, 0, 0, 0, [])),
  (20, (.lcmp, 0, 0, 0, 0, 0, 0, [])),
  (21, (.ifCond .ge 12, 33, 0, 0, 0, 0, 0, [])),
  (24, (.aload_n 0, 0, 0, 0, 0, 0, 0, [])),
  (25, (.getfield 35, 0, 4, 0, 2, 0, 0, [])),
  (28, (.iload_n 1, 1, 0, 0, 0, 0, 0, [])),
  (29, (.iaload, 0, 0, 0, 0, 0, 0, [])),
  (30, (.goto 4, 34, 0, 0, 0, 0, 0, [])),
  (33, (.iconst 0, 0, 0, 0, 0, 0, 0, [])),
  (34, (.ireturn, 0, 0, 0, 0, 0, 0, []))]
def pg_X_isService : List (Nat × am_E) := [(0, (.iload_n 0, 0, 0, 0, 0, 0, 0, [])),
  (1, (.iconst 1, 0, 0, 0, 0, 1, 0, [])),
  (2, (.if_icmp .lt 13, 15, 0, 0, 0, 0, 0, [])),
  (5, (.iload_n 0, 0, 0, 0, 0, 0, 0, [])),
  (6, (.bipush 100, 0, 0, 0, 0, 100, 0, [])),
  (8, (.if_icmp .gt 7, 15, 0, 0, 0, 0, 0, [])),
  (11, (.iconst 1, 0, 0, 0, 0, 1, 0, [])),
  (12, (.goto 4, 16, 0, 0, 0, 0, 0, [])),
  (15, (.iconst 0, 0, 0, 0, 0, 0, 0, [])),
  (16, (.ireturn, 0, 0, 0, 1, 0, 0, []))]
def pg_W_cell : List (Nat × am_E) := [(0, (.iload_n 1, 1, 0, 0, 0, 0, 0, [])),
  (1, (.aload_n 0, 0, 0, 0, 0, 0, 0, [])),
  (2, (.arraylength, 0, 0, 0, 0, 0, 0, [])),
  (3, (.if_icmp .ge 9, 12, 0, 0, 0, 0, 0, [])),
  (6, (.aload_n 0, 0, 0, 0, 0, 0, 0, [])),
  (7, (.iload_n 1, 1, 0, 0, 0, 0, 0, [])),
  (8, (.iaload, 0, 0, 0, 0, 0, 0, [])),
  (9, (.goto 4, 13, 0, 0, 0, 0, 0, [])),
  (12, (.iconst 0, 0, 0, 0, 0, 0, 0, [])),
  (13, (.ireturn, 0, 0, 0, 0, 0, 0, []))]
def pg_X_cycle : List (Nat × am_E) := [(0, (.lload_n 1, 1, 0, 0, 0, 0, 0, [])),
  (1, (.lconst 0, 0, 0, 0, 0, 0, 0, [])),
  (2, (.lcmp, 0, 0, 0, 0, 0, 0, [])),
  (3, (.ifCond .lt 20, 23, 0, 0, 0, 0, 0, [])),
  (6, (.lload_n 1, 1, 0, 0, 0, 0, 0, [])),
  (7, (.ldc2_w 92, 0, 0, 0, 0, 0, 1000000, [])),
  (10, (.lcmp, 0, 0, 0, 0, 0, 0, [])),
  (11, (.ifCond .gt 12, 23, 0, 0, 0, 0, 0, [])),
  (14, (.lload_n 1, 1, 0, 0, 0, 0, 0, [])),
  (15, (.aload_n 0, 0, 0, 0, 0, 0, 0, [])),
  (16, (.getfield 79, 0, 8, 0, 1, 0, 0, [])),
  (19, (.lcmp, 0, 0, 0, 0, 0, 0, [])),
  (20, (.ifCond .ge 6, 26, 0, 0, 0, 0, 0, [])),
  (23, (.bipush (-2), 0, 0, 0, 0, (-2), 0, [])),
  (25, (.ireturn, 0, 0, 0, 0, 0, 0, [])),
  (26, (.lload_n 1, 1, 0, 0, 0, 0, 0, [])),
  (27, (.lconst 0, 0, 0, 0, 0, 0, 0, [])),
  (28, (.lcmp, 0, 0, 0, 0, 0, 0, [])),
  (29, (.ifCond .ne 13, 42, 0, 0, 0, 0, 0, [])),
  (35, (.dup, 0, 0, 0, 0, 0, 0, [])),
  (42, (.aload_n 0, 0, 0, 0, 0, 0, 0, [])),
  (43, (.lload_n 1, 1, 0, 0, 0, 0, 0, [])),
  (44, (.putfield 44, 0, 7, 0, 1, 0, 0, [])),
  (47, (.iconst 1, 0, 0, 0, 0, 1, 0, [])),
  (48, (.ireturn, 0, 0, 0, 0, 0, 0, []))]
def pg_M_init : List (Nat × am_E) := [(0, (.aload_n 0, 0, 0, 0, 0, 0, 0, [])),
  (1, (.invokespecial 1, 0, 0, 0, 0, 0, 0, [])),
  (4, (.aload_n 0, 0, 0, 0, 0, 0, 0, [])),
  (5, (.ldc2_w 7, 0, 0, 0, 0, 0, 1000, [])),
  (8, (.putfield 9, 7, 2, 0, 1, 0, 0, [])),
  (11, (.aload_n 0, 0, 0, 0, 0, 0, 0, [])),
  (12, (.bipush 17, 0, 0, 0, 0, 17, 0, [])),
  (14, (.newarray .long, 2, 0, 0, 0, 0, 0, [])),
  (16, (.putfield 15, 7, 4, 0, 2, 0, 0, [])),
  (19, (.aload_n 0, 0, 0, 0, 0, 0, 0, [])),
  (20, (.bipush 17, 0, 0, 0, 0, 17, 0, [])),
  (22, (.newarray .long, 2, 0, 0, 0, 0, 0, [])),
  (24, (.putfield 19, 7, 5, 0, 2, 0, 0, [])),
  (27, (.aload_n 0, 0, 0, 0, 0, 0, 0, [])),
  (28, (.bipush 17, 0, 0, 0, 0, 17, 0, [])),
  (30, (.newarray .int, 1, 0, 0, 0, 0, 0, [])),
  (32, (.putfield 22, 7, 6, 0, 2, 0, 0, [])),
  (35, (.aload_n 0, 0, 0, 0, 0, 0, 0, [])),
  (36, (.bipush 17, 0, 0, 0, 0, 17, 0, [])),
  (38, (.newarray .int, 1, 0, 0, 0, 0, 0, [])),
  (40, (.putfield 26, 7, 7, 0, 2, 0, 0, [])),
  (43, (.aload_n 0, 0, 0, 0, 0, 0, 0, [])),
  (44, (.bipush 17, 0, 0, 0, 0, 17, 0, [])),
  (46, (.newarray .long, 2, 0, 0, 0, 0, 0, [])),
  (48, (.putfield 29, 7, 8, 0, 2, 0, 0, [])),
  (51, (.aload_n 0, 0, 0, 0, 0, 0, 0, [])),
  (52, (.bipush 17, 0, 0, 0, 0, 17, 0, [])),
  (54, (.newarray .long, 2, 0, 0, 0, 0, 0, [])),
  (56, (.putfield 32, 7, 9, 0, 2, 0, 0, [])),
  (59, (.aload_n 0, 0, 0, 0, 0, 0, 0, [])),
  (60, (.sipush 136, 0, 0, 0, 0, 136, 0, [])),
  (63, (.newarray .int, 1, 0, 0, 0, 0, 0, [])),
  (65, (.putfield 35, 7, 10, 0, 2, 0, 0, [])),
  (68, (.aload_n 0, 0, 0, 0, 0, 0, 0, [])),
  (69, (.sipush 2176, 0, 0, 0, 0, 2176, 0, [])),
  (72, (.newarray .int, 1, 0, 0, 0, 0, 0, [])),
  (74, (.putfield 38, 7, 11, 0, 2, 0, 0, [])),
  (77, (.aload_n 0, 0, 0, 0, 0, 0, 0, [])),
  (78, (.sipush 136, 0, 0, 0, 0, 136, 0, [])),
  (81, (.newarray .int, 1, 0, 0, 0, 0, 0, [])),
  (83, (.putfield 41, 7, 12, 0, 2, 0, 0, [])),
  (86, (.aload_n 0, 0, 0, 0, 0, 0, 0, [])),
  (87, (.sipush 1088, 0, 0, 0, 0, 1088, 0, [])),
  (90, (.newarray .long, 2, 0, 0, 0, 0, 0, [])),
  (92, (.putfield 44, 7, 13, 0, 2, 0, 0, [])),
  (95, (.aload_n 0, 0, 0, 0, 0, 0, 0, [])),
  (96, (.sipush 1088, 0, 0, 0, 0, 1088, 0, [])),
  (99, (.newarray .long, 2, 0, 0, 0, 0, 0, [])),
  (101, (.putfield 47, 7, 14, 0, 2, 0, 0, [])),
  (104, (.aload_n 0, 0, 0, 0, 0, 0, 0, [])),
  (105, (.sipush 136, 0, 0, 0, 0, 136, 0, [])),
  (108, (.newarray .long, 2, 0, 0, 0, 0, 0, [])),
  (110, (.putfield 50, 7, 15, 0, 2, 0, 0, [])),
  (113, (.aload_n 0, 0, 0, 0, 0, 0, 0, [])),
  (114, (.sipush 136, 0, 0, 0, 0, 136, 0, [])),
  (117, (.newarray .long, 2, 0, 0, 0, 0, 0, [])),
  (119, (.putfield 53, 7, 16, 0, 2, 0, 0, [])),
  (122, (.aload_n 0, 0, 0, 0, 0, 0, 0, [])),
  (123, (.sipush 136, 0, 0, 0, 0, 136, 0, [])),
  (126, (.newarray .long, 2, 0, 0, 0, 0, 0, [])),
  (128, (.putfield 56, 7, 17, 0, 2, 0, 0, [])),
  (131, (.aload_n 0, 0, 0, 0, 0, 0, 0, [])),
  (132, (.sipush 5001, 0, 0, 0, 0, 5001, 0, [])),
  (135, (.newarray .int, 1, 0, 0, 0, 0, 0, [])),
  (137, (.putfield 59, 7, 19, 0, 2, 0, 0, [])),
  (140, (.aload_n 0, 0, 0, 0, 0, 0, 0, [])),
  (141, (.sipush 1001, 0, 0, 0, 0, 1001, 0, [])),
  (144, (.newarray .int, 1, 0, 0, 0, 0, 0, [])),
  (146, (.putfield 62, 7, 20, 0, 2, 0, 0, [])),
  (149, (.aload_n 0, 0, 0, 0, 0, 0, 0, [])),
  (150, (.sipush 1001, 0, 0, 0, 0, 1001, 0, [])),
  (153, (.newarray .long, 2, 0, 0, 0, 0, 0, [])),
  (155, (.putfield 65, 7, 21, 0, 2, 0, 0, [])),
  (158, (.aload_n 0, 0, 0, 0, 0, 0, 0, [])),
  (159, (.sipush 8008, 0, 0, 0, 0, 8008, 0, [])),
  (162, (.newarray .long, 2, 0, 0, 0, 0, 0, [])),
  (164, (.putfield 68, 7, 22, 0, 2, 0, 0, [])),
  (167, (.aload_n 0, 0, 0, 0, 0, 0, 0, [])),
  (168, (.sipush 8008, 0, 0, 0, 0, 8008, 0, [])),
  (171, (.newarray .long, 2, 0, 0, 0, 0, 0, [])),
  (173, (.putfield 71, 7, 23, 0, 2, 0, 0, [])),
  (176, (.aload_n 0, 0, 0, 0, 0, 0, 0, [])),
  (177, (.sipush 8008, 0, 0, 0, 0, 8008, 0, [])),
  (180, (.newarray .int, 1, 0, 0, 0, 0, 0, [])),
  (182, (.putfield 74, 7, 24, 0, 2, 0, 0, [])),
  (185, (.aload_n 0, 0, 0, 0, 0, 0, 0, [])),
  (186, (.bipush 101, 0, 0, 0, 0, 101, 0, [])),
  (188, (.newarray .int, 1, 0, 0, 0, 0, 0, [])),
  (190, (.putfield 77, 7, 25, 0, 2, 0, 0, [])),
  (193, (.aload_n 0, 0, 0, 0, 0, 0, 0, [])),
  (194, (.bipush 101, 0, 0, 0, 0, 101, 0, [])),
  (196, (.newarray .long, 2, 0, 0, 0, 0, 0, [])),
  (198, (.putfield 80, 7, 26, 0, 2, 0, 0, [])),
  (201, (.aload_n 0, 0, 0, 0, 0, 0, 0, [])),
  (202, (.sipush 20000, 0, 0, 0, 0, 20000, 0, [])),
  (205, (.newarray .int, 1, 0, 0, 0, 0, 0, [])),
  (207, (.putfield 83, 7, 29, 0, 2, 0, 0, [])),
  (210, (.aload_n 0, 0, 0, 0, 0, 0, 0, [])),
  (211, (.iconst 4, 0, 0, 0, 0, 4, 0, [])),
  (212, (.newarray .int, 1, 0, 0, 0, 0, 0, [])),
  (214, (.putfield 86, 7, 30, 0, 2, 0, 0, [])),
  (217, (.aload_n 0, 0, 0, 0, 0, 0, 0, [])),
  (218, (.iload_n 1, 1, 0, 0, 0, 0, 0, [])),
  (219, (.iconst 1, 0, 0, 0, 0, 1, 0, [])),
  (220, (.if_icmp .lt 13, 233, 0, 0, 0, 0, 0, [])),
  (223, (.iload_n 1, 1, 0, 0, 0, 0, 0, [])),
  (224, (.bipush 16, 0, 0, 0, 0, 16, 0, [])),
  (226, (.if_icmp .gt 7, 233, 0, 0, 0, 0, 0, [])),
  (229, (.iload_n 1, 1, 0, 0, 0, 0, 0, [])),
  (230, (.goto 4, 234, 0, 0, 0, 0, 0, [])),
  (233, (.iconst 4, 0, 0, 0, 0, 4, 0, [])),
  (234, (.putfield 89, 7, 1, 0, 0, 0, 0, [])),
  (237, (.return_, 0, 0, 0, 0, 0, 0, []))]
def pg_M_thrown : List (Nat × am_E) := [(0, (.aload_n 0, 0, 0, 0, 0, 0, 0, [])),
  (1, (.getfield 93, 7, 0, 0, 0, 0, 0, [])),
  (4, (.ireturn, 0, 0, 0, 0, 0, 0, []))]
def pg_M_link : List (Nat × am_E) := [(0, (.aload_n 0, 0, 0, 0, 0, 0, 0, [])),
  (1, (.iload_n 1, 1, 0, 0, 0, 0, 0, [])),
  (2, (.invokevirtual 96, 68, 1, 7, 1, 0, 0, [])),
  (5, (.ifCond .eq 5, 10, 0, 0, 0, 0, 0, [])),
  (8, (.iconst (-1), 0, 0, 0, 0, (-1), 0, [])),
  (9, (.ireturn, 0, 0, 0, 0, 0, 0, [])),
  (10, (.lload_n 2, 2, 0, 0, 0, 0, 0, [])),
  (11, (.lconst 0, 0, 0, 0, 0, 0, 0, [])),
  (12, (.lcmp, 0, 0, 0, 0, 0, 0, [])),
  (13, (.ifCond .lt 11, 24, 0, 0, 0, 0, 0, [])),
  (16, (.lload_n 2, 2, 0, 0, 0, 0, 0, [])),
  (17, (.ldc2_w 100, 0, 0, 0, 0, 0, 10000, [])),
  (20, (.lcmp, 0, 0, 0, 0, 0, 0, [])),
  (21, (.ifCond .le 6, 27, 0, 0, 0, 0, 0, [])),
  (24, (.bipush (-2), 0, 0, 0, 0, (-2), 0, [])),
  (26, (.ireturn, 0, 0, 0, 0, 0, 0, [])),
  (27, (.aload_n 0, 0, 0, 0, 0, 0, 0, [])),
  (28, (.getfield 22, 7, 6, 0, 2, 0, 0, [])),
  (31, (.iload_n 1, 1, 0, 0, 0, 0, 0, [])),
  (32, (.iaload, 0, 0, 0, 0, 0, 0, [])),
  (33, (.ifCond .le 23, 56, 0, 0, 0, 0, 0, [])),
  (36, (.lload_n 2, 2, 0, 0, 0, 0, 0, [])),
  (37, (.lconst 0, 0, 0, 0, 0, 0, 0, [])),
  (38, (.lcmp, 0, 0, 0, 0, 0, 0, [])),
  (39, (.ifCond .le 17, 56, 0, 0, 0, 0, 0, [])),
  (42, (.lload_n 2, 2, 0, 0, 0, 0, 0, [])),
  (43, (.aload_n 0, 0, 0, 0, 0, 0, 0, [])),
  (44, (.getfield 15, 7, 4, 0, 2, 0, 0, [])),
  (47, (.iload_n 1, 1, 0, 0, 0, 0, 0, [])),
  (48, (.laload, 0, 0, 0, 0, 0, 0, [])),
  (49, (.lcmp, 0, 0, 0, 0, 0, 0, [])),
  (50, (.ifCond .eq 6, 56, 0, 0, 0, 0, 0, [])),
  (53, (.bipush (-3), 0, 0, 0, 0, (-3), 0, [])),
  (55, (.ireturn, 0, 0, 0, 0, 0, 0, [])),
  (56, (.aload_n 0, 0, 0, 0, 0, 0, 0, [])),
  (57, (.getfield 15, 7, 4, 0, 2, 0, 0, [])),
  (60, (.iload_n 1, 1, 0, 0, 0, 0, 0, [])),
  (61, (.lload_n 2, 2, 0, 0, 0, 0, 0, [])),
  (62, (.lastore, 0, 0, 0, 0, 0, 0, [])),
  (63, (.lload_n 2, 2, 0, 0, 0, 0, 0, [])),
  (64, (.lconst 0, 0, 0, 0, 0, 0, 0, [])),
  (65, (.lcmp, 0, 0, 0, 0, 0, 0, [])),
  (66, (.ifCond .le 5, 71, 0, 0, 0, 0, 0, [])),
  (69, (.iconst 0, 0, 0, 0, 0, 0, 0, [])),
  (70, (.ireturn, 0, 0, 0, 0, 0, 0, [])),
  (71, (.aload_n 0, 0, 0, 0, 0, 0, 0, [])),
  (72, (.getfield 22, 7, 6, 0, 2, 0, 0, [])),
  (75, (.iload_n 1, 1, 0, 0, 0, 0, 0, [])),
  (76, (.iaload, 0, 0, 0, 0, 0, 0, [])),
  (77, (.ifCond .le 7, 84, 0, 0, 0, 0, 0, [])),
  (80, (.iconst 1, 0, 0, 0, 0, 1, 0, [])),
  (81, (.goto 4, 85, 0, 0, 0, 0, 0, [])),
  (84, (.iconst 0, 0, 0, 0, 0, 0, 0, [])),
  (85, (.istore 4, 4, 0, 0, 0, 0, 0, [])),
  (87, (.aload_n 0, 0, 0, 0, 0, 0, 0, [])),
  (88, (.getfield 22, 7, 6, 0, 2, 0, 0, [])),
  (91, (.iload_n 1, 1, 0, 0, 0, 0, 0, [])),
  (92, (.iconst 0, 0, 0, 0, 0, 0, 0, [])),
  (93, (.iastore, 0, 0, 0, 0, 0, 0, [])),
  (94, (.iconst 0, 0, 0, 0, 0, 0, 0, [])),
  (95, (.istore 5, 5, 0, 0, 0, 0, 0, [])),
  (97, (.iload 5, 5, 0, 0, 0, 0, 0, [])),
  (99, (.bipush 8, 0, 0, 0, 0, 8, 0, [])),
  (101, (.if_icmp .ge 39, 140, 0, 0, 0, 0, 0, [])),
  (104, (.iload 4, 4, 0, 0, 0, 0, 0, [])),
  (106, (.aload_n 0, 0, 0, 0, 0, 0, 0, [])),
  (107, (.getfield 35, 7, 10, 0, 2, 0, 0, [])),
  (110, (.bipush 8, 0, 0, 0, 0, 8, 0, [])),
  (112, (.iload_n 1, 1, 0, 0, 0, 0, 0, [])),
  (113, (.imul, 0, 0, 0, 0, 0, 0, [])),
  (114, (.iload 5, 5, 0, 0, 0, 0, 0, [])),
  (116, (.iadd, 0, 0, 0, 0, 0, 0, [])),
  (117, (.iaload, 0, 0, 0, 0, 0, 0, [])),
  (118, (.iadd, 0, 0, 0, 0, 0, 0, [])),
  (119, (.istore 4, 4, 0, 0, 0, 0, 0, [])),
  (121, (.aload_n 0, 0, 0, 0, 0, 0, 0, [])),
  (122, (.getfield 35, 7, 10, 0, 2, 0, 0, [])),
  (125, (.bipush 8, 0, 0, 0, 0, 8, 0, [])),
  (127, (.iload_n 1, 1, 0, 0, 0, 0, 0, [])),
  (128, (.imul, 0, 0, 0, 0, 0, 0, [])),
  (129, (.iload 5, 5, 0, 0, 0, 0, 0, [])),
  (131, (.iadd, 0, 0, 0, 0, 0, 0, [])),
  (132, (.iconst 0, 0, 0, 0, 0, 0, 0, [])),
  (133, (.iastore, 0, 0, 0, 0, 0, 0, [])),
  (134, (.iinc 5 1, 5, 0, 0, 0, 1, 0, [])),
  (137, (.goto (-40), 97, 0, 0, 0, 0, 0, [])),
  (140, (.aload_n 0, 0, 0, 0, 0, 0, 0, [])),
  (141, (.getfield 86, 7, 30, 0, 2, 0, 0, [])),
  (144, (.iconst 3, 0, 0, 0, 0, 3, 0, [])),
  (145, (.aload_n 0, 0, 0, 0, 0, 0, 0, [])),
  (146, (.getfield 86, 7, 30, 0, 2, 0, 0, [])),
  (149, (.iconst 3, 0, 0, 0, 0, 3, 0, [])),
  (150, (.iaload, 0, 0, 0, 0, 0, 0, [])),
  (151, (.iload 4, 4, 0, 0, 0, 0, 0, [])),
  (153, (.iadd, 0, 0, 0, 0, 0, 0, [])),
  (154, (.iastore, 0, 0, 0, 0, 0, 0, [])),
  (155, (.iload 4, 4, 0, 0, 0, 0, 0, [])),
  (157, (.ireturn, 0, 0, 0, 0, 0, 0, []))]
def pg_M_none : List (Nat × am_E) := [(0, (.aload_n 0, 0, 0, 0, 0, 0, 0, [])),
  (1, (.iconst 0, 0, 0, 0, 0, 0, 0, [])),
  (2, (.putfield 93, 7, 0, 0, 0, 0, 0, [])),
  (5, (.iload_n 1, 1, 0, 0, 0, 0, 0, [])),
  (6, (.iconst 1, 0, 0, 0, 0, 1, 0, [])),
  (7, (.if_icmp .lt 11, 18, 0, 0, 0, 0, 0, [])),
  (10, (.iload_n 1, 1, 0, 0, 0, 0, 0, [])),
  (11, (.aload_n 0, 0, 0, 0, 0, 0, 0, [])),
  (12, (.getfield 89, 7, 1, 0, 0, 0, 0, [])),
  (15, (.if_icmp .le 7, 22, 0, 0, 0, 0, 0, [])),
  (18, (.iconst 1, 0, 0, 0, 0, 1, 0, [])),
  (19, (.goto 4, 23, 0, 0, 0, 0, 0, [])),
  (22, (.iconst 0, 0, 0, 0, 0, 0, 0, [])),
  (23, (.ireturn, 0, 0, 0, 1, 0, 0, []))]
def pg_M_gate : List (Nat × am_E) := [(0, (.aload_n 0, 0, 0, 0, 0, 0, 0, [])),
  (1, (.iload_n 1, 1, 0, 0, 0, 0, 0, [])),
  (2, (.iload_n 2, 2, 0, 0, 0, 0, 0, [])),
  (3, (.invokevirtual 102, 70, 2, 7, 1, 0, 0, [])),
  (6, (.ifCond .eq 5, 11, 0, 0, 0, 0, 0, [])),
  (9, (.iconst (-1), 0, 0, 0, 0, (-1), 0, [])),
  (10, (.ireturn, 0, 0, 0, 0, 0, 0, [])),
  (11, (.bipush 8, 0, 0, 0, 0, 8, 0, [])),
  (13, (.iload_n 1, 1, 0, 0, 0, 0, 0, [])),
  (14, (.imul, 0, 0, 0, 0, 0, 0, [])),
  (15, (.iload_n 2, 2, 0, 0, 0, 0, 0, [])),
  (16, (.iadd, 0, 0, 0, 0, 0, 0, [])),
  (17, (.istore 7, 7, 0, 0, 0, 0, 0, [])),
  (19, (.lload_n 3, 3, 0, 0, 0, 0, 0, [])),
  (20, (.lconst 0, 0, 0, 0, 0, 0, 0, [])),
  (21, (.lcmp, 0, 0, 0, 0, 0, 0, [])),
  (22, (.ifCond .lt 20, 42, 0, 0, 0, 0, 0, [])),
  (25, (.lload_n 3, 3, 0, 0, 0, 0, 0, [])),
  (26, (.lload 5, 5, 0, 0, 0, 0, 0, [])),
  (28, (.lcmp, 0, 0, 0, 0, 0, 0, [])),
  (29, (.ifCond .ge 13, 42, 0, 0, 0, 0, 0, [])),
  (32, (.lload 5, 5, 0, 0, 0, 0, 0, [])),
  (34, (.aload_n 0, 0, 0, 0, 0, 0, 0, [])),
  (35, (.getfield 9, 7, 2, 0, 1, 0, 0, [])),
  (38, (.lcmp, 0, 0, 0, 0, 0, 0, [])),
  (39, (.ifCond .le 6, 45, 0, 0, 0, 0, 0, [])),
  (42, (.bipush (-2), 0, 0, 0, 0, (-2), 0, [])),
  (44, (.ireturn, 0, 0, 0, 0, 0, 0, [])),
  (45, (.aload_n 0, 0, 0, 0, 0, 0, 0, [])),
  (46, (.getfield 41, 7, 12, 0, 2, 0, 0, [])),
  (49, (.iload 7, 7, 0, 0, 0, 0, 0, [])),
  (51, (.iaload, 0, 0, 0, 0, 0, 0, [])),
  (52, (.bipush 8, 0, 0, 0, 0, 8, 0, [])),
  (54, (.if_icmp .ne 6, 60, 0, 0, 0, 0, 0, [])),
  (57, (.bipush (-4), 0, 0, 0, 0, (-4), 0, [])),
  (59, (.ireturn, 0, 0, 0, 0, 0, 0, [])),
  (60, (.aload_n 0, 0, 0, 0, 0, 0, 0, [])),
  (61, (.getfield 44, 7, 13, 0, 2, 0, 0, [])),
  (64, (.bipush 8, 0, 0, 0, 0, 8, 0, [])),
  (66, (.iload 7, 7, 0, 0, 0, 0, 0, [])),
  (68, (.imul, 0, 0, 0, 0, 0, 0, [])),
  (69, (.aload_n 0, 0, 0, 0, 0, 0, 0, [])),
  (70, (.getfield 41, 7, 12, 0, 2, 0, 0, [])),
  (73, (.iload 7, 7, 0, 0, 0, 0, 0, [])),
  (75, (.iaload, 0, 0, 0, 0, 0, 0, [])),
  (76, (.iadd, 0, 0, 0, 0, 0, 0, [])),
  (77, (.lload_n 3, 3, 0, 0, 0, 0, 0, [])),
  (78, (.lastore, 0, 0, 0, 0, 0, 0, [])),
  (79, (.aload_n 0, 0, 0, 0, 0, 0, 0, [])),
  (80, (.getfield 47, 7, 14, 0, 2, 0, 0, [])),
  (83, (.bipush 8, 0, 0, 0, 0, 8, 0, [])),
  (85, (.iload 7, 7, 0, 0, 0, 0, 0, [])),
  (87, (.imul, 0, 0, 0, 0, 0, 0, [])),
  (88, (.aload_n 0, 0, 0, 0, 0, 0, 0, [])),
  (89, (.getfield 41, 7, 12, 0, 2, 0, 0, [])),
  (92, (.iload 7, 7, 0, 0, 0, 0, 0, [])),
  (94, (.iaload, 0, 0, 0, 0, 0, 0, [])),
  (95, (.iadd, 0, 0, 0, 0, 0, 0, [])),
  (96, (.lload 5, 5, 0, 0, 0, 0, 0, [])),
  (98, (.lastore, 0, 0, 0, 0, 0, 0, [])),
  (99, (.aload_n 0, 0, 0, 0, 0, 0, 0, [])),
  (100, (.getfield 41, 7, 12, 0, 2, 0, 0, [])),
  (103, (.iload 7, 7, 0, 0, 0, 0, 0, [])),
  (105, (.dup2, 0, 0, 0, 0, 0, 0, [])),
  (106, (.iaload, 0, 0, 0, 0, 0, 0, [])),
  (107, (.iconst 1, 0, 0, 0, 0, 1, 0, [])),
  (108, (.iadd, 0, 0, 0, 0, 0, 0, [])),
  (109, (.iastore, 0, 0, 0, 0, 0, 0, [])),
  (110, (.aload_n 0, 0, 0, 0, 0, 0, 0, [])),
  (111, (.getfield 41, 7, 12, 0, 2, 0, 0, [])),
  (114, (.iload 7, 7, 0, 0, 0, 0, 0, [])),
  (116, (.iaload, 0, 0, 0, 0, 0, 0, [])),
  (117, (.ireturn, 0, 0, 0, 0, 0, 0, []))]
def pg_M_noRank : List (Nat × am_E) := [(0, (.aload_n 0, 0, 0, 0, 0, 0, 0, [])),
  (1, (.iload_n 1, 1, 0, 0, 0, 0, 0, [])),
  (2, (.invokevirtual 96, 68, 1, 7, 1, 0, 0, [])),
  (5, (.ifCond .ne 13, 18, 0, 0, 0, 0, 0, [])),
  (8, (.iload_n 2, 2, 0, 0, 0, 0, 0, [])),
  (9, (.ifCond .lt 9, 18, 0, 0, 0, 0, 0, [])),
  (12, (.iload_n 2, 2, 0, 0, 0, 0, 0, [])),
  (13, (.bipush 7, 0, 0, 0, 0, 7, 0, [])),
  (15, (.if_icmp .le 7, 22, 0, 0, 0, 0, 0, [])),
  (18, (.iconst 1, 0, 0, 0, 0, 1, 0, [])),
  (19, (.goto 4, 23, 0, 0, 0, 0, 0, [])),
  (22, (.iconst 0, 0, 0, 0, 0, 0, 0, [])),
  (23, (.ireturn, 0, 0, 0, 1, 0, 0, []))]
def pg_M_cycle : List (Nat × am_E) := [(0, (.aload_n 0, 0, 0, 0, 0, 0, 0, [])),
  (1, (.iconst 0, 0, 0, 0, 0, 0, 0, [])),
  (2, (.putfield 93, 7, 0, 0, 0, 0, 0, [])),
  (5, (.lload_n 1, 1, 0, 0, 0, 0, 0, [])),
  (6, (.lconst 0, 0, 0, 0, 0, 0, 0, [])),
  (7, (.lcmp, 0, 0, 0, 0, 0, 0, [])),
  (8, (.ifCond .lt 11, 19, 0, 0, 0, 0, 0, [])),
  (11, (.lload_n 1, 1, 0, 0, 0, 0, 0, [])),
  (12, (.ldc2_w 106, 0, 0, 0, 0, 0, 1000000, [])),
  (15, (.lcmp, 0, 0, 0, 0, 0, 0, [])),
  (16, (.ifCond .le 6, 22, 0, 0, 0, 0, 0, [])),
  (19, (.bipush (-2), 0, 0, 0, 0, (-2), 0, [])),
  (21, (.ireturn, 0, 0, 0, 0, 0, 0, [])),
  (22, (.bipush 8, 0, 0, 0, 0, 8, 0, [])),
  (24, (.istore_n 3, 3, 0, 0, 0, 0, 0, [])),
  (25, (.iload_n 3, 3, 0, 0, 0, 0, 0, [])),
  (26, (.sipush 136, 0, 0, 0, 0, 136, 0, [])),
  (29, (.if_icmp .ge 49, 78, 0, 0, 0, 0, 0, [])),
  (32, (.iconst 0, 0, 0, 0, 0, 0, 0, [])),
  (33, (.istore 4, 4, 0, 0, 0, 0, 0, [])),
  (35, (.iload 4, 4, 0, 0, 0, 0, 0, [])),
  (37, (.aload_n 0, 0, 0, 0, 0, 0, 0, [])),
  (38, (.getfield 41, 7, 12, 0, 2, 0, 0, [])),
  (41, (.iload_n 3, 3, 0, 0, 0, 0, 0, [])),
  (42, (.iaload, 0, 0, 0, 0, 0, 0, [])),
  (43, (.if_icmp .ge 29, 72, 0, 0, 0, 0, 0, [])),
  (46, (.aload_n 0, 0, 0, 0, 0, 0, 0, [])),
  (47, (.getfield 47, 7, 14, 0, 2, 0, 0, [])),
  (50, (.bipush 8, 0, 0, 0, 0, 8, 0, [])),
  (52, (.iload_n 3, 3, 0, 0, 0, 0, 0, [])),
  (53, (.imul, 0, 0, 0, 0, 0, 0, [])),
  (54, (.iload 4, 4, 0, 0, 0, 0, 0, [])),
  (56, (.iadd, 0, 0, 0, 0, 0, 0, [])),
  (57, (.laload, 0, 0, 0, 0, 0, 0, [])),
  (58, (.lload_n 1, 1, 0, 0, 0, 0, 0, [])),
  (59, (.lcmp, 0, 0, 0, 0, 0, 0, [])),
  (60, (.ifCond .le 6, 66, 0, 0, 0, 0, 0, [])),
  (63, (.bipush (-2), 0, 0, 0, 0, (-2), 0, [])),
  (65, (.ireturn, 0, 0, 0, 0, 0, 0, [])),
  (66, (.iinc 4 1, 4, 0, 0, 0, 1, 0, [])),
  (69, (.goto (-34), 35, 0, 0, 0, 0, 0, [])),
  (72, (.iinc 3 1, 3, 0, 0, 0, 1, 0, [])),
  (75, (.goto (-50), 25, 0, 0, 0, 0, 0, [])),
  (78, (.aload_n 0, 0, 0, 0, 0, 0, 0, [])),
  (79, (.lload_n 1, 1, 0, 0, 0, 0, 0, [])),
  (80, (.lconst 0, 0, 0, 0, 0, 0, 0, [])),
  (81, (.lcmp, 0, 0, 0, 0, 0, 0, [])),
  (82, (.ifCond .ne 7, 89, 0, 0, 0, 0, 0, [])),
  (85, (.iconst 1, 0, 0, 0, 0, 1, 0, [])),
  (86, (.goto 4, 90, 0, 0, 0, 0, 0, [])),
  (89, (.iconst 0, 0, 0, 0, 0, 0, 0, [])),
  (90, (.putfield 93, 7, 0, 0, 0, 0, 0, [])),
  (93, (.aload_n 0, 0, 0, 0, 0, 0, 0, [])),
  (94, (.getfield 93, 7, 0, 0, 0, 0, 0, [])),
  (97, (.ifCond .le 5, 102, 0, 0, 0, 0, 0, [])),
  (100, (.iconst 0, 0, 0, 0, 0, 0, 0, [])),
  (101, (.ireturn, 0, 0, 0, 0, 0, 0, [])),
  (102, (.aload_n 0, 0, 0, 0, 0, 0, 0, [])),
  (103, (.lload_n 1, 1, 0, 0, 0, 0, 0, [])),
  (104, (.putfield 9, 7, 2, 0, 1, 0, 0, [])),
  (107, (.iconst 1, 0, 0, 0, 0, 1, 0, [])),
  (108, (.ireturn, 0, 0, 0, 0, 0, 0, []))]
def pg_M_learn : List (Nat × am_E) := [(0, (.aload_n 0, 0, 0, 0, 0, 0, 0, [])),
  (1, (.iload_n 2, 2, 0, 0, 0, 0, 0, [])),
  (2, (.invokevirtual 96, 68, 1, 7, 1, 0, 0, [])),
  (5, (.ifCond .eq 5, 10, 0, 0, 0, 0, 0, [])),
  (8, (.iconst (-1), 0, 0, 0, 0, (-1), 0, [])),
  (9, (.ireturn, 0, 0, 0, 0, 0, 0, [])),
  (10, (.iload_n 1, 1, 0, 0, 0, 0, 0, [])),
  (11, (.iconst 1, 0, 0, 0, 0, 1, 0, [])),
  (12, (.if_icmp .lt 27, 39, 0, 0, 0, 0, 0, [])),
  (15, (.iload_n 1, 1, 0, 0, 0, 0, 0, [])),
  (16, (.sipush 1000, 0, 0, 0, 0, 1000, 0, [])),
  (19, (.if_icmp .gt 20, 39, 0, 0, 0, 0, 0, [])),
  (22, (.lload_n 3, 3, 0, 0, 0, 0, 0, [])),
  (23, (.ldc2_w 108, 0, 0, 0, 0, 0, (-1), [])),
  (26, (.lcmp, 0, 0, 0, 0, 0, 0, [])),
  (27, (.ifCond .lt 12, 39, 0, 0, 0, 0, 0, [])),
  (30, (.lload_n 3, 3, 0, 0, 0, 0, 0, [])),
  (31, (.aload_n 0, 0, 0, 0, 0, 0, 0, [])),
  (32, (.getfield 110, 7, 3, 0, 1, 0, 0, [])),
  (35, (.lcmp, 0, 0, 0, 0, 0, 0, [])),
  (36, (.ifCond .le 6, 42, 0, 0, 0, 0, 0, [])),
  (39, (.bipush (-2), 0, 0, 0, 0, (-2), 0, [])),
  (41, (.ireturn, 0, 0, 0, 0, 0, 0, [])),
  (42, (.aload_n 0, 0, 0, 0, 0, 0, 0, [])),
  (43, (.getfield 62, 7, 20, 0, 2, 0, 0, [])),
  (46, (.iload_n 1, 1, 0, 0, 0, 0, 0, [])),
  (47, (.iaload, 0, 0, 0, 0, 0, 0, [])),
  (48, (.ifCond .le 27, 75, 0, 0, 0, 0, 0, [])),
  (51, (.aload_n 0, 0, 0, 0, 0, 0, 0, [])),
  (52, (.getfield 65, 7, 21, 0, 2, 0, 0, [])),
  (55, (.iload_n 1, 1, 0, 0, 0, 0, 0, [])),
  (56, (.laload, 0, 0, 0, 0, 0, 0, [])),
  (57, (.ldc2_w 108, 0, 0, 0, 0, 0, (-1), [])),
  (60, (.lcmp, 0, 0, 0, 0, 0, 0, [])),
  (61, (.ifCond .ne 14, 75, 0, 0, 0, 0, 0, [])),
  (64, (.lload_n 3, 3, 0, 0, 0, 0, 0, [])),
  (65, (.ldc2_w 108, 0, 0, 0, 0, 0, (-1), [])),
  (68, (.lcmp, 0, 0, 0, 0, 0, 0, [])),
  (69, (.ifCond .eq 6, 75, 0, 0, 0, 0, 0, [])),
  (72, (.bipush (-3), 0, 0, 0, 0, (-3), 0, [])),
  (74, (.ireturn, 0, 0, 0, 0, 0, 0, [])),
  (75, (.aload_n 0, 0, 0, 0, 0, 0, 0, [])),
  (76, (.iload_n 1, 1, 0, 0, 0, 0, 0, [])),
  (77, (.invokevirtual 115, 73, 1, 7, 1, 0, 0, [])),
  (80, (.ifCond .eq 12, 92, 0, 0, 0, 0, 0, [])),
  (83, (.aload_n 0, 0, 0, 0, 0, 0, 0, [])),
  (84, (.getfield 62, 7, 20, 0, 2, 0, 0, [])),
  (87, (.iload_n 1, 1, 0, 0, 0, 0, 0, [])),
  (88, (.iaload, 0, 0, 0, 0, 0, 0, [])),
  (89, (.goto 4, 93, 0, 0, 0, 0, 0, [])),
  (92, (.iconst 0, 0, 0, 0, 0, 0, 0, [])),
  (93, (.istore 5, 5, 0, 0, 0, 0, 0, [])),
  (95, (.aload_n 0, 0, 0, 0, 0, 0, 0, [])),
  (96, (.getfield 62, 7, 20, 0, 2, 0, 0, [])),
  (99, (.iload_n 1, 1, 0, 0, 0, 0, 0, [])),
  (100, (.iload_n 2, 2, 0, 0, 0, 0, 0, [])),
  (101, (.iastore, 0, 0, 0, 0, 0, 0, [])),
  (102, (.aload_n 0, 0, 0, 0, 0, 0, 0, [])),
  (103, (.getfield 65, 7, 21, 0, 2, 0, 0, [])),
  (106, (.iload_n 1, 1, 0, 0, 0, 0, 0, [])),
  (107, (.lload_n 3, 3, 0, 0, 0, 0, 0, [])),
  (108, (.lastore, 0, 0, 0, 0, 0, 0, [])),
  (109, (.iload 5, 5, 0, 0, 0, 0, 0, [])),
  (111, (.ireturn, 0, 0, 0, 0, 0, 0, []))]
def pg_M_isAt : List (Nat × am_E) := [(0, (.aload_n 0, 0, 0, 0, 0, 0, 0, [])),
  (1, (.getfield 62, 7, 20, 0, 2, 0, 0, [])),
  (4, (.iload_n 1, 1, 0, 0, 0, 0, 0, [])),
  (5, (.iaload, 0, 0, 0, 0, 0, 0, [])),
  (6, (.ifCond .le 38, 44, 0, 0, 0, 0, 0, [])),
  (9, (.aload_n 0, 0, 0, 0, 0, 0, 0, [])),
  (10, (.getfield 65, 7, 21, 0, 2, 0, 0, [])),
  (13, (.iload_n 1, 1, 0, 0, 0, 0, 0, [])),
  (14, (.laload, 0, 0, 0, 0, 0, 0, [])),
  (15, (.ldc2_w 108, 0, 0, 0, 0, 0, (-1), [])),
  (18, (.lcmp, 0, 0, 0, 0, 0, 0, [])),
  (19, (.ifCond .eq 21, 40, 0, 0, 0, 0, 0, [])),
  (22, (.aload_n 0, 0, 0, 0, 0, 0, 0, [])),
  (23, (.getfield 110, 7, 3, 0, 1, 0, 0, [])),
  (26, (.aload_n 0, 0, 0, 0, 0, 0, 0, [])),
  (27, (.getfield 65, 7, 21, 0, 2, 0, 0, [])),
  (30, (.iload_n 1, 1, 0, 0, 0, 0, 0, [])),
  (31, (.laload, 0, 0, 0, 0, 0, 0, [])),
  (32, (.lsub, 0, 0, 0, 0, 0, 0, [])),
  (33, (.ldc2_w 113, 0, 0, 0, 0, 0, 3000, [])),
  (36, (.lcmp, 0, 0, 0, 0, 0, 0, [])),
  (37, (.ifCond .ge 7, 44, 0, 0, 0, 0, 0, [])),
  (40, (.iconst 1, 0, 0, 0, 0, 1, 0, [])),
  (41, (.goto 4, 45, 0, 0, 0, 0, 0, [])),
  (44, (.iconst 0, 0, 0, 0, 0, 0, 0, [])),
  (45, (.ireturn, 0, 0, 0, 1, 0, 0, []))]
def pg_M_credit : List (Nat × am_E) := [(0, (.aload_n 0, 0, 0, 0, 0, 0, 0, [])),
  (1, (.iload_n 1, 1, 0, 0, 0, 0, 0, [])),
  (2, (.iload_n 2, 2, 0, 0, 0, 0, 0, [])),
  (3, (.invokevirtual 102, 70, 2, 7, 1, 0, 0, [])),
  (6, (.ifCond .eq 5, 11, 0, 0, 0, 0, 0, [])),
  (9, (.iconst (-1), 0, 0, 0, 0, (-1), 0, [])),
  (10, (.ireturn, 0, 0, 0, 0, 0, 0, [])),
  (11, (.lload 5, 5, 0, 0, 0, 0, 0, [])),
  (13, (.lconst 1, 0, 0, 0, 0, 0, 1, [])),
  (14, (.lcmp, 0, 0, 0, 0, 0, 0, [])),
  (15, (.ifCond .lt 29, 44, 0, 0, 0, 0, 0, [])),
  (18, (.lload 5, 5, 0, 0, 0, 0, 0, [])),
  (20, (.ldc2_w 7, 0, 0, 0, 0, 0, 1000, [])),
  (23, (.lcmp, 0, 0, 0, 0, 0, 0, [])),
  (24, (.ifCond .gt 20, 44, 0, 0, 0, 0, 0, [])),
  (27, (.lload_n 3, 3, 0, 0, 0, 0, 0, [])),
  (28, (.lconst 0, 0, 0, 0, 0, 0, 0, [])),
  (29, (.lcmp, 0, 0, 0, 0, 0, 0, [])),
  (30, (.ifCond .lt 14, 44, 0, 0, 0, 0, 0, [])),
  (33, (.lload_n 3, 3, 0, 0, 0, 0, 0, [])),
  (34, (.ldc2_w 100, 0, 0, 0, 0, 0, 10000, [])),
  (37, (.lload 5, 5, 0, 0, 0, 0, 0, [])),
  (39, (.lmul, 0, 0, 0, 0, 0, 0, [])),
  (40, (.lcmp, 0, 0, 0, 0, 0, 0, [])),
  (41, (.ifCond .le 6, 47, 0, 0, 0, 0, 0, [])),
  (44, (.bipush (-2), 0, 0, 0, 0, (-2), 0, [])),
  (46, (.ireturn, 0, 0, 0, 0, 0, 0, [])),
  (47, (.aload_n 0, 0, 0, 0, 0, 0, 0, [])),
  (48, (.getfield 50, 7, 15, 0, 2, 0, 0, [])),
  (51, (.bipush 8, 0, 0, 0, 0, 8, 0, [])),
  (53, (.iload_n 1, 1, 0, 0, 0, 0, 0, [])),
  (54, (.imul, 0, 0, 0, 0, 0, 0, [])),
  (55, (.iload_n 2, 2, 0, 0, 0, 0, 0, [])),
  (56, (.iadd, 0, 0, 0, 0, 0, 0, [])),
  (57, (.lload_n 3, 3, 0, 0, 0, 0, 0, [])),
  (58, (.lastore, 0, 0, 0, 0, 0, 0, [])),
  (59, (.aload_n 0, 0, 0, 0, 0, 0, 0, [])),
  (60, (.getfield 53, 7, 16, 0, 2, 0, 0, [])),
  (63, (.bipush 8, 0, 0, 0, 0, 8, 0, [])),
  (65, (.iload_n 1, 1, 0, 0, 0, 0, 0, [])),
  (66, (.imul, 0, 0, 0, 0, 0, 0, [])),
  (67, (.iload_n 2, 2, 0, 0, 0, 0, 0, [])),
  (68, (.iadd, 0, 0, 0, 0, 0, 0, [])),
  (69, (.lload 5, 5, 0, 0, 0, 0, 0, [])),
  (71, (.lastore, 0, 0, 0, 0, 0, 0, [])),
  (72, (.aload_n 0, 0, 0, 0, 0, 0, 0, [])),
  (73, (.getfield 56, 7, 17, 0, 2, 0, 0, [])),
  (76, (.bipush 8, 0, 0, 0, 0, 8, 0, [])),
  (78, (.iload_n 1, 1, 0, 0, 0, 0, 0, [])),
  (79, (.imul, 0, 0, 0, 0, 0, 0, [])),
  (80, (.iload_n 2, 2, 0, 0, 0, 0, 0, [])),
  (81, (.iadd, 0, 0, 0, 0, 0, 0, [])),
  (82, (.lconst 0, 0, 0, 0, 0, 0, 0, [])),
  (83, (.lastore, 0, 0, 0, 0, 0, 0, [])),
  (84, (.iconst 1, 0, 0, 0, 0, 1, 0, [])),
  (85, (.ireturn, 0, 0, 0, 0, 0, 0, []))]
def pg_M_filter : List (Nat × am_E) := [(0, (.aload_n 0, 0, 0, 0, 0, 0, 0, [])),
  (1, (.iconst 0, 0, 0, 0, 0, 0, 0, [])),
  (2, (.putfield 93, 7, 0, 0, 0, 0, 0, [])),
  (5, (.iload_n 1, 1, 0, 0, 0, 0, 0, [])),
  (6, (.bipush 8, 0, 0, 0, 0, 8, 0, [])),
  (8, (.if_icmp .lt 10, 18, 0, 0, 0, 0, 0, [])),
  (11, (.iload_n 1, 1, 0, 0, 0, 0, 0, [])),
  (12, (.sipush 8007, 0, 0, 0, 0, 8007, 0, [])),
  (15, (.if_icmp .le 5, 20, 0, 0, 0, 0, 0, [])),
  (18, (.iconst (-1), 0, 0, 0, 0, (-1), 0, [])),
  (19, (.ireturn, 0, 0, 0, 0, 0, 0, [])),
  (20, (.lload_n 2, 2, 0, 0, 0, 0, 0, [])),
  (21, (.ldc2_w 108, 0, 0, 0, 0, 0, (-1), [])),
  (24, (.lcmp, 0, 0, 0, 0, 0, 0, [])),
  (25, (.ifCond .ge 6, 31, 0, 0, 0, 0, 0, [])),
  (28, (.bipush (-2), 0, 0, 0, 0, (-2), 0, [])),
  (30, (.ireturn, 0, 0, 0, 0, 0, 0, [])),
  (31, (.aload_n 0, 0, 0, 0, 0, 0, 0, [])),
  (32, (.iload_n 1, 1, 0, 0, 0, 0, 0, [])),
  (33, (.invokevirtual 118, 76, 1, 7, 0, 0, 0, [])),
  (36, (.aload_n 0, 0, 0, 0, 0, 0, 0, [])),
  (37, (.getfield 68, 7, 22, 0, 2, 0, 0, [])),
  (40, (.iload_n 1, 1, 0, 0, 0, 0, 0, [])),
  (41, (.lload_n 2, 2, 0, 0, 0, 0, 0, [])),
  (42, (.ldc2_w 122, 0, 0, 0, 0, 0, 5000, [])),
  (45, (.lcmp, 0, 0, 0, 0, 0, 0, [])),
  (46, (.ifCond .le 7, 53, 0, 0, 0, 0, 0, [])),
  (49, (.lconst 0, 0, 0, 0, 0, 0, 0, [])),
  (50, (.goto 6, 56, 0, 0, 0, 0, 0, [])),
  (53, (.lload_n 2, 2, 0, 0, 0, 0, 0, [])),
  (54, (.lconst 1, 0, 0, 0, 0, 0, 1, [])),
  (55, (.ladd, 0, 0, 0, 0, 0, 0, [])),
  (56, (.lastore, 0, 0, 0, 0, 0, 0, [])),
  (57, (.aload_n 0, 0, 0, 0, 0, 0, 0, [])),
  (58, (.getfield 74, 7, 24, 0, 2, 0, 0, [])),
  (61, (.iload_n 1, 1, 0, 0, 0, 0, 0, [])),
  (62, (.iaload, 0, 0, 0, 0, 0, 0, [])),
  (63, (.ireturn, 0, 0, 0, 0, 0, 0, []))]
def pg_M_look : List (Nat × am_E) := [(0, (.aload_n 0, 0, 0, 0, 0, 0, 0, [])),
  (1, (.getfield 71, 7, 23, 0, 2, 0, 0, [])),
  (4, (.iload_n 1, 1, 0, 0, 0, 0, 0, [])),
  (5, (.laload, 0, 0, 0, 0, 0, 0, [])),
  (6, (.aload_n 0, 0, 0, 0, 0, 0, 0, [])),
  (7, (.getfield 110, 7, 3, 0, 1, 0, 0, [])),
  (10, (.ldc2_w 7, 0, 0, 0, 0, 0, 1000, [])),
  (13, (.ldiv, 0, 0, 0, 0, 0, 0, [])),
  (14, (.lcmp, 0, 0, 0, 0, 0, 0, [])),
  (15, (.ifCond .eq 10, 25, 0, 0, 0, 0, 0, [])),
  (18, (.aload_n 0, 0, 0, 0, 0, 0, 0, [])),
  (19, (.getfield 74, 7, 24, 0, 2, 0, 0, [])),
  (22, (.iload_n 1, 1, 0, 0, 0, 0, 0, [])),
  (23, (.iconst 0, 0, 0, 0, 0, 0, 0, [])),
  (24, (.iastore, 0, 0, 0, 0, 0, 0, [])),
  (25, (.aload_n 0, 0, 0, 0, 0, 0, 0, [])),
  (26, (.getfield 71, 7, 23, 0, 2, 0, 0, [])),
  (29, (.iload_n 1, 1, 0, 0, 0, 0, 0, [])),
  (30, (.aload_n 0, 0, 0, 0, 0, 0, 0, [])),
  (31, (.getfield 110, 7, 3, 0, 1, 0, 0, [])),
  (34, (.ldc2_w 7, 0, 0, 0, 0, 0, 1000, [])),
  (37, (.ldiv, 0, 0, 0, 0, 0, 0, [])),
  (38, (.lastore, 0, 0, 0, 0, 0, 0, [])),
  (39, (.return_, 0, 0, 0, 0, 0, 0, []))]
def pg_M_clock : List (Nat × am_E) := [(0, (.aload_n 0, 0, 0, 0, 0, 0, 0, [])),
  (1, (.iload_n 1, 1, 0, 0, 0, 0, 0, [])),
  (2, (.invokevirtual 96, 68, 1, 7, 1, 0, 0, [])),
  (5, (.ifCond .eq 5, 10, 0, 0, 0, 0, 0, [])),
  (8, (.iconst (-1), 0, 0, 0, 0, (-1), 0, [])),
  (9, (.ireturn, 0, 0, 0, 0, 0, 0, [])),
  (10, (.lload_n 2, 2, 0, 0, 0, 0, 0, [])),
  (11, (.lconst 0, 0, 0, 0, 0, 0, 0, [])),
  (12, (.lcmp, 0, 0, 0, 0, 0, 0, [])),
  (13, (.ifCond .lt 11, 24, 0, 0, 0, 0, 0, [])),
  (16, (.lload_n 2, 2, 0, 0, 0, 0, 0, [])),
  (17, (.ldc2_w 106, 0, 0, 0, 0, 0, 1000000, [])),
  (20, (.lcmp, 0, 0, 0, 0, 0, 0, [])),
  (21, (.ifCond .le 6, 27, 0, 0, 0, 0, 0, [])),
  (24, (.bipush (-2), 0, 0, 0, 0, (-2), 0, [])),
  (26, (.ireturn, 0, 0, 0, 0, 0, 0, [])),
  (27, (.lload_n 2, 2, 0, 0, 0, 0, 0, [])),
  (28, (.aload_n 0, 0, 0, 0, 0, 0, 0, [])),
  (29, (.getfield 19, 7, 5, 0, 2, 0, 0, [])),
  (32, (.iload_n 1, 1, 0, 0, 0, 0, 0, [])),
  (33, (.laload, 0, 0, 0, 0, 0, 0, [])),
  (34, (.lcmp, 0, 0, 0, 0, 0, 0, [])),
  (35, (.ifCond .le 41, 76, 0, 0, 0, 0, 0, [])),
  (38, (.aload_n 0, 0, 0, 0, 0, 0, 0, [])),
  (39, (.getfield 19, 7, 5, 0, 2, 0, 0, [])),
  (42, (.iload_n 1, 1, 0, 0, 0, 0, 0, [])),
  (43, (.lload_n 2, 2, 0, 0, 0, 0, 0, [])),
  (44, (.aload_n 0, 0, 0, 0, 0, 0, 0, [])),
  (45, (.getfield 19, 7, 5, 0, 2, 0, 0, [])),
  (48, (.iload_n 1, 1, 0, 0, 0, 0, 0, [])),
  (49, (.laload, 0, 0, 0, 0, 0, 0, [])),
  (50, (.lsub, 0, 0, 0, 0, 0, 0, [])),
  (51, (.ldc2_w 124, 0, 0, 0, 0, 0, 100, [])),
  (54, (.lcmp, 0, 0, 0, 0, 0, 0, [])),
  (55, (.ifCond .le 16, 71, 0, 0, 0, 0, 0, [])),
  (58, (.aload_n 0, 0, 0, 0, 0, 0, 0, [])),
  (59, (.getfield 19, 7, 5, 0, 2, 0, 0, [])),
  (62, (.iload_n 1, 1, 0, 0, 0, 0, 0, [])),
  (63, (.laload, 0, 0, 0, 0, 0, 0, [])),
  (64, (.ldc2_w 124, 0, 0, 0, 0, 0, 100, [])),
  (67, (.ladd, 0, 0, 0, 0, 0, 0, [])),
  (68, (.goto 4, 72, 0, 0, 0, 0, 0, [])),
  (71, (.lload_n 2, 2, 0, 0, 0, 0, 0, [])),
  (72, (.lastore, 0, 0, 0, 0, 0, 0, [])),
  (73, (.goto 38, 111, 0, 0, 0, 0, 0, [])),
  (76, (.aload_n 0, 0, 0, 0, 0, 0, 0, [])),
  (77, (.getfield 19, 7, 5, 0, 2, 0, 0, [])),
  (80, (.iload_n 1, 1, 0, 0, 0, 0, 0, [])),
  (81, (.aload_n 0, 0, 0, 0, 0, 0, 0, [])),
  (82, (.getfield 19, 7, 5, 0, 2, 0, 0, [])),
  (85, (.iload_n 1, 1, 0, 0, 0, 0, 0, [])),
  (86, (.laload, 0, 0, 0, 0, 0, 0, [])),
  (87, (.lload_n 2, 2, 0, 0, 0, 0, 0, [])),
  (88, (.lsub, 0, 0, 0, 0, 0, 0, [])),
  (89, (.ldc2_w 124, 0, 0, 0, 0, 0, 100, [])),
  (92, (.lcmp, 0, 0, 0, 0, 0, 0, [])),
  (93, (.ifCond .le 16, 109, 0, 0, 0, 0, 0, [])),
  (96, (.aload_n 0, 0, 0, 0, 0, 0, 0, [])),
  (97, (.getfield 19, 7, 5, 0, 2, 0, 0, [])),
  (100, (.iload_n 1, 1, 0, 0, 0, 0, 0, [])),
  (101, (.laload, 0, 0, 0, 0, 0, 0, [])),
  (102, (.ldc2_w 124, 0, 0, 0, 0, 0, 100, [])),
  (105, (.lsub, 0, 0, 0, 0, 0, 0, [])),
  (106, (.goto 4, 110, 0, 0, 0, 0, 0, [])),
  (109, (.lload_n 2, 2, 0, 0, 0, 0, 0, [])),
  (110, (.lastore, 0, 0, 0, 0, 0, 0, [])),
  (111, (.aload_n 0, 0, 0, 0, 0, 0, 0, [])),
  (112, (.getfield 19, 7, 5, 0, 2, 0, 0, [])),
  (115, (.iload_n 1, 1, 0, 0, 0, 0, 0, [])),
  (116, (.laload, 0, 0, 0, 0, 0, 0, [])),
  (117, (.l2i, 0, 0, 0, 0, 0, 0, [])),
  (118, (.ireturn, 0, 0, 0, 0, 0, 0, []))]
def pg_M_service : List (Nat × am_E) := [(0, (.aload_n 0, 0, 0, 0, 0, 0, 0, [])),
  (1, (.iconst 0, 0, 0, 0, 0, 0, 0, [])),
  (2, (.putfield 93, 7, 0, 0, 0, 0, 0, [])),
  (5, (.iload_n 1, 1, 0, 0, 0, 0, 0, [])),
  (6, (.ifCond .eq 13, 19, 0, 0, 0, 0, 0, [])),
  (9, (.aload_n 0, 0, 0, 0, 0, 0, 0, [])),
  (10, (.iload_n 2, 2, 0, 0, 0, 0, 0, [])),
  (11, (.invokevirtual 96, 68, 1, 7, 1, 0, 0, [])),
  (14, (.ifCond .eq 5, 19, 0, 0, 0, 0, 0, [])),
  (17, (.iconst (-1), 0, 0, 0, 0, (-1), 0, [])),
  (18, (.ireturn, 0, 0, 0, 0, 0, 0, [])),
  (19, (.iload_n 1, 1, 0, 0, 0, 0, 0, [])),
  (20, (.ifCond .lt 24, 44, 0, 0, 0, 0, 0, [])),
  (23, (.iload_n 1, 1, 0, 0, 0, 0, 0, [])),
  (24, (.bipush 100, 0, 0, 0, 0, 100, 0, [])),
  (26, (.if_icmp .gt 18, 44, 0, 0, 0, 0, 0, [])),
  (29, (.iload_n 1, 1, 0, 0, 0, 0, 0, [])),
  (30, (.ifCond .ne 17, 47, 0, 0, 0, 0, 0, [])),
  (33, (.iload_n 2, 2, 0, 0, 0, 0, 0, [])),
  (34, (.iconst 1, 0, 0, 0, 0, 1, 0, [])),
  (35, (.if_icmp .lt 9, 44, 0, 0, 0, 0, 0, [])),
  (38, (.iload_n 2, 2, 0, 0, 0, 0, 0, [])),
  (39, (.bipush 100, 0, 0, 0, 0, 100, 0, [])),
  (41, (.if_icmp .le 6, 47, 0, 0, 0, 0, 0, [])),
  (44, (.bipush (-2), 0, 0, 0, 0, (-2), 0, [])),
  (46, (.ireturn, 0, 0, 0, 0, 0, 0, [])),
  (47, (.iload_n 1, 1, 0, 0, 0, 0, 0, [])),
  (48, (.ifCond .le 26, 74, 0, 0, 0, 0, 0, [])),
  (51, (.aload_n 0, 0, 0, 0, 0, 0, 0, [])),
  (52, (.getfield 77, 7, 25, 0, 2, 0, 0, [])),
  (55, (.iload_n 1, 1, 0, 0, 0, 0, 0, [])),
  (56, (.iload_n 2, 2, 0, 0, 0, 0, 0, [])),
  (57, (.iastore, 0, 0, 0, 0, 0, 0, [])),
  (58, (.aload_n 0, 0, 0, 0, 0, 0, 0, [])),
  (59, (.getfield 80, 7, 26, 0, 2, 0, 0, [])),
  (62, (.iload_n 1, 1, 0, 0, 0, 0, 0, [])),
  (63, (.aload_n 0, 0, 0, 0, 0, 0, 0, [])),
  (64, (.getfield 110, 7, 3, 0, 1, 0, 0, [])),
  (67, (.ldc2_w 7, 0, 0, 0, 0, 0, 1000, [])),
  (70, (.ladd, 0, 0, 0, 0, 0, 0, [])),
  (71, (.lastore, 0, 0, 0, 0, 0, 0, [])),
  (72, (.iload_n 2, 2, 0, 0, 0, 0, 0, [])),
  (73, (.ireturn, 0, 0, 0, 0, 0, 0, [])),
  (74, (.aload_n 0, 0, 0, 0, 0, 0, 0, [])),
  (75, (.getfield 77, 7, 25, 0, 2, 0, 0, [])),
  (78, (.iload_n 2, 2, 0, 0, 0, 0, 0, [])),
  (79, (.iaload, 0, 0, 0, 0, 0, 0, [])),
  (80, (.ifCond .le 26, 106, 0, 0, 0, 0, 0, [])),
  (83, (.aload_n 0, 0, 0, 0, 0, 0, 0, [])),
  (84, (.getfield 80, 7, 26, 0, 2, 0, 0, [])),
  (87, (.iload_n 2, 2, 0, 0, 0, 0, 0, [])),
  (88, (.laload, 0, 0, 0, 0, 0, 0, [])),
  (89, (.aload_n 0, 0, 0, 0, 0, 0, 0, [])),
  (90, (.getfield 110, 7, 3, 0, 1, 0, 0, [])),
  (93, (.lcmp, 0, 0, 0, 0, 0, 0, [])),
  (94, (.ifCond .le 12, 106, 0, 0, 0, 0, 0, [])),
  (97, (.aload_n 0, 0, 0, 0, 0, 0, 0, [])),
  (98, (.getfield 77, 7, 25, 0, 2, 0, 0, [])),
  (101, (.iload_n 2, 2, 0, 0, 0, 0, 0, [])),
  (102, (.iaload, 0, 0, 0, 0, 0, 0, [])),
  (103, (.goto 4, 107, 0, 0, 0, 0, 0, [])),
  (106, (.iconst 0, 0, 0, 0, 0, 0, 0, [])),
  (107, (.ireturn, 0, 0, 0, 0, 0, 0, []))]
def pg_M_frame : List (Nat × am_E) := [(0, (.aload_n 0, 0, 0, 0, 0, 0, 0, [])),
  (1, (.iload_n 1, 1, 0, 0, 0, 0, 0, [])),
  (2, (.invokevirtual 96, 68, 1, 7, 1, 0, 0, [])),
  (5, (.ifCond .eq 5, 10, 0, 0, 0, 0, 0, [])),
  (8, (.iconst (-1), 0, 0, 0, 0, (-1), 0, [])),
  (9, (.ireturn, 0, 0, 0, 0, 0, 0, [])),
  (10, (.iload_n 2, 2, 0, 0, 0, 0, 0, [])),
  (11, (.iconst 1, 0, 0, 0, 0, 1, 0, [])),
  (12, (.if_icmp .lt 35, 47, 0, 0, 0, 0, 0, [])),
  (15, (.iload_n 2, 2, 0, 0, 0, 0, 0, [])),
  (16, (.sipush 1000, 0, 0, 0, 0, 1000, 0, [])),
  (19, (.if_icmp .gt 28, 47, 0, 0, 0, 0, 0, [])),
  (22, (.iload_n 3, 3, 0, 0, 0, 0, 0, [])),
  (23, (.ifCond .lt 24, 47, 0, 0, 0, 0, 0, [])),
  (26, (.iload_n 3, 3, 0, 0, 0, 0, 0, [])),
  (27, (.bipush 7, 0, 0, 0, 0, 7, 0, [])),
  (29, (.if_icmp .gt 18, 47, 0, 0, 0, 0, 0, [])),
  (32, (.iload 4, 4, 0, 0, 0, 0, 0, [])),
  (34, (.bipush 64, 0, 0, 0, 0, 64, 0, [])),
  (36, (.if_icmp .lt 11, 47, 0, 0, 0, 0, 0, [])),
  (39, (.iload 4, 4, 0, 0, 0, 0, 0, [])),
  (41, (.sipush 1522, 0, 0, 0, 0, 1522, 0, [])),
  (44, (.if_icmp .le 6, 50, 0, 0, 0, 0, 0, [])),
  (47, (.bipush (-2), 0, 0, 0, 0, (-2), 0, [])),
  (49, (.ireturn, 0, 0, 0, 0, 0, 0, [])),
  (50, (.aload_n 0, 0, 0, 0, 0, 0, 0, [])),
  (51, (.getfield 15, 7, 4, 0, 2, 0, 0, [])),
  (54, (.iload_n 1, 1, 0, 0, 0, 0, 0, [])),
  (55, (.laload, 0, 0, 0, 0, 0, 0, [])),
  (56, (.lconst 0, 0, 0, 0, 0, 0, 0, [])),
  (57, (.lcmp, 0, 0, 0, 0, 0, 0, [])),
  (58, (.ifCond .ne 6, 64, 0, 0, 0, 0, 0, [])),
  (61, (.bipush (-3), 0, 0, 0, 0, (-3), 0, [])),
  (63, (.ireturn, 0, 0, 0, 0, 0, 0, [])),
  (64, (.aload_n 0, 0, 0, 0, 0, 0, 0, [])),
  (65, (.getfield 126, 7, 18, 0, 0, 0, 0, [])),
  (68, (.sipush 5000, 0, 0, 0, 0, 5000, 0, [])),
  (71, (.if_icmp .ne 6, 77, 0, 0, 0, 0, 0, [])),
  (74, (.bipush (-4), 0, 0, 0, 0, (-4), 0, [])),
  (76, (.ireturn, 0, 0, 0, 0, 0, 0, [])),
  (77, (.aload_n 0, 0, 0, 0, 0, 0, 0, [])),
  (78, (.dup, 0, 0, 0, 0, 0, 0, [])),
  (79, (.getfield 126, 7, 18, 0, 0, 0, 0, [])),
  (82, (.iconst 1, 0, 0, 0, 0, 1, 0, [])),
  (83, (.iadd, 0, 0, 0, 0, 0, 0, [])),
  (84, (.putfield 126, 7, 18, 0, 0, 0, 0, [])),
  (87, (.aload_n 0, 0, 0, 0, 0, 0, 0, [])),
  (88, (.getfield 59, 7, 19, 0, 2, 0, 0, [])),
  (91, (.aload_n 0, 0, 0, 0, 0, 0, 0, [])),
  (92, (.getfield 126, 7, 18, 0, 0, 0, 0, [])),
  (95, (.iload 4, 4, 0, 0, 0, 0, 0, [])),
  (97, (.iastore, 0, 0, 0, 0, 0, 0, [])),
  (98, (.bipush 8, 0, 0, 0, 0, 8, 0, [])),
  (100, (.iload_n 2, 2, 0, 0, 0, 0, 0, [])),
  (101, (.imul, 0, 0, 0, 0, 0, 0, [])),
  (102, (.iload_n 3, 3, 0, 0, 0, 0, 0, [])),
  (103, (.iadd, 0, 0, 0, 0, 0, 0, [])),
  (104, (.istore 5, 5, 0, 0, 0, 0, 0, [])),
  (106, (.aload_n 0, 0, 0, 0, 0, 0, 0, [])),
  (107, (.iload 5, 5, 0, 0, 0, 0, 0, [])),
  (109, (.invokevirtual 118, 76, 1, 7, 0, 0, 0, [])),
  (112, (.aload_n 0, 0, 0, 0, 0, 0, 0, [])),
  (113, (.getfield 68, 7, 22, 0, 2, 0, 0, [])),
  (116, (.iload 5, 5, 0, 0, 0, 0, 0, [])),
  (118, (.laload, 0, 0, 0, 0, 0, 0, [])),
  (119, (.lconst 0, 0, 0, 0, 0, 0, 0, [])),
  (120, (.lcmp, 0, 0, 0, 0, 0, 0, [])),
  (121, (.ifCond .le 36, 157, 0, 0, 0, 0, 0, [])),
  (124, (.aload_n 0, 0, 0, 0, 0, 0, 0, [])),
  (125, (.getfield 74, 7, 24, 0, 2, 0, 0, [])),
  (128, (.iload 5, 5, 0, 0, 0, 0, 0, [])),
  (130, (.iaload, 0, 0, 0, 0, 0, 0, [])),
  (131, (.i2l, 0, 0, 0, 0, 0, 0, [])),
  (132, (.aload_n 0, 0, 0, 0, 0, 0, 0, [])),
  (133, (.getfield 68, 7, 22, 0, 2, 0, 0, [])),
  (136, (.iload 5, 5, 0, 0, 0, 0, 0, [])),
  (138, (.laload, 0, 0, 0, 0, 0, 0, [])),
  (139, (.lconst 1, 0, 0, 0, 0, 0, 1, [])),
  (140, (.lsub, 0, 0, 0, 0, 0, 0, [])),
  (141, (.lcmp, 0, 0, 0, 0, 0, 0, [])),
  (142, (.ifCond .lt 15, 157, 0, 0, 0, 0, 0, [])),
  (145, (.aload_n 0, 0, 0, 0, 0, 0, 0, [])),
  (146, (.getfield 86, 7, 30, 0, 2, 0, 0, [])),
  (149, (.iconst 1, 0, 0, 0, 0, 1, 0, [])),
  (150, (.dup2, 0, 0, 0, 0, 0, 0, [])),
  (151, (.iaload, 0, 0, 0, 0, 0, 0, [])),
  (152, (.iconst 1, 0, 0, 0, 0, 1, 0, [])),
  (153, (.iadd, 0, 0, 0, 0, 0, 0, [])),
  (154, (.iastore, 0, 0, 0, 0, 0, 0, [])),
  (155, (.iconst 0, 0, 0, 0, 0, 0, 0, [])),
  (156, (.ireturn, 0, 0, 0, 0, 0, 0, [])),
  (157, (.aload_n 0, 0, 0, 0, 0, 0, 0, [])),
  (158, (.getfield 74, 7, 24, 0, 2, 0, 0, [])),
  (161, (.iload 5, 5, 0, 0, 0, 0, 0, [])),
  (163, (.dup2, 0, 0, 0, 0, 0, 0, [])),
  (164, (.iaload, 0, 0, 0, 0, 0, 0, [])),
  (165, (.iconst 1, 0, 0, 0, 0, 1, 0, [])),
  (166, (.iadd, 0, 0, 0, 0, 0, 0, [])),
  (167, (.iastore, 0, 0, 0, 0, 0, 0, [])),
  (168, (.iconst 0, 0, 0, 0, 0, 0, 0, [])),
  (169, (.istore 6, 6, 0, 0, 0, 0, 0, [])),
  (171, (.iconst 0, 0, 0, 0, 0, 0, 0, [])),
  (172, (.istore 7, 7, 0, 0, 0, 0, 0, [])),
  (174, (.iconst 1, 0, 0, 0, 0, 1, 0, [])),
  (175, (.istore 8, 8, 0, 0, 0, 0, 0, [])),
  (177, (.iload 8, 8, 0, 0, 0, 0, 0, [])),
  (179, (.aload_n 0, 0, 0, 0, 0, 0, 0, [])),
  (180, (.getfield 89, 7, 1, 0, 0, 0, 0, [])),
  (183, (.if_icmp .gt 100, 283, 0, 0, 0, 0, 0, [])),
  (186, (.iload 8, 8, 0, 0, 0, 0, 0, [])),
  (188, (.iload_n 1, 1, 0, 0, 0, 0, 0, [])),
  (189, (.if_icmp .eq 38, 227, 0, 0, 0, 0, 0, [])),
  (192, (.aload_n 0, 0, 0, 0, 0, 0, 0, [])),
  (193, (.getfield 15, 7, 4, 0, 2, 0, 0, [])),
  (196, (.iload 8, 8, 0, 0, 0, 0, 0, [])),
  (198, (.laload, 0, 0, 0, 0, 0, 0, [])),
  (199, (.lconst 0, 0, 0, 0, 0, 0, 0, [])),
  (200, (.lcmp, 0, 0, 0, 0, 0, 0, [])),
  (201, (.ifCond .le 26, 227, 0, 0, 0, 0, 0, [])),
  (204, (.aload_n 0, 0, 0, 0, 0, 0, 0, [])),
  (205, (.iload_n 2, 2, 0, 0, 0, 0, 0, [])),
  (206, (.invokevirtual 115, 73, 1, 7, 1, 0, 0, [])),
  (209, (.ifCond .eq 14, 223, 0, 0, 0, 0, 0, [])),
  (212, (.aload_n 0, 0, 0, 0, 0, 0, 0, [])),
  (213, (.getfield 62, 7, 20, 0, 2, 0, 0, [])),
  (216, (.iload_n 2, 2, 0, 0, 0, 0, 0, [])),
  (217, (.iaload, 0, 0, 0, 0, 0, 0, [])),
  (218, (.iload 8, 8, 0, 0, 0, 0, 0, [])),
  (220, (.if_icmp .ne 7, 227, 0, 0, 0, 0, 0, [])),
  (223, (.iconst 1, 0, 0, 0, 0, 1, 0, [])),
  (224, (.goto 4, 228, 0, 0, 0, 0, 0, [])),
  (227, (.iconst 0, 0, 0, 0, 0, 0, 0, [])),
  (228, (.istore 9, 9, 0, 0, 0, 0, 0, [])),
  (230, (.iload 7, 7, 0, 0, 0, 0, 0, [])),
  (232, (.ifCond .ne 8, 240, 0, 0, 0, 0, 0, [])),
  (235, (.iload 9, 9, 0, 0, 0, 0, 0, [])),
  (237, (.ifCond .eq 7, 244, 0, 0, 0, 0, 0, [])),
  (240, (.iconst 1, 0, 0, 0, 0, 1, 0, [])),
  (241, (.goto 4, 245, 0, 0, 0, 0, 0, [])),
  (244, (.iconst 0, 0, 0, 0, 0, 0, 0, [])),
  (245, (.istore 7, 7, 0, 0, 0, 0, 0, [])),
  (247, (.iload 9, 9, 0, 0, 0, 0, 0, [])),
  (249, (.ifCond .eq 28, 277, 0, 0, 0, 0, 0, [])),
  (252, (.aload_n 0, 0, 0, 0, 0, 0, 0, [])),
  (253, (.iload 8, 8, 0, 0, 0, 0, 0, [])),
  (255, (.iload_n 3, 3, 0, 0, 0, 0, 0, [])),
  (256, (.aload_n 0, 0, 0, 0, 0, 0, 0, [])),
  (257, (.getfield 126, 7, 18, 0, 0, 0, 0, [])),
  (260, (.invokevirtual 129, 80, 3, 7, 1, 0, 0, [])),
  (263, (.ifCond .le 10, 273, 0, 0, 0, 0, 0, [])),
  (266, (.aload_n 0, 0, 0, 0, 0, 0, 0, [])),
  (267, (.getfield 126, 7, 18, 0, 0, 0, 0, [])),
  (270, (.goto 5, 275, 0, 0, 0, 0, 0, [])),
  (273, (.iload 6, 6, 0, 0, 0, 0, 0, [])),
  (275, (.istore 6, 6, 0, 0, 0, 0, 0, [])),
  (277, (.iinc 8 1, 8, 0, 0, 0, 1, 0, [])),
  (280, (.goto (-103), 177, 0, 0, 0, 0, 0, [])),
  (283, (.aload_n 0, 0, 0, 0, 0, 0, 0, [])),
  (284, (.getfield 86, 7, 30, 0, 2, 0, 0, [])),
  (287, (.iconst 2, 0, 0, 0, 0, 2, 0, [])),
  (288, (.iload 7, 7, 0, 0, 0, 0, 0, [])),
  (290, (.ifCond .eq 12, 302, 0, 0, 0, 0, 0, [])),
  (293, (.aload_n 0, 0, 0, 0, 0, 0, 0, [])),
  (294, (.getfield 86, 7, 30, 0, 2, 0, 0, [])),
  (297, (.iconst 2, 0, 0, 0, 0, 2, 0, [])),
  (298, (.iaload, 0, 0, 0, 0, 0, 0, [])),
  (299, (.goto 11, 310, 0, 0, 0, 0, 0, [])),
  (302, (.aload_n 0, 0, 0, 0, 0, 0, 0, [])),
  (303, (.getfield 86, 7, 30, 0, 2, 0, 0, [])),
  (306, (.iconst 2, 0, 0, 0, 0, 2, 0, [])),
  (307, (.iaload, 0, 0, 0, 0, 0, 0, [])),
  (308, (.iconst 1, 0, 0, 0, 0, 1, 0, [])),
  (309, (.iadd, 0, 0, 0, 0, 0, 0, [])),
  (310, (.iastore, 0, 0, 0, 0, 0, 0, [])),
  (311, (.iload 6, 6, 0, 0, 0, 0, 0, [])),
  (313, (.ireturn, 0, 0, 0, 0, 0, 0, []))]
def pg_M_enter : List (Nat × am_E) := [(0, (.bipush 8, 0, 0, 0, 0, 8, 0, [])),
  (2, (.iload_n 1, 1, 0, 0, 0, 0, 0, [])),
  (3, (.imul, 0, 0, 0, 0, 0, 0, [])),
  (4, (.iload_n 2, 2, 0, 0, 0, 0, 0, [])),
  (5, (.iadd, 0, 0, 0, 0, 0, 0, [])),
  (6, (.istore 4, 4, 0, 0, 0, 0, 0, [])),
  (8, (.aload_n 0, 0, 0, 0, 0, 0, 0, [])),
  (9, (.getfield 35, 7, 10, 0, 2, 0, 0, [])),
  (12, (.iload 4, 4, 0, 0, 0, 0, 0, [])),
  (14, (.iaload, 0, 0, 0, 0, 0, 0, [])),
  (15, (.bipush 16, 0, 0, 0, 0, 16, 0, [])),
  (17, (.if_icmp .ne 15, 32, 0, 0, 0, 0, 0, [])),
  (20, (.aload_n 0, 0, 0, 0, 0, 0, 0, [])),
  (21, (.getfield 86, 7, 30, 0, 2, 0, 0, [])),
  (24, (.iconst 0, 0, 0, 0, 0, 0, 0, [])),
  (25, (.dup2, 0, 0, 0, 0, 0, 0, [])),
  (26, (.iaload, 0, 0, 0, 0, 0, 0, [])),
  (27, (.iconst 1, 0, 0, 0, 0, 1, 0, [])),
  (28, (.iadd, 0, 0, 0, 0, 0, 0, [])),
  (29, (.iastore, 0, 0, 0, 0, 0, 0, [])),
  (30, (.iconst 0, 0, 0, 0, 0, 0, 0, [])),
  (31, (.ireturn, 0, 0, 0, 0, 0, 0, [])),
  (32, (.aload_n 0, 0, 0, 0, 0, 0, 0, [])),
  (33, (.getfield 38, 7, 11, 0, 2, 0, 0, [])),
  (36, (.bipush 16, 0, 0, 0, 0, 16, 0, [])),
  (38, (.iload 4, 4, 0, 0, 0, 0, 0, [])),
  (40, (.imul, 0, 0, 0, 0, 0, 0, [])),
  (41, (.aload_n 0, 0, 0, 0, 0, 0, 0, [])),
  (42, (.getfield 35, 7, 10, 0, 2, 0, 0, [])),
  (45, (.iload 4, 4, 0, 0, 0, 0, 0, [])),
  (47, (.iaload, 0, 0, 0, 0, 0, 0, [])),
  (48, (.iadd, 0, 0, 0, 0, 0, 0, [])),
  (49, (.iload_n 3, 3, 0, 0, 0, 0, 0, [])),
  (50, (.iastore, 0, 0, 0, 0, 0, 0, [])),
  (51, (.aload_n 0, 0, 0, 0, 0, 0, 0, [])),
  (52, (.getfield 35, 7, 10, 0, 2, 0, 0, [])),
  (55, (.iload 4, 4, 0, 0, 0, 0, 0, [])),
  (57, (.dup2, 0, 0, 0, 0, 0, 0, [])),
  (58, (.iaload, 0, 0, 0, 0, 0, 0, [])),
  (59, (.iconst 1, 0, 0, 0, 0, 1, 0, [])),
  (60, (.iadd, 0, 0, 0, 0, 0, 0, [])),
  (61, (.iastore, 0, 0, 0, 0, 0, 0, [])),
  (62, (.iload_n 3, 3, 0, 0, 0, 0, 0, [])),
  (63, (.ireturn, 0, 0, 0, 0, 0, 0, []))]
def pg_M_run : List (Nat × am_E) := [(0, (.aload_n 0, 0, 0, 0, 0, 0, 0, [])),
  (1, (.iconst 0, 0, 0, 0, 0, 0, 0, [])),
  (2, (.putfield 93, 7, 0, 0, 0, 0, 0, [])),
  (5, (.lload_n 1, 1, 0, 0, 0, 0, 0, [])),
  (6, (.lconst 0, 0, 0, 0, 0, 0, 0, [])),
  (7, (.lcmp, 0, 0, 0, 0, 0, 0, [])),
  (8, (.ifCond .lt 11, 19, 0, 0, 0, 0, 0, [])),
  (11, (.lload_n 1, 1, 0, 0, 0, 0, 0, [])),
  (12, (.ldc2_w 158, 0, 0, 0, 0, 0, 2000, [])),
  (15, (.lcmp, 0, 0, 0, 0, 0, 0, [])),
  (16, (.ifCond .le 6, 22, 0, 0, 0, 0, 0, [])),
  (19, (.bipush (-2), 0, 0, 0, 0, (-2), 0, [])),
  (21, (.ireturn, 0, 0, 0, 0, 0, 0, [])),
  (22, (.aload_n 0, 0, 0, 0, 0, 0, 0, [])),
  (23, (.getfield 148, 7, 27, 0, 0, 0, 0, [])),
  (26, (.istore_n 3, 3, 0, 0, 0, 0, 0, [])),
  (27, (.lconst 0, 0, 0, 0, 0, 0, 0, [])),
  (28, (.lstore 4, 4, 0, 0, 0, 0, 0, [])),
  (30, (.lload 4, 4, 0, 0, 0, 0, 0, [])),
  (32, (.lload_n 1, 1, 0, 0, 0, 0, 0, [])),
  (33, (.lcmp, 0, 0, 0, 0, 0, 0, [])),
  (34, (.ifCond .ge 16, 50, 0, 0, 0, 0, 0, [])),
  (37, (.aload_n 0, 0, 0, 0, 0, 0, 0, [])),
  (38, (.invokevirtual 160, 82, 0, 7, 0, 0, 0, [])),
  (41, (.lload 4, 4, 0, 0, 0, 0, 0, [])),
  (43, (.lconst 1, 0, 0, 0, 0, 0, 1, [])),
  (44, (.ladd, 0, 0, 0, 0, 0, 0, [])),
  (45, (.lstore 4, 4, 0, 0, 0, 0, 0, [])),
  (47, (.goto (-17), 30, 0, 0, 0, 0, 0, [])),
  (50, (.aload_n 0, 0, 0, 0, 0, 0, 0, [])),
  (51, (.getfield 148, 7, 27, 0, 0, 0, 0, [])),
  (54, (.iload_n 3, 3, 0, 0, 0, 0, 0, [])),
  (55, (.isub, 0, 0, 0, 0, 0, 0, [])),
  (56, (.ireturn, 0, 0, 0, 0, 0, 0, []))]
def pg_M_tick : List (Nat × am_E) := [(0, (.iconst 1, 0, 0, 0, 0, 1, 0, [])),
  (1, (.istore_n 1, 1, 0, 0, 0, 0, 0, [])),
  (2, (.iload_n 1, 1, 0, 0, 0, 0, 0, [])),
  (3, (.aload_n 0, 0, 0, 0, 0, 0, 0, [])),
  (4, (.getfield 89, 7, 1, 0, 0, 0, 0, [])),
  (7, (.if_icmp .gt 138, 145, 0, 0, 0, 0, 0, [])),
  (10, (.aload_n 0, 0, 0, 0, 0, 0, 0, [])),
  (11, (.getfield 22, 7, 6, 0, 2, 0, 0, [])),
  (14, (.iload_n 1, 1, 0, 0, 0, 0, 0, [])),
  (15, (.iaload, 0, 0, 0, 0, 0, 0, [])),
  (16, (.ifCond .le 123, 139, 0, 0, 0, 0, 0, [])),
  (19, (.aload_n 0, 0, 0, 0, 0, 0, 0, [])),
  (20, (.getfield 32, 7, 9, 0, 2, 0, 0, [])),
  (23, (.iload_n 1, 1, 0, 0, 0, 0, 0, [])),
  (24, (.laload, 0, 0, 0, 0, 0, 0, [])),
  (25, (.aload_n 0, 0, 0, 0, 0, 0, 0, [])),
  (26, (.getfield 110, 7, 3, 0, 1, 0, 0, [])),
  (29, (.lcmp, 0, 0, 0, 0, 0, 0, [])),
  (30, (.ifCond .ne 109, 139, 0, 0, 0, 0, 0, [])),
  (33, (.aload_n 0, 0, 0, 0, 0, 0, 0, [])),
  (34, (.getfield 145, 7, 28, 0, 0, 0, 0, [])),
  (37, (.sipush 5000, 0, 0, 0, 0, 5000, 0, [])),
  (40, (.if_icmp .ge 82, 122, 0, 0, 0, 0, 0, [])),
  (43, (.aload_n 0, 0, 0, 0, 0, 0, 0, [])),
  (44, (.getfield 83, 7, 29, 0, 2, 0, 0, [])),
  (47, (.iconst 4, 0, 0, 0, 0, 4, 0, [])),
  (48, (.aload_n 0, 0, 0, 0, 0, 0, 0, [])),
  (49, (.getfield 145, 7, 28, 0, 0, 0, 0, [])),
  (52, (.imul, 0, 0, 0, 0, 0, 0, [])),
  (53, (.aload_n 0, 0, 0, 0, 0, 0, 0, [])),
  (54, (.getfield 22, 7, 6, 0, 2, 0, 0, [])),
  (57, (.iload_n 1, 1, 0, 0, 0, 0, 0, [])),
  (58, (.iaload, 0, 0, 0, 0, 0, 0, [])),
  (59, (.iastore, 0, 0, 0, 0, 0, 0, [])),
  (60, (.aload_n 0, 0, 0, 0, 0, 0, 0, [])),
  (61, (.getfield 83, 7, 29, 0, 2, 0, 0, [])),
  (64, (.iconst 4, 0, 0, 0, 0, 4, 0, [])),
  (65, (.aload_n 0, 0, 0, 0, 0, 0, 0, [])),
  (66, (.getfield 145, 7, 28, 0, 0, 0, 0, [])),
  (69, (.imul, 0, 0, 0, 0, 0, 0, [])),
  (70, (.iconst 1, 0, 0, 0, 0, 1, 0, [])),
  (71, (.iadd, 0, 0, 0, 0, 0, 0, [])),
  (72, (.iload_n 1, 1, 0, 0, 0, 0, 0, [])),
  (73, (.iastore, 0, 0, 0, 0, 0, 0, [])),
  (74, (.aload_n 0, 0, 0, 0, 0, 0, 0, [])),
  (75, (.getfield 83, 7, 29, 0, 2, 0, 0, [])),
  (78, (.iconst 4, 0, 0, 0, 0, 4, 0, [])),
  (79, (.aload_n 0, 0, 0, 0, 0, 0, 0, [])),
  (80, (.getfield 145, 7, 28, 0, 0, 0, 0, [])),
  (83, (.imul, 0, 0, 0, 0, 0, 0, [])),
  (84, (.iconst 2, 0, 0, 0, 0, 2, 0, [])),
  (85, (.iadd, 0, 0, 0, 0, 0, 0, [])),
  (86, (.aload_n 0, 0, 0, 0, 0, 0, 0, [])),
  (87, (.getfield 29, 7, 8, 0, 2, 0, 0, [])),
  (90, (.iload_n 1, 1, 0, 0, 0, 0, 0, [])),
  (91, (.laload, 0, 0, 0, 0, 0, 0, [])),
  (92, (.l2i, 0, 0, 0, 0, 0, 0, [])),
  (93, (.iastore, 0, 0, 0, 0, 0, 0, [])),
  (94, (.aload_n 0, 0, 0, 0, 0, 0, 0, [])),
  (95, (.getfield 83, 7, 29, 0, 2, 0, 0, [])),
  (98, (.iconst 4, 0, 0, 0, 0, 4, 0, [])),
  (99, (.aload_n 0, 0, 0, 0, 0, 0, 0, [])),
  (100, (.getfield 145, 7, 28, 0, 0, 0, 0, [])),
  (103, (.imul, 0, 0, 0, 0, 0, 0, [])),
  (104, (.iconst 3, 0, 0, 0, 0, 3, 0, [])),
  (105, (.iadd, 0, 0, 0, 0, 0, 0, [])),
  (106, (.aload_n 0, 0, 0, 0, 0, 0, 0, [])),
  (107, (.getfield 110, 7, 3, 0, 1, 0, 0, [])),
  (110, (.l2i, 0, 0, 0, 0, 0, 0, [])),
  (111, (.iastore, 0, 0, 0, 0, 0, 0, [])),
  (112, (.aload_n 0, 0, 0, 0, 0, 0, 0, [])),
  (113, (.dup, 0, 0, 0, 0, 0, 0, [])),
  (114, (.getfield 145, 7, 28, 0, 0, 0, 0, [])),
  (117, (.iconst 1, 0, 0, 0, 0, 1, 0, [])),
  (118, (.iadd, 0, 0, 0, 0, 0, 0, [])),
  (119, (.putfield 145, 7, 28, 0, 0, 0, 0, [])),
  (122, (.aload_n 0, 0, 0, 0, 0, 0, 0, [])),
  (123, (.dup, 0, 0, 0, 0, 0, 0, [])),
  (124, (.getfield 148, 7, 27, 0, 0, 0, 0, [])),
  (127, (.iconst 1, 0, 0, 0, 0, 1, 0, [])),
  (128, (.iadd, 0, 0, 0, 0, 0, 0, [])),
  (129, (.putfield 148, 7, 27, 0, 0, 0, 0, [])),
  (132, (.aload_n 0, 0, 0, 0, 0, 0, 0, [])),
  (133, (.getfield 22, 7, 6, 0, 2, 0, 0, [])),
  (136, (.iload_n 1, 1, 0, 0, 0, 0, 0, [])),
  (137, (.iconst 0, 0, 0, 0, 0, 0, 0, [])),
  (138, (.iastore, 0, 0, 0, 0, 0, 0, [])),
  (139, (.iinc 1 1, 1, 0, 0, 0, 1, 0, [])),
  (142, (.goto (-140), 2, 0, 0, 0, 0, 0, [])),
  (145, (.iconst 1, 0, 0, 0, 0, 1, 0, [])),
  (146, (.istore_n 1, 1, 0, 0, 0, 0, 0, [])),
  (147, (.iload_n 1, 1, 0, 0, 0, 0, 0, [])),
  (148, (.aload_n 0, 0, 0, 0, 0, 0, 0, [])),
  (149, (.getfield 89, 7, 1, 0, 0, 0, 0, [])),
  (152, (.if_icmp .gt 57, 209, 0, 0, 0, 0, 0, [])),
  (155, (.bipush 7, 0, 0, 0, 0, 7, 0, [])),
  (157, (.istore_n 2, 2, 0, 0, 0, 0, 0, [])),
  (158, (.iload_n 2, 2, 0, 0, 0, 0, 0, [])),
  (159, (.ifCond .lt 44, 203, 0, 0, 0, 0, 0, [])),
  (162, (.aload_n 0, 0, 0, 0, 0, 0, 0, [])),
  (163, (.getfield 15, 7, 4, 0, 2, 0, 0, [])),
  (166, (.iload_n 1, 1, 0, 0, 0, 0, 0, [])),
  (167, (.laload, 0, 0, 0, 0, 0, 0, [])),
  (168, (.lconst 0, 0, 0, 0, 0, 0, 0, [])),
  (169, (.lcmp, 0, 0, 0, 0, 0, 0, [])),
  (170, (.ifCond .le 27, 197, 0, 0, 0, 0, 0, [])),
  (173, (.aload_n 0, 0, 0, 0, 0, 0, 0, [])),
  (174, (.getfield 22, 7, 6, 0, 2, 0, 0, [])),
  (177, (.iload_n 1, 1, 0, 0, 0, 0, 0, [])),
  (178, (.iaload, 0, 0, 0, 0, 0, 0, [])),
  (179, (.ifCond .ne 18, 197, 0, 0, 0, 0, 0, [])),
  (182, (.aload_n 0, 0, 0, 0, 0, 0, 0, [])),
  (183, (.iload_n 1, 1, 0, 0, 0, 0, 0, [])),
  (184, (.iload_n 2, 2, 0, 0, 0, 0, 0, [])),
  (185, (.invokevirtual 151, 83, 2, 7, 1, 0, 0, [])),
  (188, (.ifCond .eq 9, 197, 0, 0, 0, 0, 0, [])),
  (191, (.aload_n 0, 0, 0, 0, 0, 0, 0, [])),
  (192, (.iload_n 1, 1, 0, 0, 0, 0, 0, [])),
  (193, (.iload_n 2, 2, 0, 0, 0, 0, 0, [])),
  (194, (.invokevirtual 154, 86, 2, 7, 0, 0, 0, [])),
  (197, (.iinc 2 (-1), 2, 0, 0, 0, (-1), 0, [])),
  (200, (.goto (-42), 158, 0, 0, 0, 0, 0, [])),
  (203, (.iinc 1 1, 1, 0, 0, 0, 1, 0, [])),
  (206, (.goto (-59), 147, 0, 0, 0, 0, 0, [])),
  (209, (.bipush 8, 0, 0, 0, 0, 8, 0, [])),
  (211, (.istore_n 1, 1, 0, 0, 0, 0, 0, [])),
  (212, (.iload_n 1, 1, 0, 0, 0, 0, 0, [])),
  (213, (.bipush 8, 0, 0, 0, 0, 8, 0, [])),
  (215, (.aload_n 0, 0, 0, 0, 0, 0, 0, [])),
  (216, (.getfield 89, 7, 1, 0, 0, 0, 0, [])),
  (219, (.imul, 0, 0, 0, 0, 0, 0, [])),
  (220, (.bipush 8, 0, 0, 0, 0, 8, 0, [])),
  (222, (.iadd, 0, 0, 0, 0, 0, 0, [])),
  (223, (.if_icmp .ge 155, 378, 0, 0, 0, 0, 0, [])),
  (226, (.iload_n 1, 1, 0, 0, 0, 0, 0, [])),
  (227, (.bipush 8, 0, 0, 0, 0, 8, 0, [])),
  (229, (.idiv, 0, 0, 0, 0, 0, 0, [])),
  (230, (.istore_n 2, 2, 0, 0, 0, 0, 0, [])),
  (231, (.aload_n 0, 0, 0, 0, 0, 0, 0, [])),
  (232, (.getfield 50, 7, 15, 0, 2, 0, 0, [])),
  (235, (.iload_n 1, 1, 0, 0, 0, 0, 0, [])),
  (236, (.laload, 0, 0, 0, 0, 0, 0, [])),
  (237, (.lconst 0, 0, 0, 0, 0, 0, 0, [])),
  (238, (.lcmp, 0, 0, 0, 0, 0, 0, [])),
  (239, (.ifCond .le 133, 372, 0, 0, 0, 0, 0, [])),
  (242, (.aload_n 0, 0, 0, 0, 0, 0, 0, [])),
  (243, (.getfield 22, 7, 6, 0, 2, 0, 0, [])),
  (246, (.iload_n 2, 2, 0, 0, 0, 0, 0, [])),
  (247, (.iaload, 0, 0, 0, 0, 0, 0, [])),
  (248, (.ifCond .le 52, 300, 0, 0, 0, 0, 0, [])),
  (251, (.aload_n 0, 0, 0, 0, 0, 0, 0, [])),
  (252, (.getfield 26, 7, 7, 0, 2, 0, 0, [])),
  (255, (.iload_n 2, 2, 0, 0, 0, 0, 0, [])),
  (256, (.iaload, 0, 0, 0, 0, 0, 0, [])),
  (257, (.iload_n 1, 1, 0, 0, 0, 0, 0, [])),
  (258, (.bipush 8, 0, 0, 0, 0, 8, 0, [])),
  (260, (.irem, 0, 0, 0, 0, 0, 0, [])),
  (261, (.if_icmp .ne 39, 300, 0, 0, 0, 0, 0, [])),
  (264, (.aload_n 0, 0, 0, 0, 0, 0, 0, [])),
  (265, (.getfield 56, 7, 17, 0, 2, 0, 0, [])),
  (268, (.iload_n 1, 1, 0, 0, 0, 0, 0, [])),
  (269, (.aload_n 0, 0, 0, 0, 0, 0, 0, [])),
  (270, (.getfield 56, 7, 17, 0, 2, 0, 0, [])),
  (273, (.iload_n 1, 1, 0, 0, 0, 0, 0, [])),
  (274, (.laload, 0, 0, 0, 0, 0, 0, [])),
  (275, (.aload_n 0, 0, 0, 0, 0, 0, 0, [])),
  (276, (.getfield 50, 7, 15, 0, 2, 0, 0, [])),
  (279, (.iload_n 1, 1, 0, 0, 0, 0, 0, [])),
  (280, (.laload, 0, 0, 0, 0, 0, 0, [])),
  (281, (.ladd, 0, 0, 0, 0, 0, 0, [])),
  (282, (.aload_n 0, 0, 0, 0, 0, 0, 0, [])),
  (283, (.getfield 15, 7, 4, 0, 2, 0, 0, [])),
  (286, (.iload_n 2, 2, 0, 0, 0, 0, 0, [])),
  (287, (.laload, 0, 0, 0, 0, 0, 0, [])),
  (288, (.aload_n 0, 0, 0, 0, 0, 0, 0, [])),
  (289, (.getfield 53, 7, 16, 0, 2, 0, 0, [])),
  (292, (.iload_n 1, 1, 0, 0, 0, 0, 0, [])),
  (293, (.laload, 0, 0, 0, 0, 0, 0, [])),
  (294, (.lmul, 0, 0, 0, 0, 0, 0, [])),
  (295, (.lsub, 0, 0, 0, 0, 0, 0, [])),
  (296, (.lastore, 0, 0, 0, 0, 0, 0, [])),
  (297, (.goto 75, 372, 0, 0, 0, 0, 0, [])),
  (300, (.aload_n 0, 0, 0, 0, 0, 0, 0, [])),
  (301, (.getfield 35, 7, 10, 0, 2, 0, 0, [])),
  (304, (.iload_n 1, 1, 0, 0, 0, 0, 0, [])),
  (305, (.iaload, 0, 0, 0, 0, 0, 0, [])),
  (306, (.ifCond .le 25, 331, 0, 0, 0, 0, 0, [])),
  (309, (.aload_n 0, 0, 0, 0, 0, 0, 0, [])),
  (310, (.getfield 56, 7, 17, 0, 2, 0, 0, [])),
  (313, (.iload_n 1, 1, 0, 0, 0, 0, 0, [])),
  (314, (.aload_n 0, 0, 0, 0, 0, 0, 0, [])),
  (315, (.getfield 56, 7, 17, 0, 2, 0, 0, [])),
  (318, (.iload_n 1, 1, 0, 0, 0, 0, 0, [])),
  (319, (.laload, 0, 0, 0, 0, 0, 0, [])),
  (320, (.aload_n 0, 0, 0, 0, 0, 0, 0, [])),
  (321, (.getfield 50, 7, 15, 0, 2, 0, 0, [])),
  (324, (.iload_n 1, 1, 0, 0, 0, 0, 0, [])),
  (325, (.laload, 0, 0, 0, 0, 0, 0, [])),
  (326, (.ladd, 0, 0, 0, 0, 0, 0, [])),
  (327, (.lastore, 0, 0, 0, 0, 0, 0, [])),
  (328, (.goto 44, 372, 0, 0, 0, 0, 0, [])),
  (331, (.aload_n 0, 0, 0, 0, 0, 0, 0, [])),
  (332, (.getfield 56, 7, 17, 0, 2, 0, 0, [])),
  (335, (.iload_n 1, 1, 0, 0, 0, 0, 0, [])),
  (336, (.aload_n 0, 0, 0, 0, 0, 0, 0, [])),
  (337, (.getfield 56, 7, 17, 0, 2, 0, 0, [])),
  (340, (.iload_n 1, 1, 0, 0, 0, 0, 0, [])),
  (341, (.laload, 0, 0, 0, 0, 0, 0, [])),
  (342, (.aload_n 0, 0, 0, 0, 0, 0, 0, [])),
  (343, (.getfield 50, 7, 15, 0, 2, 0, 0, [])),
  (346, (.iload_n 1, 1, 0, 0, 0, 0, 0, [])),
  (347, (.laload, 0, 0, 0, 0, 0, 0, [])),
  (348, (.ladd, 0, 0, 0, 0, 0, 0, [])),
  (349, (.lconst 0, 0, 0, 0, 0, 0, 0, [])),
  (350, (.lcmp, 0, 0, 0, 0, 0, 0, [])),
  (351, (.ifCond .ge 19, 370, 0, 0, 0, 0, 0, [])),
  (354, (.aload_n 0, 0, 0, 0, 0, 0, 0, [])),
  (355, (.getfield 56, 7, 17, 0, 2, 0, 0, [])),
  (358, (.iload_n 1, 1, 0, 0, 0, 0, 0, [])),
  (359, (.laload, 0, 0, 0, 0, 0, 0, [])),
  (360, (.aload_n 0, 0, 0, 0, 0, 0, 0, [])),
  (361, (.getfield 50, 7, 15, 0, 2, 0, 0, [])),
  (364, (.iload_n 1, 1, 0, 0, 0, 0, 0, [])),
  (365, (.laload, 0, 0, 0, 0, 0, 0, [])),
  (366, (.ladd, 0, 0, 0, 0, 0, 0, [])),
  (367, (.goto 4, 371, 0, 0, 0, 0, 0, [])),
  (370, (.lconst 0, 0, 0, 0, 0, 0, 0, [])),
  (371, (.lastore, 0, 0, 0, 0, 0, 0, [])),
  (372, (.iinc 1 1, 1, 0, 0, 0, 1, 0, [])),
  (375, (.goto (-163), 212, 0, 0, 0, 0, 0, [])),
  (378, (.aload_n 0, 0, 0, 0, 0, 0, 0, [])),
  (379, (.dup, 0, 0, 0, 0, 0, 0, [])),
  (380, (.getfield 110, 7, 3, 0, 1, 0, 0, [])),
  (383, (.lconst 1, 0, 0, 0, 0, 0, 1, [])),
  (384, (.ladd, 0, 0, 0, 0, 0, 0, [])),
  (385, (.putfield 110, 7, 3, 0, 1, 0, 0, [])),
  (388, (.return_, 0, 0, 0, 0, 0, 0, []))]
def pg_M_may : List (Nat × am_E) := [(0, (.bipush 8, 0, 0, 0, 0, 8, 0, [])),
  (2, (.iload_n 1, 1, 0, 0, 0, 0, 0, [])),
  (3, (.imul, 0, 0, 0, 0, 0, 0, [])),
  (4, (.iload_n 2, 2, 0, 0, 0, 0, 0, [])),
  (5, (.iadd, 0, 0, 0, 0, 0, 0, [])),
  (6, (.istore_n 3, 3, 0, 0, 0, 0, 0, [])),
  (7, (.aload_n 0, 0, 0, 0, 0, 0, 0, [])),
  (8, (.getfield 35, 7, 10, 0, 2, 0, 0, [])),
  (11, (.iload_n 3, 3, 0, 0, 0, 0, 0, [])),
  (12, (.iaload, 0, 0, 0, 0, 0, 0, [])),
  (13, (.ifCond .ne 5, 18, 0, 0, 0, 0, 0, [])),
  (16, (.iconst 0, 0, 0, 0, 0, 0, 0, [])),
  (17, (.ireturn, 0, 0, 0, 1, 0, 0, [])),
  (18, (.aload_n 0, 0, 0, 0, 0, 0, 0, [])),
  (19, (.getfield 50, 7, 15, 0, 2, 0, 0, [])),
  (22, (.iload_n 3, 3, 0, 0, 0, 0, 0, [])),
  (23, (.laload, 0, 0, 0, 0, 0, 0, [])),
  (24, (.lconst 0, 0, 0, 0, 0, 0, 0, [])),
  (25, (.lcmp, 0, 0, 0, 0, 0, 0, [])),
  (26, (.ifCond .eq 14, 40, 0, 0, 0, 0, 0, [])),
  (29, (.aload_n 0, 0, 0, 0, 0, 0, 0, [])),
  (30, (.getfield 56, 7, 17, 0, 2, 0, 0, [])),
  (33, (.iload_n 3, 3, 0, 0, 0, 0, 0, [])),
  (34, (.laload, 0, 0, 0, 0, 0, 0, [])),
  (35, (.lconst 0, 0, 0, 0, 0, 0, 0, [])),
  (36, (.lcmp, 0, 0, 0, 0, 0, 0, [])),
  (37, (.ifCond .lt 7, 44, 0, 0, 0, 0, 0, [])),
  (40, (.iconst 1, 0, 0, 0, 0, 1, 0, [])),
  (41, (.goto 4, 45, 0, 0, 0, 0, 0, [])),
  (44, (.iconst 0, 0, 0, 0, 0, 0, 0, [])),
  (45, (.istore 4, 4, 0, 0, 0, 0, 0, [])),
  (47, (.iload 4, 4, 0, 0, 0, 0, 0, [])),
  (49, (.ifCond .eq 45, 94, 0, 0, 0, 0, 0, [])),
  (52, (.aload_n 0, 0, 0, 0, 0, 0, 0, [])),
  (53, (.iload_n 3, 3, 0, 0, 0, 0, 0, [])),
  (54, (.aload_n 0, 0, 0, 0, 0, 0, 0, [])),
  (55, (.getfield 110, 7, 3, 0, 1, 0, 0, [])),
  (58, (.aload_n 0, 0, 0, 0, 0, 0, 0, [])),
  (59, (.getfield 19, 7, 5, 0, 2, 0, 0, [])),
  (62, (.iload_n 1, 1, 0, 0, 0, 0, 0, [])),
  (63, (.laload, 0, 0, 0, 0, 0, 0, [])),
  (64, (.ladd, 0, 0, 0, 0, 0, 0, [])),
  (65, (.aload_n 0, 0, 0, 0, 0, 0, 0, [])),
  (66, (.getfield 9, 7, 2, 0, 1, 0, 0, [])),
  (69, (.lrem, 0, 0, 0, 0, 0, 0, [])),
  (70, (.aload_n 0, 0, 0, 0, 0, 0, 0, [])),
  (71, (.iload_n 1, 1, 0, 0, 0, 0, 0, [])),
  (72, (.aload_n 0, 0, 0, 0, 0, 0, 0, [])),
  (73, (.getfield 38, 7, 11, 0, 2, 0, 0, [])),
  (76, (.bipush 16, 0, 0, 0, 0, 16, 0, [])),
  (78, (.iload_n 3, 3, 0, 0, 0, 0, 0, [])),
  (79, (.imul, 0, 0, 0, 0, 0, 0, [])),
  (80, (.iaload, 0, 0, 0, 0, 0, 0, [])),
  (81, (.invokevirtual 137, 84, 2, 7, 2, 0, 0, [])),
  (84, (.invokevirtual 141, 85, 3, 7, 1, 0, 0, [])),
  (87, (.ifCond .eq 7, 94, 0, 0, 0, 0, 0, [])),
  (90, (.iconst 1, 0, 0, 0, 0, 1, 0, [])),
  (91, (.goto 4, 95, 0, 0, 0, 0, 0, [])),
  (94, (.iconst 0, 0, 0, 0, 0, 0, 0, [])),
  (95, (.ireturn, 0, 0, 0, 1, 0, 0, []))]
def pg_M_time : List (Nat × am_E) := [(0, (.ldc2_w 133, 0, 0, 0, 0, 0, 8, [])),
  (3, (.aload_n 0, 0, 0, 0, 0, 0, 0, [])),
  (4, (.getfield 59, 7, 19, 0, 2, 0, 0, [])),
  (7, (.iload_n 2, 2, 0, 0, 0, 0, 0, [])),
  (8, (.iaload, 0, 0, 0, 0, 0, 0, [])),
  (9, (.i2l, 0, 0, 0, 0, 0, 0, [])),
  (10, (.lmul, 0, 0, 0, 0, 0, 0, [])),
  (11, (.ldc2_w 135, 0, 0, 0, 0, 0, 160, [])),
  (14, (.ladd, 0, 0, 0, 0, 0, 0, [])),
  (15, (.lstore_n 3, 3, 0, 0, 0, 0, 0, [])),
  (16, (.lload_n 3, 3, 0, 0, 0, 0, 0, [])),
  (17, (.aload_n 0, 0, 0, 0, 0, 0, 0, [])),
  (18, (.getfield 15, 7, 4, 0, 2, 0, 0, [])),
  (21, (.iload_n 1, 1, 0, 0, 0, 0, 0, [])),
  (22, (.laload, 0, 0, 0, 0, 0, 0, [])),
  (23, (.lrem, 0, 0, 0, 0, 0, 0, [])),
  (24, (.lconst 0, 0, 0, 0, 0, 0, 0, [])),
  (25, (.lcmp, 0, 0, 0, 0, 0, 0, [])),
  (26, (.ifCond .ne 14, 40, 0, 0, 0, 0, 0, [])),
  (29, (.lload_n 3, 3, 0, 0, 0, 0, 0, [])),
  (30, (.aload_n 0, 0, 0, 0, 0, 0, 0, [])),
  (31, (.getfield 15, 7, 4, 0, 2, 0, 0, [])),
  (34, (.iload_n 1, 1, 0, 0, 0, 0, 0, [])),
  (35, (.laload, 0, 0, 0, 0, 0, 0, [])),
  (36, (.ldiv, 0, 0, 0, 0, 0, 0, [])),
  (37, (.goto 13, 50, 0, 0, 0, 0, 0, [])),
  (40, (.lload_n 3, 3, 0, 0, 0, 0, 0, [])),
  (41, (.aload_n 0, 0, 0, 0, 0, 0, 0, [])),
  (42, (.getfield 15, 7, 4, 0, 2, 0, 0, [])),
  (45, (.iload_n 1, 1, 0, 0, 0, 0, 0, [])),
  (46, (.laload, 0, 0, 0, 0, 0, 0, [])),
  (47, (.ldiv, 0, 0, 0, 0, 0, 0, [])),
  (48, (.lconst 1, 0, 0, 0, 0, 0, 1, [])),
  (49, (.ladd, 0, 0, 0, 0, 0, 0, [])),
  (50, (.lreturn, 0, 0, 0, 0, 0, 0, []))]
def pg_M_open : List (Nat × am_E) := [(0, (.aload_n 0, 0, 0, 0, 0, 0, 0, [])),
  (1, (.getfield 41, 7, 12, 0, 2, 0, 0, [])),
  (4, (.iload_n 1, 1, 0, 0, 0, 0, 0, [])),
  (5, (.iaload, 0, 0, 0, 0, 0, 0, [])),
  (6, (.ifCond .ne 7, 13, 0, 0, 0, 0, 0, [])),
  (9, (.iconst 1, 0, 0, 0, 0, 1, 0, [])),
  (10, (.goto 4, 14, 0, 0, 0, 0, 0, [])),
  (13, (.iconst 0, 0, 0, 0, 0, 0, 0, [])),
  (14, (.istore 6, 6, 0, 0, 0, 0, 0, [])),
  (16, (.iconst 0, 0, 0, 0, 0, 0, 0, [])),
  (17, (.istore 7, 7, 0, 0, 0, 0, 0, [])),
  (19, (.iload 7, 7, 0, 0, 0, 0, 0, [])),
  (21, (.aload_n 0, 0, 0, 0, 0, 0, 0, [])),
  (22, (.getfield 41, 7, 12, 0, 2, 0, 0, [])),
  (25, (.iload_n 1, 1, 0, 0, 0, 0, 0, [])),
  (26, (.iaload, 0, 0, 0, 0, 0, 0, [])),
  (27, (.if_icmp .ge 75, 102, 0, 0, 0, 0, 0, [])),
  (30, (.iload 6, 6, 0, 0, 0, 0, 0, [])),
  (32, (.ifCond .ne 57, 89, 0, 0, 0, 0, 0, [])),
  (35, (.aload_n 0, 0, 0, 0, 0, 0, 0, [])),
  (36, (.getfield 44, 7, 13, 0, 2, 0, 0, [])),
  (39, (.bipush 8, 0, 0, 0, 0, 8, 0, [])),
  (41, (.iload_n 1, 1, 0, 0, 0, 0, 0, [])),
  (42, (.imul, 0, 0, 0, 0, 0, 0, [])),
  (43, (.iload 7, 7, 0, 0, 0, 0, 0, [])),
  (45, (.iadd, 0, 0, 0, 0, 0, 0, [])),
  (46, (.laload, 0, 0, 0, 0, 0, 0, [])),
  (47, (.lload_n 2, 2, 0, 0, 0, 0, 0, [])),
  (48, (.lcmp, 0, 0, 0, 0, 0, 0, [])),
  (49, (.ifCond .gt 44, 93, 0, 0, 0, 0, 0, [])),
  (52, (.aload_n 0, 0, 0, 0, 0, 0, 0, [])),
  (53, (.getfield 47, 7, 14, 0, 2, 0, 0, [])),
  (56, (.bipush 8, 0, 0, 0, 0, 8, 0, [])),
  (58, (.iload_n 1, 1, 0, 0, 0, 0, 0, [])),
  (59, (.imul, 0, 0, 0, 0, 0, 0, [])),
  (60, (.iload 7, 7, 0, 0, 0, 0, 0, [])),
  (62, (.iadd, 0, 0, 0, 0, 0, 0, [])),
  (63, (.laload, 0, 0, 0, 0, 0, 0, [])),
  (64, (.lload_n 2, 2, 0, 0, 0, 0, 0, [])),
  (65, (.lload 4, 4, 0, 0, 0, 0, 0, [])),
  (67, (.ladd, 0, 0, 0, 0, 0, 0, [])),
  (68, (.lcmp, 0, 0, 0, 0, 0, 0, [])),
  (69, (.ifCond .lt 24, 93, 0, 0, 0, 0, 0, [])),
  (72, (.aload_n 0, 0, 0, 0, 0, 0, 0, [])),
  (73, (.getfield 47, 7, 14, 0, 2, 0, 0, [])),
  (76, (.bipush 8, 0, 0, 0, 0, 8, 0, [])),
  (78, (.iload_n 1, 1, 0, 0, 0, 0, 0, [])),
  (79, (.imul, 0, 0, 0, 0, 0, 0, [])),
  (80, (.iload 7, 7, 0, 0, 0, 0, 0, [])),
  (82, (.iadd, 0, 0, 0, 0, 0, 0, [])),
  (83, (.laload, 0, 0, 0, 0, 0, 0, [])),
  (84, (.lload_n 2, 2, 0, 0, 0, 0, 0, [])),
  (85, (.lcmp, 0, 0, 0, 0, 0, 0, [])),
  (86, (.ifCond .le 7, 93, 0, 0, 0, 0, 0, [])),
  (89, (.iconst 1, 0, 0, 0, 0, 1, 0, [])),
  (90, (.goto 4, 94, 0, 0, 0, 0, 0, [])),
  (93, (.iconst 0, 0, 0, 0, 0, 0, 0, [])),
  (94, (.istore 6, 6, 0, 0, 0, 0, 0, [])),
  (96, (.iinc 7 1, 7, 0, 0, 0, 1, 0, [])),
  (99, (.goto (-80), 19, 0, 0, 0, 0, 0, [])),
  (102, (.iload 6, 6, 0, 0, 0, 0, 0, [])),
  (104, (.ireturn, 0, 0, 0, 1, 0, 0, []))]
def pg_M_begin : List (Nat × am_E) := [(0, (.bipush 8, 0, 0, 0, 0, 8, 0, [])),
  (2, (.iload_n 1, 1, 0, 0, 0, 0, 0, [])),
  (3, (.imul, 0, 0, 0, 0, 0, 0, [])),
  (4, (.iload_n 2, 2, 0, 0, 0, 0, 0, [])),
  (5, (.iadd, 0, 0, 0, 0, 0, 0, [])),
  (6, (.istore_n 3, 3, 0, 0, 0, 0, 0, [])),
  (7, (.aload_n 0, 0, 0, 0, 0, 0, 0, [])),
  (8, (.getfield 22, 7, 6, 0, 2, 0, 0, [])),
  (11, (.iload_n 1, 1, 0, 0, 0, 0, 0, [])),
  (12, (.aload_n 0, 0, 0, 0, 0, 0, 0, [])),
  (13, (.getfield 38, 7, 11, 0, 2, 0, 0, [])),
  (16, (.bipush 16, 0, 0, 0, 0, 16, 0, [])),
  (18, (.iload_n 3, 3, 0, 0, 0, 0, 0, [])),
  (19, (.imul, 0, 0, 0, 0, 0, 0, [])),
  (20, (.iaload, 0, 0, 0, 0, 0, 0, [])),
  (21, (.iastore, 0, 0, 0, 0, 0, 0, [])),
  (22, (.aload_n 0, 0, 0, 0, 0, 0, 0, [])),
  (23, (.getfield 26, 7, 7, 0, 2, 0, 0, [])),
  (26, (.iload_n 1, 1, 0, 0, 0, 0, 0, [])),
  (27, (.iload_n 2, 2, 0, 0, 0, 0, 0, [])),
  (28, (.iastore, 0, 0, 0, 0, 0, 0, [])),
  (29, (.aload_n 0, 0, 0, 0, 0, 0, 0, [])),
  (30, (.getfield 29, 7, 8, 0, 2, 0, 0, [])),
  (33, (.iload_n 1, 1, 0, 0, 0, 0, 0, [])),
  (34, (.aload_n 0, 0, 0, 0, 0, 0, 0, [])),
  (35, (.getfield 110, 7, 3, 0, 1, 0, 0, [])),
  (38, (.lastore, 0, 0, 0, 0, 0, 0, [])),
  (39, (.aload_n 0, 0, 0, 0, 0, 0, 0, [])),
  (40, (.getfield 32, 7, 9, 0, 2, 0, 0, [])),
  (43, (.iload_n 1, 1, 0, 0, 0, 0, 0, [])),
  (44, (.aload_n 0, 0, 0, 0, 0, 0, 0, [])),
  (45, (.getfield 110, 7, 3, 0, 1, 0, 0, [])),
  (48, (.aload_n 0, 0, 0, 0, 0, 0, 0, [])),
  (49, (.iload_n 1, 1, 0, 0, 0, 0, 0, [])),
  (50, (.aload_n 0, 0, 0, 0, 0, 0, 0, [])),
  (51, (.getfield 22, 7, 6, 0, 2, 0, 0, [])),
  (54, (.iload_n 1, 1, 0, 0, 0, 0, 0, [])),
  (55, (.iaload, 0, 0, 0, 0, 0, 0, [])),
  (56, (.invokevirtual 137, 84, 2, 7, 2, 0, 0, [])),
  (59, (.ladd, 0, 0, 0, 0, 0, 0, [])),
  (60, (.lastore, 0, 0, 0, 0, 0, 0, [])),
  (61, (.aload_n 0, 0, 0, 0, 0, 0, 0, [])),
  (62, (.getfield 35, 7, 10, 0, 2, 0, 0, [])),
  (65, (.iload_n 3, 3, 0, 0, 0, 0, 0, [])),
  (66, (.dup2, 0, 0, 0, 0, 0, 0, [])),
  (67, (.iaload, 0, 0, 0, 0, 0, 0, [])),
  (68, (.iconst 1, 0, 0, 0, 0, 1, 0, [])),
  (69, (.isub, 0, 0, 0, 0, 0, 0, [])),
  (70, (.iastore, 0, 0, 0, 0, 0, 0, [])),
  (71, (.iconst 0, 0, 0, 0, 0, 0, 0, [])),
  (72, (.istore 4, 4, 0, 0, 0, 0, 0, [])),
  (74, (.iload 4, 4, 0, 0, 0, 0, 0, [])),
  (76, (.aload_n 0, 0, 0, 0, 0, 0, 0, [])),
  (77, (.getfield 35, 7, 10, 0, 2, 0, 0, [])),
  (80, (.iload_n 3, 3, 0, 0, 0, 0, 0, [])),
  (81, (.iaload, 0, 0, 0, 0, 0, 0, [])),
  (82, (.if_icmp .ge 35, 117, 0, 0, 0, 0, 0, [])),
  (85, (.aload_n 0, 0, 0, 0, 0, 0, 0, [])),
  (86, (.getfield 38, 7, 11, 0, 2, 0, 0, [])),
  (89, (.bipush 16, 0, 0, 0, 0, 16, 0, [])),
  (91, (.iload_n 3, 3, 0, 0, 0, 0, 0, [])),
  (92, (.imul, 0, 0, 0, 0, 0, 0, [])),
  (93, (.iload 4, 4, 0, 0, 0, 0, 0, [])),
  (95, (.iadd, 0, 0, 0, 0, 0, 0, [])),
  (96, (.aload_n 0, 0, 0, 0, 0, 0, 0, [])),
  (97, (.getfield 38, 7, 11, 0, 2, 0, 0, [])),
  (100, (.bipush 16, 0, 0, 0, 0, 16, 0, [])),
  (102, (.iload_n 3, 3, 0, 0, 0, 0, 0, [])),
  (103, (.imul, 0, 0, 0, 0, 0, 0, [])),
  (104, (.iload 4, 4, 0, 0, 0, 0, 0, [])),
  (106, (.iadd, 0, 0, 0, 0, 0, 0, [])),
  (107, (.iconst 1, 0, 0, 0, 0, 1, 0, [])),
  (108, (.iadd, 0, 0, 0, 0, 0, 0, [])),
  (109, (.iaload, 0, 0, 0, 0, 0, 0, [])),
  (110, (.iastore, 0, 0, 0, 0, 0, 0, [])),
  (111, (.iinc 4 1, 4, 0, 0, 0, 1, 0, [])),
  (114, (.goto (-40), 74, 0, 0, 0, 0, 0, [])),
  (117, (.return_, 0, 0, 0, 0, 0, 0, []))]
def pg_M_left : List (Nat × am_E) := [(0, (.aload_n 0, 0, 0, 0, 0, 0, 0, [])),
  (1, (.iconst 0, 0, 0, 0, 0, 0, 0, [])),
  (2, (.putfield 93, 7, 0, 0, 0, 0, 0, [])),
  (5, (.iload_n 1, 1, 0, 0, 0, 0, 0, [])),
  (6, (.iconst (-1), 0, 0, 0, 0, (-1), 0, [])),
  (7, (.if_icmp .ne 12, 19, 0, 0, 0, 0, 0, [])),
  (10, (.iload_n 2, 2, 0, 0, 0, 0, 0, [])),
  (11, (.ifCond .ne 8, 19, 0, 0, 0, 0, 0, [])),
  (14, (.aload_n 0, 0, 0, 0, 0, 0, 0, [])),
  (15, (.getfield 148, 7, 27, 0, 0, 0, 0, [])),
  (18, (.ireturn, 0, 0, 0, 0, 0, 0, [])),
  (19, (.iload_n 1, 1, 0, 0, 0, 0, 0, [])),
  (20, (.ifCond .lt 11, 31, 0, 0, 0, 0, 0, [])),
  (23, (.iload_n 1, 1, 0, 0, 0, 0, 0, [])),
  (24, (.aload_n 0, 0, 0, 0, 0, 0, 0, [])),
  (25, (.getfield 145, 7, 28, 0, 0, 0, 0, [])),
  (28, (.if_icmp .lt 5, 33, 0, 0, 0, 0, 0, [])),
  (31, (.iconst (-1), 0, 0, 0, 0, (-1), 0, [])),
  (32, (.ireturn, 0, 0, 0, 0, 0, 0, [])),
  (33, (.iload_n 2, 2, 0, 0, 0, 0, 0, [])),
  (34, (.ifCond .lt 8, 42, 0, 0, 0, 0, 0, [])),
  (37, (.iload_n 2, 2, 0, 0, 0, 0, 0, [])),
  (38, (.iconst 3, 0, 0, 0, 0, 3, 0, [])),
  (39, (.if_icmp .le 8, 47, 0, 0, 0, 0, 0, [])),
  (42, (.bipush (-2), 0, 0, 0, 0, (-2), 0, [])),
  (44, (.goto 13, 57, 0, 0, 0, 0, 0, [])),
  (47, (.aload_n 0, 0, 0, 0, 0, 0, 0, [])),
  (48, (.getfield 83, 7, 29, 0, 2, 0, 0, [])),
  (51, (.iconst 4, 0, 0, 0, 0, 4, 0, [])),
  (52, (.iload_n 1, 1, 0, 0, 0, 0, 0, [])),
  (53, (.imul, 0, 0, 0, 0, 0, 0, [])),
  (54, (.iload_n 2, 2, 0, 0, 0, 0, 0, [])),
  (55, (.iadd, 0, 0, 0, 0, 0, 0, [])),
  (56, (.iaload, 0, 0, 0, 0, 0, 0, [])),
  (57, (.ireturn, 0, 0, 0, 0, 0, 0, []))]
def pg_M_dropped : List (Nat × am_E) := [(0, (.aload_n 0, 0, 0, 0, 0, 0, 0, [])),
  (1, (.iconst 0, 0, 0, 0, 0, 0, 0, [])),
  (2, (.putfield 93, 7, 0, 0, 0, 0, 0, [])),
  (5, (.iload_n 1, 1, 0, 0, 0, 0, 0, [])),
  (6, (.ifCond .lt 8, 14, 0, 0, 0, 0, 0, [])),
  (9, (.iload_n 1, 1, 0, 0, 0, 0, 0, [])),
  (10, (.iconst 3, 0, 0, 0, 0, 3, 0, [])),
  (11, (.if_icmp .le 8, 19, 0, 0, 0, 0, 0, [])),
  (14, (.bipush (-2), 0, 0, 0, 0, (-2), 0, [])),
  (16, (.goto 9, 25, 0, 0, 0, 0, 0, [])),
  (19, (.aload_n 0, 0, 0, 0, 0, 0, 0, [])),
  (20, (.getfield 86, 7, 30, 0, 2, 0, 0, [])),
  (23, (.iload_n 1, 1, 0, 0, 0, 0, 0, [])),
  (24, (.iaload, 0, 0, 0, 0, 0, 0, [])),
  (25, (.ireturn, 0, 0, 0, 0, 0, 0, []))]
def pg_W_law : List (Nat × am_E) := [(0, (.new 8, 0, 11, 0, 0, 0, 0, [])),
  (3, (.dup, 0, 0, 0, 0, 0, 0, [])),
  (4, (.aload_n 0, 0, 0, 0, 0, 0, 0, [])),
  (5, (.iconst 0, 0, 0, 0, 0, 0, 0, [])),
  (6, (.invokestatic 15, 63, 2, 0, 1, 0, 0, [])),
  (9, (.invokespecial 21, 1, 1, 0, 0, 0, 0, [])),
  (12, (.astore_n 1, 1, 0, 0, 0, 0, 0, [])),
  (13, (.new 24, 7, 31, 0, 0, 0, 0, [])),
  (16, (.dup, 0, 0, 0, 0, 0, 0, [])),
  (17, (.aload_n 0, 0, 0, 0, 0, 0, 0, [])),
  (18, (.iconst 0, 0, 0, 0, 0, 0, 0, [])),
  (19, (.invokestatic 15, 63, 2, 0, 1, 0, 0, [])),
  (22, (.invokespecial 26, 65, 1, 0, 0, 0, 0, [])),
  (25, (.astore_n 2, 2, 0, 0, 0, 0, 0, [])),
  (26, (.iconst 1, 0, 0, 0, 0, 1, 0, [])),
  (27, (.newarray .long, 2, 0, 0, 0, 0, 0, [])),
  (29, (.astore_n 3, 3, 0, 0, 0, 0, 0, [])),
  (30, (.iconst 1, 0, 0, 0, 0, 1, 0, [])),
  (31, (.istore 4, 4, 0, 0, 0, 0, 0, [])),
  (33, (.iload 4, 4, 0, 0, 0, 0, 0, [])),
  (35, (.aload_n 0, 0, 0, 0, 0, 0, 0, [])),
  (36, (.arraylength, 0, 0, 0, 0, 0, 0, [])),
  (37, (.bipush 7, 0, 0, 0, 0, 7, 0, [])),
  (39, (.isub, 0, 0, 0, 0, 0, 0, [])),
  (40, (.if_icmp .gt 925, 965, 0, 0, 0, 0, 0, [])),
  (43, (.aload_n 0, 0, 0, 0, 0, 0, 0, [])),
  (44, (.iload 4, 4, 0, 0, 0, 0, 0, [])),
  (46, (.iaload, 0, 0, 0, 0, 0, 0, [])),
  (47, (.bipush 15, 0, 0, 0, 0, 15, 0, [])),
  (49, (.iand, 0, 0, 0, 0, 0, 0, [])),
  (50, (.tableswitch 909 0 11 #[62, 131, 258, 346, 407, 464, 501, 582, 709, 778, 847, 872], 959, 0, 0, 0, 0, 0, [(0, 112), (1, 181), (2, 308), (3, 396), (4, 457), (5, 514), (6, 551), (7, 632), (8, 759), (9, 828), (10, 897), (11, 922)])),
  (112, (.aload_n 1, 1, 0, 0, 0, 0, 0, [])),
  (113, (.aload_n 0, 0, 0, 0, 0, 0, 0, [])),
  (114, (.iload 4, 4, 0, 0, 0, 0, 0, [])),
  (116, (.iconst 1, 0, 0, 0, 0, 1, 0, [])),
  (117, (.iadd, 0, 0, 0, 0, 0, 0, [])),
  (118, (.iaload, 0, 0, 0, 0, 0, 0, [])),
  (119, (.aload_n 0, 0, 0, 0, 0, 0, 0, [])),
  (120, (.iload 4, 4, 0, 0, 0, 0, 0, [])),
  (122, (.iconst 2, 0, 0, 0, 0, 2, 0, [])),
  (123, (.iadd, 0, 0, 0, 0, 0, 0, [])),
  (124, (.iaload, 0, 0, 0, 0, 0, 0, [])),
  (125, (.i2l, 0, 0, 0, 0, 0, 0, [])),
  (126, (.bipush 32, 0, 0, 0, 0, 32, 0, [])),
  (128, (.lshl, 0, 0, 0, 0, 0, 0, [])),
  (129, (.aload_n 0, 0, 0, 0, 0, 0, 0, [])),
  (130, (.iload 4, 4, 0, 0, 0, 0, 0, [])),
  (132, (.iconst 3, 0, 0, 0, 0, 3, 0, [])),
  (133, (.iadd, 0, 0, 0, 0, 0, 0, [])),
  (134, (.iaload, 0, 0, 0, 0, 0, 0, [])),
  (135, (.i2l, 0, 0, 0, 0, 0, 0, [])),
  (136, (.ldc2_w 27, 0, 0, 0, 0, 0, 4294967295, [])),
  (139, (.land, 0, 0, 0, 0, 0, 0, [])),
  (140, (.lor, 0, 0, 0, 0, 0, 0, [])),
  (141, (.invokevirtual 29, 7, 2, 0, 1, 0, 0, [])),
  (144, (.aload_n 2, 2, 0, 0, 0, 0, 0, [])),
  (145, (.aload_n 0, 0, 0, 0, 0, 0, 0, [])),
  (146, (.iload 4, 4, 0, 0, 0, 0, 0, [])),
  (148, (.iconst 1, 0, 0, 0, 0, 1, 0, [])),
  (149, (.iadd, 0, 0, 0, 0, 0, 0, [])),
  (150, (.iaload, 0, 0, 0, 0, 0, 0, [])),
  (151, (.aload_n 0, 0, 0, 0, 0, 0, 0, [])),
  (152, (.iload 4, 4, 0, 0, 0, 0, 0, [])),
  (154, (.iconst 2, 0, 0, 0, 0, 2, 0, [])),
  (155, (.iadd, 0, 0, 0, 0, 0, 0, [])),
  (156, (.iaload, 0, 0, 0, 0, 0, 0, [])),
  (157, (.i2l, 0, 0, 0, 0, 0, 0, [])),
  (158, (.bipush 32, 0, 0, 0, 0, 32, 0, [])),
  (160, (.lshl, 0, 0, 0, 0, 0, 0, [])),
  (161, (.aload_n 0, 0, 0, 0, 0, 0, 0, [])),
  (162, (.iload 4, 4, 0, 0, 0, 0, 0, [])),
  (164, (.iconst 3, 0, 0, 0, 0, 3, 0, [])),
  (165, (.iadd, 0, 0, 0, 0, 0, 0, [])),
  (166, (.iaload, 0, 0, 0, 0, 0, 0, [])),
  (167, (.i2l, 0, 0, 0, 0, 0, 0, [])),
  (168, (.ldc2_w 27, 0, 0, 0, 0, 0, 4294967295, [])),
  (171, (.land, 0, 0, 0, 0, 0, 0, [])),
  (172, (.lor, 0, 0, 0, 0, 0, 0, [])),
  (173, (.invokevirtual 33, 67, 2, 7, 1, 0, 0, [])),
  (176, (.if_icmp .eq 783, 959, 0, 0, 0, 0, 0, [])),
  (179, (.iconst 0, 0, 0, 0, 0, 0, 0, [])),
  (180, (.ireturn, 0, 0, 0, 1, 0, 0, [])),
  (181, (.aload_n 1, 1, 0, 0, 0, 0, 0, [])),
  (182, (.aload_n 0, 0, 0, 0, 0, 0, 0, [])),
  (183, (.iload 4, 4, 0, 0, 0, 0, 0, [])),
  (185, (.iconst 1, 0, 0, 0, 0, 1, 0, [])),
  (186, (.iadd, 0, 0, 0, 0, 0, 0, [])),
  (187, (.iaload, 0, 0, 0, 0, 0, 0, [])),
  (188, (.aload_n 0, 0, 0, 0, 0, 0, 0, [])),
  (189, (.iload 4, 4, 0, 0, 0, 0, 0, [])),
  (191, (.iconst 2, 0, 0, 0, 0, 2, 0, [])),
  (192, (.iadd, 0, 0, 0, 0, 0, 0, [])),
  (193, (.iaload, 0, 0, 0, 0, 0, 0, [])),
  (194, (.aload_n 0, 0, 0, 0, 0, 0, 0, [])),
  (195, (.iload 4, 4, 0, 0, 0, 0, 0, [])),
  (197, (.iconst 3, 0, 0, 0, 0, 3, 0, [])),
  (198, (.iadd, 0, 0, 0, 0, 0, 0, [])),
  (199, (.iaload, 0, 0, 0, 0, 0, 0, [])),
  (200, (.i2l, 0, 0, 0, 0, 0, 0, [])),
  (201, (.bipush 32, 0, 0, 0, 0, 32, 0, [])),
  (203, (.lshl, 0, 0, 0, 0, 0, 0, [])),
  (204, (.aload_n 0, 0, 0, 0, 0, 0, 0, [])),
  (205, (.iload 4, 4, 0, 0, 0, 0, 0, [])),
  (207, (.iconst 4, 0, 0, 0, 0, 4, 0, [])),
  (208, (.iadd, 0, 0, 0, 0, 0, 0, [])),
  (209, (.iaload, 0, 0, 0, 0, 0, 0, [])),
  (210, (.i2l, 0, 0, 0, 0, 0, 0, [])),
  (211, (.ldc2_w 27, 0, 0, 0, 0, 0, 4294967295, [])),
  (214, (.land, 0, 0, 0, 0, 0, 0, [])),
  (215, (.lor, 0, 0, 0, 0, 0, 0, [])),
  (216, (.aload_n 0, 0, 0, 0, 0, 0, 0, [])),
  (217, (.iload 4, 4, 0, 0, 0, 0, 0, [])),
  (219, (.iconst 5, 0, 0, 0, 0, 5, 0, [])),
  (220, (.iadd, 0, 0, 0, 0, 0, 0, [])),
  (221, (.iaload, 0, 0, 0, 0, 0, 0, [])),
  (222, (.i2l, 0, 0, 0, 0, 0, 0, [])),
  (223, (.bipush 32, 0, 0, 0, 0, 32, 0, [])),
  (225, (.lshl, 0, 0, 0, 0, 0, 0, [])),
  (226, (.aload_n 0, 0, 0, 0, 0, 0, 0, [])),
  (227, (.iload 4, 4, 0, 0, 0, 0, 0, [])),
  (229, (.bipush 6, 0, 0, 0, 0, 6, 0, [])),
  (231, (.iadd, 0, 0, 0, 0, 0, 0, [])),
  (232, (.iaload, 0, 0, 0, 0, 0, 0, [])),
  (233, (.i2l, 0, 0, 0, 0, 0, 0, [])),
  (234, (.ldc2_w 27, 0, 0, 0, 0, 0, 4294967295, [])),
  (237, (.land, 0, 0, 0, 0, 0, 0, [])),
  (238, (.lor, 0, 0, 0, 0, 0, 0, [])),
  (239, (.invokevirtual 34, 11, 4, 0, 1, 0, 0, [])),
  (242, (.aload_n 2, 2, 0, 0, 0, 0, 0, [])),
  (243, (.aload_n 0, 0, 0, 0, 0, 0, 0, [])),
  (244, (.iload 4, 4, 0, 0, 0, 0, 0, [])),
  (246, (.iconst 1, 0, 0, 0, 0, 1, 0, [])),
  (247, (.iadd, 0, 0, 0, 0, 0, 0, [])),
  (248, (.iaload, 0, 0, 0, 0, 0, 0, [])),
  (249, (.aload_n 0, 0, 0, 0, 0, 0, 0, [])),
  (250, (.iload 4, 4, 0, 0, 0, 0, 0, [])),
  (252, (.iconst 2, 0, 0, 0, 0, 2, 0, [])),
  (253, (.iadd, 0, 0, 0, 0, 0, 0, [])),
  (254, (.iaload, 0, 0, 0, 0, 0, 0, [])),
  (255, (.aload_n 0, 0, 0, 0, 0, 0, 0, [])),
  (256, (.iload 4, 4, 0, 0, 0, 0, 0, [])),
  (258, (.iconst 3, 0, 0, 0, 0, 3, 0, [])),
  (259, (.iadd, 0, 0, 0, 0, 0, 0, [])),
  (260, (.iaload, 0, 0, 0, 0, 0, 0, [])),
  (261, (.i2l, 0, 0, 0, 0, 0, 0, [])),
  (262, (.bipush 32, 0, 0, 0, 0, 32, 0, [])),
  (264, (.lshl, 0, 0, 0, 0, 0, 0, [])),
  (265, (.aload_n 0, 0, 0, 0, 0, 0, 0, [])),
  (266, (.iload 4, 4, 0, 0, 0, 0, 0, [])),
  (268, (.iconst 4, 0, 0, 0, 0, 4, 0, [])),
  (269, (.iadd, 0, 0, 0, 0, 0, 0, [])),
  (270, (.iaload, 0, 0, 0, 0, 0, 0, [])),
  (271, (.i2l, 0, 0, 0, 0, 0, 0, [])),
  (272, (.ldc2_w 27, 0, 0, 0, 0, 0, 4294967295, [])),
  (275, (.land, 0, 0, 0, 0, 0, 0, [])),
  (276, (.lor, 0, 0, 0, 0, 0, 0, [])),
  (277, (.aload_n 0, 0, 0, 0, 0, 0, 0, [])),
  (278, (.iload 4, 4, 0, 0, 0, 0, 0, [])),
  (280, (.iconst 5, 0, 0, 0, 0, 5, 0, [])),
  (281, (.iadd, 0, 0, 0, 0, 0, 0, [])),
  (282, (.iaload, 0, 0, 0, 0, 0, 0, [])),
  (283, (.i2l, 0, 0, 0, 0, 0, 0, [])),
  (284, (.bipush 32, 0, 0, 0, 0, 32, 0, [])),
  (286, (.lshl, 0, 0, 0, 0, 0, 0, [])),
  (287, (.aload_n 0, 0, 0, 0, 0, 0, 0, [])),
  (288, (.iload 4, 4, 0, 0, 0, 0, 0, [])),
  (290, (.bipush 6, 0, 0, 0, 0, 6, 0, [])),
  (292, (.iadd, 0, 0, 0, 0, 0, 0, [])),
  (293, (.iaload, 0, 0, 0, 0, 0, 0, [])),
  (294, (.i2l, 0, 0, 0, 0, 0, 0, [])),
  (295, (.ldc2_w 27, 0, 0, 0, 0, 0, 4294967295, [])),
  (298, (.land, 0, 0, 0, 0, 0, 0, [])),
  (299, (.lor, 0, 0, 0, 0, 0, 0, [])),
  (300, (.invokevirtual 38, 69, 4, 7, 1, 0, 0, [])),
  (303, (.if_icmp .eq 656, 959, 0, 0, 0, 0, 0, [])),
  (306, (.iconst 0, 0, 0, 0, 0, 0, 0, [])),
  (307, (.ireturn, 0, 0, 0, 1, 0, 0, [])),
  (308, (.aload_n 1, 1, 0, 0, 0, 0, 0, [])),
  (309, (.aload_n 0, 0, 0, 0, 0, 0, 0, [])),
  (310, (.iload 4, 4, 0, 0, 0, 0, 0, [])),
  (312, (.iconst 1, 0, 0, 0, 0, 1, 0, [])),
  (313, (.iadd, 0, 0, 0, 0, 0, 0, [])),
  (314, (.iaload, 0, 0, 0, 0, 0, 0, [])),
  (315, (.i2l, 0, 0, 0, 0, 0, 0, [])),
  (316, (.bipush 32, 0, 0, 0, 0, 32, 0, [])),
  (318, (.lshl, 0, 0, 0, 0, 0, 0, [])),
  (319, (.aload_n 0, 0, 0, 0, 0, 0, 0, [])),
  (320, (.iload 4, 4, 0, 0, 0, 0, 0, [])),
  (322, (.iconst 2, 0, 0, 0, 0, 2, 0, [])),
  (323, (.iadd, 0, 0, 0, 0, 0, 0, [])),
  (324, (.iaload, 0, 0, 0, 0, 0, 0, [])),
  (325, (.i2l, 0, 0, 0, 0, 0, 0, [])),
  (326, (.ldc2_w 27, 0, 0, 0, 0, 0, 4294967295, [])),
  (329, (.land, 0, 0, 0, 0, 0, 0, [])),
  (330, (.lor, 0, 0, 0, 0, 0, 0, [])),
  (331, (.aload_n 3, 3, 0, 0, 0, 0, 0, [])),
  (335, (.istore 5, 5, 0, 0, 0, 0, 0, [])),
  (337, (.aload_n 2, 2, 0, 0, 0, 0, 0, [])),
  (338, (.aload_n 0, 0, 0, 0, 0, 0, 0, [])),
  (339, (.iload 4, 4, 0, 0, 0, 0, 0, [])),
  (341, (.iconst 1, 0, 0, 0, 0, 1, 0, [])),
  (342, (.iadd, 0, 0, 0, 0, 0, 0, [])),
  (343, (.iaload, 0, 0, 0, 0, 0, 0, [])),
  (344, (.i2l, 0, 0, 0, 0, 0, 0, [])),
  (345, (.bipush 32, 0, 0, 0, 0, 32, 0, [])),
  (347, (.lshl, 0, 0, 0, 0, 0, 0, [])),
  (348, (.aload_n 0, 0, 0, 0, 0, 0, 0, [])),
  (349, (.iload 4, 4, 0, 0, 0, 0, 0, [])),
  (351, (.iconst 2, 0, 0, 0, 0, 2, 0, [])),
  (352, (.iadd, 0, 0, 0, 0, 0, 0, [])),
  (353, (.iaload, 0, 0, 0, 0, 0, 0, [])),
  (354, (.i2l, 0, 0, 0, 0, 0, 0, [])),
  (355, (.ldc2_w 27, 0, 0, 0, 0, 0, 4294967295, [])),
  (358, (.land, 0, 0, 0, 0, 0, 0, [])),
  (359, (.lor, 0, 0, 0, 0, 0, 0, [])),
  (360, (.invokevirtual 42, 71, 1, 7, 1, 0, 0, [])),
  (363, (.istore 6, 6, 0, 0, 0, 0, 0, [])),
  (365, (.aload_n 2, 2, 0, 0, 0, 0, 0, [])),
  (366, (.invokevirtual 43, 66, 0, 7, 1, 0, 0, [])),
  (369, (.iload 5, 5, 0, 0, 0, 0, 0, [])),
  (371, (.if_icmp .eq 5, 376, 0, 0, 0, 0, 0, [])),
  (374, (.iconst 0, 0, 0, 0, 0, 0, 0, [])),
  (375, (.ireturn, 0, 0, 0, 1, 0, 0, [])),
  (376, (.iload 5, 5, 0, 0, 0, 0, 0, [])),
  (378, (.ifCond .ne 15, 393, 0, 0, 0, 0, 0, [])),
  (381, (.aload_n 3, 3, 0, 0, 0, 0, 0, [])),
  (382, (.iconst 0, 0, 0, 0, 0, 0, 0, [])),
  (383, (.laload, 0, 0, 0, 0, 0, 0, [])),
  (384, (.iload 6, 6, 0, 0, 0, 0, 0, [])),
  (386, (.i2l, 0, 0, 0, 0, 0, 0, [])),
  (387, (.lcmp, 0, 0, 0, 0, 0, 0, [])),
  (388, (.ifCond .eq 5, 393, 0, 0, 0, 0, 0, [])),
  (391, (.iconst 0, 0, 0, 0, 0, 0, 0, [])),
  (392, (.ireturn, 0, 0, 0, 1, 0, 0, [])),
  (393, (.goto 566, 959, 0, 0, 0, 0, 0, [])),
  (396, (.aload_n 1, 1, 0, 0, 0, 0, 0, [])),
  (397, (.aload_n 0, 0, 0, 0, 0, 0, 0, [])),
  (398, (.iload 4, 4, 0, 0, 0, 0, 0, [])),
  (400, (.iconst 1, 0, 0, 0, 0, 1, 0, [])),
  (401, (.iadd, 0, 0, 0, 0, 0, 0, [])),
  (402, (.iaload, 0, 0, 0, 0, 0, 0, [])),
  (403, (.aload_n 0, 0, 0, 0, 0, 0, 0, [])),
  (404, (.iload 4, 4, 0, 0, 0, 0, 0, [])),
  (406, (.iconst 2, 0, 0, 0, 0, 2, 0, [])),
  (407, (.iadd, 0, 0, 0, 0, 0, 0, [])),
  (408, (.iaload, 0, 0, 0, 0, 0, 0, [])),
  (409, (.aload_n 0, 0, 0, 0, 0, 0, 0, [])),
  (410, (.iload 4, 4, 0, 0, 0, 0, 0, [])),
  (412, (.iconst 3, 0, 0, 0, 0, 3, 0, [])),
  (413, (.iadd, 0, 0, 0, 0, 0, 0, [])),
  (414, (.iaload, 0, 0, 0, 0, 0, 0, [])),
  (415, (.aload_n 0, 0, 0, 0, 0, 0, 0, [])),
  (416, (.iload 4, 4, 0, 0, 0, 0, 0, [])),
  (418, (.iconst 4, 0, 0, 0, 0, 4, 0, [])),
  (419, (.iadd, 0, 0, 0, 0, 0, 0, [])),
  (420, (.iaload, 0, 0, 0, 0, 0, 0, [])),
  (421, (.invokevirtual 47, 14, 4, 0, 1, 0, 0, [])),
  (424, (.aload_n 2, 2, 0, 0, 0, 0, 0, [])),
  (425, (.aload_n 0, 0, 0, 0, 0, 0, 0, [])),
  (426, (.iload 4, 4, 0, 0, 0, 0, 0, [])),
  (428, (.iconst 1, 0, 0, 0, 0, 1, 0, [])),
  (429, (.iadd, 0, 0, 0, 0, 0, 0, [])),
  (430, (.iaload, 0, 0, 0, 0, 0, 0, [])),
  (431, (.aload_n 0, 0, 0, 0, 0, 0, 0, [])),
  (432, (.iload 4, 4, 0, 0, 0, 0, 0, [])),
  (434, (.iconst 2, 0, 0, 0, 0, 2, 0, [])),
  (435, (.iadd, 0, 0, 0, 0, 0, 0, [])),
  (436, (.iaload, 0, 0, 0, 0, 0, 0, [])),
  (437, (.aload_n 0, 0, 0, 0, 0, 0, 0, [])),
  (438, (.iload 4, 4, 0, 0, 0, 0, 0, [])),
  (440, (.iconst 3, 0, 0, 0, 0, 3, 0, [])),
  (441, (.iadd, 0, 0, 0, 0, 0, 0, [])),
  (442, (.iaload, 0, 0, 0, 0, 0, 0, [])),
  (443, (.aload_n 0, 0, 0, 0, 0, 0, 0, [])),
  (444, (.iload 4, 4, 0, 0, 0, 0, 0, [])),
  (446, (.iconst 4, 0, 0, 0, 0, 4, 0, [])),
  (447, (.iadd, 0, 0, 0, 0, 0, 0, [])),
  (448, (.iaload, 0, 0, 0, 0, 0, 0, [])),
  (449, (.invokevirtual 51, 79, 4, 7, 1, 0, 0, [])),
  (452, (.if_icmp .eq 507, 959, 0, 0, 0, 0, 0, [])),
  (455, (.iconst 0, 0, 0, 0, 0, 0, 0, [])),
  (456, (.ireturn, 0, 0, 0, 1, 0, 0, [])),
  (457, (.aload_n 1, 1, 0, 0, 0, 0, 0, [])),
  (458, (.aload_n 0, 0, 0, 0, 0, 0, 0, [])),
  (459, (.iload 4, 4, 0, 0, 0, 0, 0, [])),
  (461, (.iconst 1, 0, 0, 0, 0, 1, 0, [])),
  (462, (.iadd, 0, 0, 0, 0, 0, 0, [])),
  (463, (.iaload, 0, 0, 0, 0, 0, 0, [])),
  (464, (.i2l, 0, 0, 0, 0, 0, 0, [])),
  (465, (.bipush 32, 0, 0, 0, 0, 32, 0, [])),
  (467, (.lshl, 0, 0, 0, 0, 0, 0, [])),
  (468, (.aload_n 0, 0, 0, 0, 0, 0, 0, [])),
  (469, (.iload 4, 4, 0, 0, 0, 0, 0, [])),
  (471, (.iconst 2, 0, 0, 0, 0, 2, 0, [])),
  (472, (.iadd, 0, 0, 0, 0, 0, 0, [])),
  (473, (.iaload, 0, 0, 0, 0, 0, 0, [])),
  (474, (.i2l, 0, 0, 0, 0, 0, 0, [])),
  (475, (.ldc2_w 27, 0, 0, 0, 0, 0, 4294967295, [])),
  (478, (.land, 0, 0, 0, 0, 0, 0, [])),
  (479, (.lor, 0, 0, 0, 0, 0, 0, [])),
  (480, (.invokevirtual 52, 26, 1, 0, 1, 0, 0, [])),
  (483, (.aload_n 2, 2, 0, 0, 0, 0, 0, [])),
  (484, (.aload_n 0, 0, 0, 0, 0, 0, 0, [])),
  (485, (.iload 4, 4, 0, 0, 0, 0, 0, [])),
  (487, (.iconst 1, 0, 0, 0, 0, 1, 0, [])),
  (488, (.iadd, 0, 0, 0, 0, 0, 0, [])),
  (489, (.iaload, 0, 0, 0, 0, 0, 0, [])),
  (490, (.i2l, 0, 0, 0, 0, 0, 0, [])),
  (491, (.bipush 32, 0, 0, 0, 0, 32, 0, [])),
  (493, (.lshl, 0, 0, 0, 0, 0, 0, [])),
  (494, (.aload_n 0, 0, 0, 0, 0, 0, 0, [])),
  (495, (.iload 4, 4, 0, 0, 0, 0, 0, [])),
  (497, (.iconst 2, 0, 0, 0, 0, 2, 0, [])),
  (498, (.iadd, 0, 0, 0, 0, 0, 0, [])),
  (499, (.iaload, 0, 0, 0, 0, 0, 0, [])),
  (500, (.i2l, 0, 0, 0, 0, 0, 0, [])),
  (501, (.ldc2_w 27, 0, 0, 0, 0, 0, 4294967295, [])),
  (504, (.land, 0, 0, 0, 0, 0, 0, [])),
  (505, (.lor, 0, 0, 0, 0, 0, 0, [])),
  (506, (.invokevirtual 55, 81, 1, 7, 1, 0, 0, [])),
  (509, (.if_icmp .eq 450, 959, 0, 0, 0, 0, 0, [])),
  (512, (.iconst 0, 0, 0, 0, 0, 0, 0, [])),
  (513, (.ireturn, 0, 0, 0, 1, 0, 0, [])),
  (514, (.aload_n 1, 1, 0, 0, 0, 0, 0, [])),
  (515, (.aload_n 0, 0, 0, 0, 0, 0, 0, [])),
  (516, (.iload 4, 4, 0, 0, 0, 0, 0, [])),
  (518, (.iconst 1, 0, 0, 0, 0, 1, 0, [])),
  (519, (.iadd, 0, 0, 0, 0, 0, 0, [])),
  (520, (.iaload, 0, 0, 0, 0, 0, 0, [])),
  (521, (.aload_n 0, 0, 0, 0, 0, 0, 0, [])),
  (522, (.iload 4, 4, 0, 0, 0, 0, 0, [])),
  (524, (.iconst 2, 0, 0, 0, 0, 2, 0, [])),
  (525, (.iadd, 0, 0, 0, 0, 0, 0, [])),
  (526, (.iaload, 0, 0, 0, 0, 0, 0, [])),
  (527, (.invokevirtual 56, 49, 2, 0, 1, 0, 0, [])),
  (530, (.aload_n 2, 2, 0, 0, 0, 0, 0, [])),
  (531, (.aload_n 0, 0, 0, 0, 0, 0, 0, [])),
  (532, (.iload 4, 4, 0, 0, 0, 0, 0, [])),
  (534, (.iconst 1, 0, 0, 0, 0, 1, 0, [])),
  (535, (.iadd, 0, 0, 0, 0, 0, 0, [])),
  (536, (.iaload, 0, 0, 0, 0, 0, 0, [])),
  (537, (.aload_n 0, 0, 0, 0, 0, 0, 0, [])),
  (538, (.iload 4, 4, 0, 0, 0, 0, 0, [])),
  (540, (.iconst 2, 0, 0, 0, 0, 2, 0, [])),
  (541, (.iadd, 0, 0, 0, 0, 0, 0, [])),
  (542, (.iaload, 0, 0, 0, 0, 0, 0, [])),
  (543, (.invokevirtual 60, 87, 2, 7, 1, 0, 0, [])),
  (546, (.if_icmp .eq 413, 959, 0, 0, 0, 0, 0, [])),
  (549, (.iconst 0, 0, 0, 0, 0, 0, 0, [])),
  (550, (.ireturn, 0, 0, 0, 1, 0, 0, [])),
  (551, (.aload_n 1, 1, 0, 0, 0, 0, 0, [])),
  (552, (.aload_n 0, 0, 0, 0, 0, 0, 0, [])),
  (553, (.iload 4, 4, 0, 0, 0, 0, 0, [])),
  (555, (.iconst 1, 0, 0, 0, 0, 1, 0, [])),
  (556, (.iadd, 0, 0, 0, 0, 0, 0, [])),
  (557, (.iaload, 0, 0, 0, 0, 0, 0, [])),
  (558, (.aload_n 0, 0, 0, 0, 0, 0, 0, [])),
  (559, (.iload 4, 4, 0, 0, 0, 0, 0, [])),
  (561, (.iconst 2, 0, 0, 0, 0, 2, 0, [])),
  (562, (.iadd, 0, 0, 0, 0, 0, 0, [])),
  (563, (.iaload, 0, 0, 0, 0, 0, 0, [])),
  (564, (.aload_n 0, 0, 0, 0, 0, 0, 0, [])),
  (565, (.iload 4, 4, 0, 0, 0, 0, 0, [])),
  (567, (.iconst 3, 0, 0, 0, 0, 3, 0, [])),
  (568, (.iadd, 0, 0, 0, 0, 0, 0, [])),
  (569, (.iaload, 0, 0, 0, 0, 0, 0, [])),
  (570, (.i2l, 0, 0, 0, 0, 0, 0, [])),
  (571, (.bipush 32, 0, 0, 0, 0, 32, 0, [])),
  (573, (.lshl, 0, 0, 0, 0, 0, 0, [])),
  (574, (.aload_n 0, 0, 0, 0, 0, 0, 0, [])),
  (575, (.iload 4, 4, 0, 0, 0, 0, 0, [])),
  (577, (.iconst 4, 0, 0, 0, 0, 4, 0, [])),
  (578, (.iadd, 0, 0, 0, 0, 0, 0, [])),
  (579, (.iaload, 0, 0, 0, 0, 0, 0, [])),
  (580, (.i2l, 0, 0, 0, 0, 0, 0, [])),
  (581, (.ldc2_w 27, 0, 0, 0, 0, 0, 4294967295, [])),
  (584, (.land, 0, 0, 0, 0, 0, 0, [])),
  (585, (.lor, 0, 0, 0, 0, 0, 0, [])),
  (586, (.invokevirtual 61, 54, 3, 0, 1, 0, 0, [])),
  (589, (.aload_n 2, 2, 0, 0, 0, 0, 0, [])),
  (590, (.aload_n 0, 0, 0, 0, 0, 0, 0, [])),
  (591, (.iload 4, 4, 0, 0, 0, 0, 0, [])),
  (593, (.iconst 1, 0, 0, 0, 0, 1, 0, [])),
  (594, (.iadd, 0, 0, 0, 0, 0, 0, [])),
  (595, (.iaload, 0, 0, 0, 0, 0, 0, [])),
  (596, (.aload_n 0, 0, 0, 0, 0, 0, 0, [])),
  (597, (.iload 4, 4, 0, 0, 0, 0, 0, [])),
  (599, (.iconst 2, 0, 0, 0, 0, 2, 0, [])),
  (600, (.iadd, 0, 0, 0, 0, 0, 0, [])),
  (601, (.iaload, 0, 0, 0, 0, 0, 0, [])),
  (602, (.aload_n 0, 0, 0, 0, 0, 0, 0, [])),
  (603, (.iload 4, 4, 0, 0, 0, 0, 0, [])),
  (605, (.iconst 3, 0, 0, 0, 0, 3, 0, [])),
  (606, (.iadd, 0, 0, 0, 0, 0, 0, [])),
  (607, (.iaload, 0, 0, 0, 0, 0, 0, [])),
  (608, (.i2l, 0, 0, 0, 0, 0, 0, [])),
  (609, (.bipush 32, 0, 0, 0, 0, 32, 0, [])),
  (611, (.lshl, 0, 0, 0, 0, 0, 0, [])),
  (612, (.aload_n 0, 0, 0, 0, 0, 0, 0, [])),
  (613, (.iload 4, 4, 0, 0, 0, 0, 0, [])),
  (615, (.iconst 4, 0, 0, 0, 0, 4, 0, [])),
  (616, (.iadd, 0, 0, 0, 0, 0, 0, [])),
  (617, (.iaload, 0, 0, 0, 0, 0, 0, [])),
  (618, (.i2l, 0, 0, 0, 0, 0, 0, [])),
  (619, (.ldc2_w 27, 0, 0, 0, 0, 0, 4294967295, [])),
  (622, (.land, 0, 0, 0, 0, 0, 0, [])),
  (623, (.lor, 0, 0, 0, 0, 0, 0, [])),
  (624, (.invokevirtual 65, 72, 3, 7, 1, 0, 0, [])),
  (627, (.if_icmp .eq 332, 959, 0, 0, 0, 0, 0, [])),
  (630, (.iconst 0, 0, 0, 0, 0, 0, 0, [])),
  (631, (.ireturn, 0, 0, 0, 1, 0, 0, [])),
  (632, (.aload_n 1, 1, 0, 0, 0, 0, 0, [])),
  (633, (.aload_n 0, 0, 0, 0, 0, 0, 0, [])),
  (634, (.iload 4, 4, 0, 0, 0, 0, 0, [])),
  (636, (.iconst 1, 0, 0, 0, 0, 1, 0, [])),
  (637, (.iadd, 0, 0, 0, 0, 0, 0, [])),
  (638, (.iaload, 0, 0, 0, 0, 0, 0, [])),
  (639, (.aload_n 0, 0, 0, 0, 0, 0, 0, [])),
  (640, (.iload 4, 4, 0, 0, 0, 0, 0, [])),
  (642, (.iconst 2, 0, 0, 0, 0, 2, 0, [])),
  (643, (.iadd, 0, 0, 0, 0, 0, 0, [])),
  (644, (.iaload, 0, 0, 0, 0, 0, 0, [])),
  (645, (.aload_n 0, 0, 0, 0, 0, 0, 0, [])),
  (646, (.iload 4, 4, 0, 0, 0, 0, 0, [])),
  (648, (.iconst 3, 0, 0, 0, 0, 3, 0, [])),
  (649, (.iadd, 0, 0, 0, 0, 0, 0, [])),
  (650, (.iaload, 0, 0, 0, 0, 0, 0, [])),
  (651, (.i2l, 0, 0, 0, 0, 0, 0, [])),
  (652, (.bipush 32, 0, 0, 0, 0, 32, 0, [])),
  (654, (.lshl, 0, 0, 0, 0, 0, 0, [])),
  (655, (.aload_n 0, 0, 0, 0, 0, 0, 0, [])),
  (656, (.iload 4, 4, 0, 0, 0, 0, 0, [])),
  (658, (.iconst 4, 0, 0, 0, 0, 4, 0, [])),
  (659, (.iadd, 0, 0, 0, 0, 0, 0, [])),
  (660, (.iaload, 0, 0, 0, 0, 0, 0, [])),
  (661, (.i2l, 0, 0, 0, 0, 0, 0, [])),
  (662, (.ldc2_w 27, 0, 0, 0, 0, 0, 4294967295, [])),
  (665, (.land, 0, 0, 0, 0, 0, 0, [])),
  (666, (.lor, 0, 0, 0, 0, 0, 0, [])),
  (667, (.aload_n 0, 0, 0, 0, 0, 0, 0, [])),
  (668, (.iload 4, 4, 0, 0, 0, 0, 0, [])),
  (670, (.iconst 5, 0, 0, 0, 0, 5, 0, [])),
  (671, (.iadd, 0, 0, 0, 0, 0, 0, [])),
  (672, (.iaload, 0, 0, 0, 0, 0, 0, [])),
  (673, (.i2l, 0, 0, 0, 0, 0, 0, [])),
  (674, (.bipush 32, 0, 0, 0, 0, 32, 0, [])),
  (676, (.lshl, 0, 0, 0, 0, 0, 0, [])),
  (677, (.aload_n 0, 0, 0, 0, 0, 0, 0, [])),
  (678, (.iload 4, 4, 0, 0, 0, 0, 0, [])),
  (680, (.bipush 6, 0, 0, 0, 0, 6, 0, [])),
  (682, (.iadd, 0, 0, 0, 0, 0, 0, [])),
  (683, (.iaload, 0, 0, 0, 0, 0, 0, [])),
  (684, (.i2l, 0, 0, 0, 0, 0, 0, [])),
  (685, (.ldc2_w 27, 0, 0, 0, 0, 0, 4294967295, [])),
  (688, (.land, 0, 0, 0, 0, 0, 0, [])),
  (689, (.lor, 0, 0, 0, 0, 0, 0, [])),
  (690, (.invokevirtual 66, 55, 4, 0, 1, 0, 0, [])),
  (693, (.aload_n 2, 2, 0, 0, 0, 0, 0, [])),
  (694, (.aload_n 0, 0, 0, 0, 0, 0, 0, [])),
  (695, (.iload 4, 4, 0, 0, 0, 0, 0, [])),
  (697, (.iconst 1, 0, 0, 0, 0, 1, 0, [])),
  (698, (.iadd, 0, 0, 0, 0, 0, 0, [])),
  (699, (.iaload, 0, 0, 0, 0, 0, 0, [])),
  (700, (.aload_n 0, 0, 0, 0, 0, 0, 0, [])),
  (701, (.iload 4, 4, 0, 0, 0, 0, 0, [])),
  (703, (.iconst 2, 0, 0, 0, 0, 2, 0, [])),
  (704, (.iadd, 0, 0, 0, 0, 0, 0, [])),
  (705, (.iaload, 0, 0, 0, 0, 0, 0, [])),
  (706, (.aload_n 0, 0, 0, 0, 0, 0, 0, [])),
  (707, (.iload 4, 4, 0, 0, 0, 0, 0, [])),
  (709, (.iconst 3, 0, 0, 0, 0, 3, 0, [])),
  (710, (.iadd, 0, 0, 0, 0, 0, 0, [])),
  (711, (.iaload, 0, 0, 0, 0, 0, 0, [])),
  (712, (.i2l, 0, 0, 0, 0, 0, 0, [])),
  (713, (.bipush 32, 0, 0, 0, 0, 32, 0, [])),
  (715, (.lshl, 0, 0, 0, 0, 0, 0, [])),
  (716, (.aload_n 0, 0, 0, 0, 0, 0, 0, [])),
  (717, (.iload 4, 4, 0, 0, 0, 0, 0, [])),
  (719, (.iconst 4, 0, 0, 0, 0, 4, 0, [])),
  (720, (.iadd, 0, 0, 0, 0, 0, 0, [])),
  (721, (.iaload, 0, 0, 0, 0, 0, 0, [])),
  (722, (.i2l, 0, 0, 0, 0, 0, 0, [])),
  (723, (.ldc2_w 27, 0, 0, 0, 0, 0, 4294967295, [])),
  (726, (.land, 0, 0, 0, 0, 0, 0, [])),
  (727, (.lor, 0, 0, 0, 0, 0, 0, [])),
  (728, (.aload_n 0, 0, 0, 0, 0, 0, 0, [])),
  (729, (.iload 4, 4, 0, 0, 0, 0, 0, [])),
  (731, (.iconst 5, 0, 0, 0, 0, 5, 0, [])),
  (732, (.iadd, 0, 0, 0, 0, 0, 0, [])),
  (733, (.iaload, 0, 0, 0, 0, 0, 0, [])),
  (734, (.i2l, 0, 0, 0, 0, 0, 0, [])),
  (735, (.bipush 32, 0, 0, 0, 0, 32, 0, [])),
  (737, (.lshl, 0, 0, 0, 0, 0, 0, [])),
  (738, (.aload_n 0, 0, 0, 0, 0, 0, 0, [])),
  (739, (.iload 4, 4, 0, 0, 0, 0, 0, [])),
  (741, (.bipush 6, 0, 0, 0, 0, 6, 0, [])),
  (743, (.iadd, 0, 0, 0, 0, 0, 0, [])),
  (744, (.iaload, 0, 0, 0, 0, 0, 0, [])),
  (745, (.i2l, 0, 0, 0, 0, 0, 0, [])),
  (746, (.ldc2_w 27, 0, 0, 0, 0, 0, 4294967295, [])),
  (749, (.land, 0, 0, 0, 0, 0, 0, [])),
  (750, (.lor, 0, 0, 0, 0, 0, 0, [])),
  (751, (.invokevirtual 69, 74, 4, 7, 1, 0, 0, [])),
  (754, (.if_icmp .eq 205, 959, 0, 0, 0, 0, 0, [])),
  (757, (.iconst 0, 0, 0, 0, 0, 0, 0, [])),
  (758, (.ireturn, 0, 0, 0, 1, 0, 0, [])),
  (759, (.aload_n 1, 1, 0, 0, 0, 0, 0, [])),
  (760, (.aload_n 0, 0, 0, 0, 0, 0, 0, [])),
  (761, (.iload 4, 4, 0, 0, 0, 0, 0, [])),
  (763, (.iconst 1, 0, 0, 0, 0, 1, 0, [])),
  (764, (.iadd, 0, 0, 0, 0, 0, 0, [])),
  (765, (.iaload, 0, 0, 0, 0, 0, 0, [])),
  (766, (.aload_n 0, 0, 0, 0, 0, 0, 0, [])),
  (767, (.iload 4, 4, 0, 0, 0, 0, 0, [])),
  (769, (.iconst 2, 0, 0, 0, 0, 2, 0, [])),
  (770, (.iadd, 0, 0, 0, 0, 0, 0, [])),
  (771, (.iaload, 0, 0, 0, 0, 0, 0, [])),
  (772, (.i2l, 0, 0, 0, 0, 0, 0, [])),
  (773, (.bipush 32, 0, 0, 0, 0, 32, 0, [])),
  (775, (.lshl, 0, 0, 0, 0, 0, 0, [])),
  (776, (.aload_n 0, 0, 0, 0, 0, 0, 0, [])),
  (777, (.iload 4, 4, 0, 0, 0, 0, 0, [])),
  (779, (.iconst 3, 0, 0, 0, 0, 3, 0, [])),
  (780, (.iadd, 0, 0, 0, 0, 0, 0, [])),
  (781, (.iaload, 0, 0, 0, 0, 0, 0, [])),
  (782, (.i2l, 0, 0, 0, 0, 0, 0, [])),
  (783, (.ldc2_w 27, 0, 0, 0, 0, 0, 4294967295, [])),
  (786, (.land, 0, 0, 0, 0, 0, 0, [])),
  (787, (.lor, 0, 0, 0, 0, 0, 0, [])),
  (788, (.invokevirtual 70, 57, 2, 0, 1, 0, 0, [])),
  (791, (.aload_n 2, 2, 0, 0, 0, 0, 0, [])),
  (792, (.aload_n 0, 0, 0, 0, 0, 0, 0, [])),
  (793, (.iload 4, 4, 0, 0, 0, 0, 0, [])),
  (795, (.iconst 1, 0, 0, 0, 0, 1, 0, [])),
  (796, (.iadd, 0, 0, 0, 0, 0, 0, [])),
  (797, (.iaload, 0, 0, 0, 0, 0, 0, [])),
  (798, (.aload_n 0, 0, 0, 0, 0, 0, 0, [])),
  (799, (.iload 4, 4, 0, 0, 0, 0, 0, [])),
  (801, (.iconst 2, 0, 0, 0, 0, 2, 0, [])),
  (802, (.iadd, 0, 0, 0, 0, 0, 0, [])),
  (803, (.iaload, 0, 0, 0, 0, 0, 0, [])),
  (804, (.i2l, 0, 0, 0, 0, 0, 0, [])),
  (805, (.bipush 32, 0, 0, 0, 0, 32, 0, [])),
  (807, (.lshl, 0, 0, 0, 0, 0, 0, [])),
  (808, (.aload_n 0, 0, 0, 0, 0, 0, 0, [])),
  (809, (.iload 4, 4, 0, 0, 0, 0, 0, [])),
  (811, (.iconst 3, 0, 0, 0, 0, 3, 0, [])),
  (812, (.iadd, 0, 0, 0, 0, 0, 0, [])),
  (813, (.iaload, 0, 0, 0, 0, 0, 0, [])),
  (814, (.i2l, 0, 0, 0, 0, 0, 0, [])),
  (815, (.ldc2_w 27, 0, 0, 0, 0, 0, 4294967295, [])),
  (818, (.land, 0, 0, 0, 0, 0, 0, [])),
  (819, (.lor, 0, 0, 0, 0, 0, 0, [])),
  (820, (.invokevirtual 73, 75, 2, 7, 1, 0, 0, [])),
  (823, (.if_icmp .eq 136, 959, 0, 0, 0, 0, 0, [])),
  (826, (.iconst 0, 0, 0, 0, 0, 0, 0, [])),
  (827, (.ireturn, 0, 0, 0, 1, 0, 0, [])),
  (828, (.aload_n 1, 1, 0, 0, 0, 0, 0, [])),
  (829, (.aload_n 0, 0, 0, 0, 0, 0, 0, [])),
  (830, (.iload 4, 4, 0, 0, 0, 0, 0, [])),
  (832, (.iconst 1, 0, 0, 0, 0, 1, 0, [])),
  (833, (.iadd, 0, 0, 0, 0, 0, 0, [])),
  (834, (.iaload, 0, 0, 0, 0, 0, 0, [])),
  (835, (.aload_n 0, 0, 0, 0, 0, 0, 0, [])),
  (836, (.iload 4, 4, 0, 0, 0, 0, 0, [])),
  (838, (.iconst 2, 0, 0, 0, 0, 2, 0, [])),
  (839, (.iadd, 0, 0, 0, 0, 0, 0, [])),
  (840, (.iaload, 0, 0, 0, 0, 0, 0, [])),
  (841, (.i2l, 0, 0, 0, 0, 0, 0, [])),
  (842, (.bipush 32, 0, 0, 0, 0, 32, 0, [])),
  (844, (.lshl, 0, 0, 0, 0, 0, 0, [])),
  (845, (.aload_n 0, 0, 0, 0, 0, 0, 0, [])),
  (846, (.iload 4, 4, 0, 0, 0, 0, 0, [])),
  (848, (.iconst 3, 0, 0, 0, 0, 3, 0, [])),
  (849, (.iadd, 0, 0, 0, 0, 0, 0, [])),
  (850, (.iaload, 0, 0, 0, 0, 0, 0, [])),
  (851, (.i2l, 0, 0, 0, 0, 0, 0, [])),
  (852, (.ldc2_w 27, 0, 0, 0, 0, 0, 4294967295, [])),
  (855, (.land, 0, 0, 0, 0, 0, 0, [])),
  (856, (.lor, 0, 0, 0, 0, 0, 0, [])),
  (857, (.invokevirtual 74, 58, 2, 0, 1, 0, 0, [])),
  (860, (.aload_n 2, 2, 0, 0, 0, 0, 0, [])),
  (861, (.aload_n 0, 0, 0, 0, 0, 0, 0, [])),
  (862, (.iload 4, 4, 0, 0, 0, 0, 0, [])),
  (864, (.iconst 1, 0, 0, 0, 0, 1, 0, [])),
  (865, (.iadd, 0, 0, 0, 0, 0, 0, [])),
  (866, (.iaload, 0, 0, 0, 0, 0, 0, [])),
  (867, (.aload_n 0, 0, 0, 0, 0, 0, 0, [])),
  (868, (.iload 4, 4, 0, 0, 0, 0, 0, [])),
  (870, (.iconst 2, 0, 0, 0, 0, 2, 0, [])),
  (871, (.iadd, 0, 0, 0, 0, 0, 0, [])),
  (872, (.iaload, 0, 0, 0, 0, 0, 0, [])),
  (873, (.i2l, 0, 0, 0, 0, 0, 0, [])),
  (874, (.bipush 32, 0, 0, 0, 0, 32, 0, [])),
  (876, (.lshl, 0, 0, 0, 0, 0, 0, [])),
  (877, (.aload_n 0, 0, 0, 0, 0, 0, 0, [])),
  (878, (.iload 4, 4, 0, 0, 0, 0, 0, [])),
  (880, (.iconst 3, 0, 0, 0, 0, 3, 0, [])),
  (881, (.iadd, 0, 0, 0, 0, 0, 0, [])),
  (882, (.iaload, 0, 0, 0, 0, 0, 0, [])),
  (883, (.i2l, 0, 0, 0, 0, 0, 0, [])),
  (884, (.ldc2_w 27, 0, 0, 0, 0, 0, 4294967295, [])),
  (887, (.land, 0, 0, 0, 0, 0, 0, [])),
  (888, (.lor, 0, 0, 0, 0, 0, 0, [])),
  (889, (.invokevirtual 77, 77, 2, 7, 1, 0, 0, [])),
  (892, (.if_icmp .eq 67, 959, 0, 0, 0, 0, 0, [])),
  (895, (.iconst 0, 0, 0, 0, 0, 0, 0, [])),
  (896, (.ireturn, 0, 0, 0, 1, 0, 0, [])),
  (897, (.aload_n 1, 1, 0, 0, 0, 0, 0, [])),
  (898, (.aload_n 0, 0, 0, 0, 0, 0, 0, [])),
  (899, (.iload 4, 4, 0, 0, 0, 0, 0, [])),
  (901, (.iconst 1, 0, 0, 0, 0, 1, 0, [])),
  (902, (.iadd, 0, 0, 0, 0, 0, 0, [])),
  (903, (.iaload, 0, 0, 0, 0, 0, 0, [])),
  (904, (.invokevirtual 78, 59, 1, 0, 1, 0, 0, [])),
  (907, (.aload_n 2, 2, 0, 0, 0, 0, 0, [])),
  (908, (.aload_n 0, 0, 0, 0, 0, 0, 0, [])),
  (909, (.iload 4, 4, 0, 0, 0, 0, 0, [])),
  (911, (.iconst 1, 0, 0, 0, 0, 1, 0, [])),
  (912, (.iadd, 0, 0, 0, 0, 0, 0, [])),
  (913, (.iaload, 0, 0, 0, 0, 0, 0, [])),
  (914, (.invokevirtual 82, 88, 1, 7, 1, 0, 0, [])),
  (917, (.if_icmp .eq 42, 959, 0, 0, 0, 0, 0, [])),
  (920, (.iconst 0, 0, 0, 0, 0, 0, 0, [])),
  (921, (.ireturn, 0, 0, 0, 1, 0, 0, [])),
  (922, (.aload_n 1, 1, 0, 0, 0, 0, 0, [])),
  (923, (.aload_n 0, 0, 0, 0, 0, 0, 0, [])),
  (924, (.iload 4, 4, 0, 0, 0, 0, 0, [])),
  (926, (.iconst 1, 0, 0, 0, 0, 1, 0, [])),
  (927, (.iadd, 0, 0, 0, 0, 0, 0, [])),
  (928, (.iaload, 0, 0, 0, 0, 0, 0, [])),
  (929, (.aload_n 0, 0, 0, 0, 0, 0, 0, [])),
  (930, (.iload 4, 4, 0, 0, 0, 0, 0, [])),
  (932, (.iconst 2, 0, 0, 0, 0, 2, 0, [])),
  (933, (.iadd, 0, 0, 0, 0, 0, 0, [])),
  (934, (.iaload, 0, 0, 0, 0, 0, 0, [])),
  (935, (.invokevirtual 83, 60, 2, 0, 1, 0, 0, [])),
  (938, (.aload_n 2, 2, 0, 0, 0, 0, 0, [])),
  (939, (.aload_n 0, 0, 0, 0, 0, 0, 0, [])),
  (940, (.iload 4, 4, 0, 0, 0, 0, 0, [])),
  (942, (.iconst 1, 0, 0, 0, 0, 1, 0, [])),
  (943, (.iadd, 0, 0, 0, 0, 0, 0, [])),
  (944, (.iaload, 0, 0, 0, 0, 0, 0, [])),
  (945, (.aload_n 0, 0, 0, 0, 0, 0, 0, [])),
  (946, (.iload 4, 4, 0, 0, 0, 0, 0, [])),
  (948, (.iconst 2, 0, 0, 0, 0, 2, 0, [])),
  (949, (.iadd, 0, 0, 0, 0, 0, 0, [])),
  (950, (.iaload, 0, 0, 0, 0, 0, 0, [])),
  (951, (.invokevirtual 86, 78, 2, 7, 1, 0, 0, [])),
  (954, (.if_icmp .eq 5, 959, 0, 0, 0, 0, 0, [])),
  (957, (.iconst 0, 0, 0, 0, 0, 0, 0, [])),
  (958, (.ireturn, 0, 0, 0, 1, 0, 0, [])),
  (959, (.iinc 4 7, 4, 0, 0, 0, 7, 0, [])),
  (962, (.goto (-929), 33, 0, 0, 0, 0, 0, [])),
  (965, (.iconst 1, 0, 0, 0, 0, 1, 0, [])),
  (966, (.ireturn, 0, 0, 0, 1, 0, 0, []))]
def pg_W_cycle : List (Nat × am_E) := [(0, (.aload_n 3, 3, 0, 0, 0, 0, 0, [])),
  (1, (.iconst 0, 0, 0, 0, 0, 0, 0, [])),
  (2, (.aload_n 0, 0, 0, 0, 0, 0, 0, [])),
  (3, (.lload_n 1, 1, 0, 0, 0, 0, 0, [])),
  (4, (.invokevirtual 7, 64, 1, 0, 1, 0, 0, [])),
  (7, (.i2l, 0, 0, 0, 0, 0, 0, [])),
  (8, (.lastore, 0, 0, 0, 0, 0, 0, [])),
  (9, (.goto 7, 16, 0, 0, 0, 0, 0, [])),
  (12, (.astore 4, 4, 0, 0, 0, 0, 0, [])),
  (14, (.iconst 1, 0, 0, 0, 0, 1, 0, [])),
  (15, (.ireturn, 0, 0, 0, 0, 0, 0, [])),
  (16, (.iconst 0, 0, 0, 0, 0, 0, 0, [])),
  (17, (.ireturn, 0, 0, 0, 0, 0, 0, []))]
def am_pgs : List (List (Nat × am_E)) := [[], pg_X_init, pg_P_init, pg_K_init, pg_L_init, pg_L1_init, pg_L0_init, pg_X_link, pg_X_findPort, pg_P_isSending, pg_P_loseFrames, pg_X_gate, pg_X_isRank, pg_K_addWindow, pg_X_frame, pg_X_isAddress, pg_X_addressOf, pg_A_init, pg_S_init, pg_S_takesOne, pg_S_takenAt, pg_A_portAt, pg_A_isFixed, pg_X_queueCopies, pg_P_queue, pg_K_add, pg_X_run, pg_X_endSendings, pg_L_size, pg_D_init, pg_L_add, pg_L_add2, pg_L_grow, pg_L_grow2, pg_Q_newLength, pg_Q_hugeLength, [], pg_X_beginSendings, pg_P_beginNext, pg_K_firstBits, pg_K_letsBegin, pg_K_isShaped, pg_K_isOpenFor, pg_K_removeFirst, pg_X_ticksUntilChange, pg_P_ticksUntilChange, pg_X_moveCredits, pg_P_moveCredits, pg_K_moveCredit, pg_X_left, pg_L_get, pg_O_checkIndex, pg_V_checkIndex, pg_L_elementData, pg_X_learn, pg_X_credit, pg_K_shape, pg_X_filter, pg_X_clock, pg_X_dropped, pg_X_service, pg_X_offererOf, pg_X_isService, pg_W_cell, pg_X_cycle, pg_M_init, pg_M_thrown, pg_M_link, pg_M_none, pg_M_gate, pg_M_noRank, pg_M_cycle, pg_M_learn, pg_M_isAt, pg_M_credit, pg_M_filter, pg_M_look, pg_M_clock, pg_M_service, pg_M_frame, pg_M_enter, pg_M_run, pg_M_tick, pg_M_may, pg_M_time, pg_M_open, pg_M_begin, pg_M_left, pg_M_dropped, pg_W_law, []]
def am_pg (x : Nat) : List (Nat × am_E) := am_pgs.getD x []
end
section
/-! locals -/
theorem am_gset (l : am_Ls) (i j : Nat) (a : Option am_V) : (l.set i a).getD j none = if i = j ∧ j < l.length then a else l.getD j none := by
  simp only [List.getD_eq_getElem?_getD, List.getElem?_set]
  by_cases hij : i = j
  · subst hij
    by_cases hl : i < l.length
    · simp [hl]
    · simp [hl]
  · simp [hij]
theorem am_kl_len (l : am_Ls) (i : Nat) : (am_kl l i).length = l.length := by
  unfold am_kl
  split
  · rfl
  · split
    · simp
    · rfl
theorem am_kl_get {l : am_Ls} {i j : Nat} {w : am_V} : (am_kl l i).getD j none = some w ↔ l.getD j none = some w ∧ ¬ (j + 1 = i ∧ am_cat w = 2) := by
  unfold am_kl
  split
  · constructor
    · exact fun h => ⟨h, fun q => absurd q.1 (Nat.succ_ne_zero j)⟩
    · exact fun h => h.1
  · rename_i k
    split
    · rename_i v e
      rw [am_gset]
      by_cases hk : k = j
      · subst hk
        have hlt : k < l.length := by
          rcases Nat.lt_or_ge k l.length with q | q
          · exact q
          · rw [List.getD_eq_getElem?_getD, List.getElem?_eq_none q] at e
            cases e
        rw [if_pos ⟨rfl, hlt⟩, e]
        constructor
        · intro h; cases h
        · rintro ⟨h, n⟩
          cases h
          exact absurd ⟨rfl, rfl⟩ n
      · rw [if_neg (fun q => hk q.1)]
        constructor
        · exact fun h => ⟨h, fun q => hk (by omega)⟩
        · exact fun h => h.1
    · rename_i hno
      constructor
      · intro h
        refine ⟨h, fun q => ?_⟩
        have hk : j = k := by omega
        subst hk
        rcases w with a | a | a
        · exact absurd q.2 (show ¬ (1 = 2) by decide)
        · exact hno a h
        · exact absurd q.2 (show ¬ (1 = 2) by decide)
      · exact fun h => h.1
theorem am_s1_get {l : am_Ls} {i j : Nat} {v w : am_V} : (am_s1 l i v).getD j none = some w ↔ (j = i ∧ i < l.length ∧ w = v) ∨ (¬ (j = i ∧ i < l.length) ∧ l.getD j none = some w ∧ ¬ (j + 1 = i ∧ am_cat w = 2)) := by
  unfold am_s1
  rw [am_gset, am_kl_len]
  by_cases h : i = j ∧ j < l.length
  · obtain ⟨rfl, h⟩ := h
    rw [if_pos ⟨rfl, h⟩]
    constructor
    · intro q; cases q; exact Or.inl ⟨rfl, h, rfl⟩
    · rintro (⟨-, -, rfl⟩ | ⟨n, -⟩)
      · rfl
      · exact absurd ⟨rfl, h⟩ n
  · rw [if_neg h, am_kl_get]
    constructor
    · exact fun q => Or.inr ⟨fun z => h ⟨z.1.symm, by rw [z.1]; exact z.2⟩, q⟩
    · rintro (⟨rfl, h2, -⟩ | ⟨-, q⟩)
      · exact absurd ⟨rfl, h2⟩ h
      · exact q
theorem am_s2_get {l : am_Ls} {i j : Nat} {v w : am_V} (hi : i + 1 < l.length) : (am_s2 l i v).getD j none = some w ↔ (j = i ∧ w = v) ∨ (¬ j = i ∧ ¬ j = i + 1 ∧ l.getD j none = some w ∧ ¬ (j + 1 = i ∧ am_cat w = 2)) := by
  unfold am_s2
  rw [am_gset, List.length_set, am_kl_len]
  by_cases h1 : i + 1 = j
  · subst h1
    rw [if_pos ⟨rfl, hi⟩]
    constructor
    · intro q; cases q
    · rintro (⟨q, -⟩ | ⟨-, q, -⟩)
      · omega
      · exact absurd rfl q
  · rw [if_neg (fun q => h1 q.1), am_gset, am_kl_len]
    by_cases h2 : i = j
    · subst h2
      rw [if_pos ⟨rfl, by omega⟩]
      constructor
      · intro q; cases q; exact Or.inl ⟨rfl, rfl⟩
      · rintro (⟨-, rfl⟩ | ⟨n, -⟩)
        · rfl
        · exact absurd rfl n
    · rw [if_neg (fun q => h2 q.1), am_kl_get]
      constructor
      · exact fun q => Or.inr ⟨fun z => h2 z.symm, fun z => h1 z.symm, q⟩
      · rintro (⟨q, -⟩ | ⟨-, -, q⟩)
        · exact absurd q.symm h2
        · exact q
theorem am_s1_len (l : am_Ls) (i : Nat) (v : am_V) : (am_s1 l i v).length = l.length := by simp [am_s1, am_kl_len]
theorem am_s2_len (l : am_Ls) (i : Nat) (v : am_V) : (am_s2 l i v).length = l.length := by simp [am_s2, am_kl_len]
/-- l' knows what l knows -/
def am_le (l l' : am_Ls) : Prop := l.length = l'.length ∧ ∀ (i : Nat) (v : am_V), l.getD i none = some v → l'.getD i none = some v
theorem am_le_s1 {l l' : am_Ls} {i : Nat} {v : am_V} (h : am_le l l') : am_le (am_s1 l i v) (am_s1 l' i v) := by
  refine ⟨by rw [am_s1_len, am_s1_len]; exact h.1, fun j w hw => ?_⟩
  rw [am_s1_get] at hw ⊢
  rw [← h.1]
  rcases hw with q | ⟨q1, q2, q3⟩
  · exact Or.inl q
  · exact Or.inr ⟨q1, h.2 j w q2, q3⟩
theorem am_le_s2 {l l' : am_Ls} {i : Nat} {v : am_V} (h : am_le l l') : am_le (am_s2 l i v) (am_s2 l' i v) := by
  refine ⟨by rw [am_s2_len, am_s2_len]; exact h.1, fun j w hw => ?_⟩
  by_cases hi : i + 1 < l.length
  · rw [am_s2_get hi] at hw
    rw [am_s2_get (by rw [← h.1]; exact hi)]
    rcases hw with q | ⟨q1, q2, q3, q4⟩
    · exact Or.inl q
    · exact Or.inr ⟨q1, q2, h.2 j w q3, q4⟩
  · have hlen := h.1
    have key : ∀ m : am_Ls, ¬ i + 1 < m.length → am_s2 m i v = am_s1 m i v := by
      intro m hm
      unfold am_s2 am_s1
      rw [List.set_eq_of_length_le]
      rw [List.length_set, am_kl_len]
      omega
    rw [key l hi] at hw
    rw [key l' (by omega)]
    exact (am_le_s1 (i := i) (v := v) h).2 j w hw
/-- by places: nothing, or the same -/
def am_leb : am_Ls → am_Ls → Prop
  | [], [] => True
  | x :: xs, y :: ys => (x = none ∨ x = y) ∧ am_leb xs ys
  | _, _ => False
theorem am_le_of : ∀ {l l' : am_Ls}, am_leb l l' → am_le l l'
  | [], [], _ => ⟨rfl, fun _ _ h => h⟩
  | [], _ :: _, h => h.elim
  | _ :: _, [], h => h.elim
  | x :: xs, y :: ys, h => by
    have ih := am_le_of (l := xs) (l' := ys) h.2
    refine ⟨by simp [ih.1], fun i v hv => ?_⟩
    cases i with
    | zero =>
      simp only [List.getD_cons_zero] at hv ⊢
      rcases h.1 with q | q
      · rw [q] at hv; cases hv
      · rw [← q]; exact hv
    | succ i =>
      simp only [List.getD_cons_succ] at hv ⊢
      exact ih.2 i v hv
theorem am_p1I_x {st : am_Sk} {f : Int32 → am_Sk → Prop} (H : am_p1I st f) : ∃ a s, st = .inl a :: s ∧ f a s := by
  unfold am_p1I at H
  split at H
  · exact ⟨_, _, rfl, H⟩
  · exact H.elim
theorem am_p2I_x {st : am_Sk} {f : Int32 → Int32 → am_Sk → Prop} (H : am_p2I st f) : ∃ a b s, st = .inl b :: .inl a :: s ∧ f a b s := by
  unfold am_p2I at H
  split at H
  · exact ⟨_, _, _, rfl, H⟩
  · exact H.elim
theorem am_p1J_x {st : am_Sk} {f : Int64 → am_Sk → Prop} (H : am_p1J st f) : ∃ a s, st = .inr (.inl a) :: s ∧ f a s := by
  unfold am_p1J at H
  split at H
  · exact ⟨_, _, rfl, H⟩
  · exact H.elim
theorem am_p2J_x {st : am_Sk} {f : Int64 → Int64 → am_Sk → Prop} (H : am_p2J st f) : ∃ a b s, st = .inr (.inl b) :: .inr (.inl a) :: s ∧ f a b s := by
  unfold am_p2J at H
  split at H
  · exact ⟨_, _, _, rfl, H⟩
  · exact H.elim
theorem am_pJI_x {st : am_Sk} {f : Int64 → Int32 → am_Sk → Prop} (H : am_pJI st f) : ∃ a b s, st = .inl b :: .inr (.inl a) :: s ∧ f a b s := by
  unfold am_pJI at H
  split at H
  · exact ⟨_, _, _, rfl, H⟩
  · exact H.elim
theorem am_p1R_x {st : am_Sk} {f : Nat → am_Sk → Prop} (H : am_p1R st f) : ∃ a s, st = .inr (.inr a) :: s ∧ f a s := by
  unfold am_p1R at H
  split at H
  · exact ⟨_, _, rfl, H⟩
  · exact H.elim
theorem am_p2R_x {st : am_Sk} {f : Nat → Nat → am_Sk → Prop} (H : am_p2R st f) : ∃ a b s, st = .inr (.inr b) :: .inr (.inr a) :: s ∧ f a b s := by
  unfold am_p2R at H
  split at H
  · exact ⟨_, _, _, rfl, H⟩
  · exact H.elim
theorem am_pRI_x {st : am_Sk} {f : Nat → Int32 → am_Sk → Prop} (H : am_pRI st f) : ∃ a b s, st = .inl b :: .inr (.inr a) :: s ∧ f a b s := by
  unfold am_pRI at H
  split at H
  · exact ⟨_, _, _, rfl, H⟩
  · exact H.elim
theorem am_pRII_x {st : am_Sk} {f : Nat → Int32 → Int32 → am_Sk → Prop} (H : am_pRII st f) : ∃ a b v s, st = .inl v :: .inl b :: .inr (.inr a) :: s ∧ f a b v s := by
  unfold am_pRII at H
  split at H
  · exact ⟨_, _, _, _, rfl, H⟩
  · exact H.elim
theorem am_pRIJ_x {st : am_Sk} {f : Nat → Int32 → Int64 → am_Sk → Prop} (H : am_pRIJ st f) : ∃ a b v s, st = .inr (.inl v) :: .inl b :: .inr (.inr a) :: s ∧ f a b v s := by
  unfold am_pRIJ at H
  split at H
  · exact ⟨_, _, _, _, rfl, H⟩
  · exact H.elim
theorem am_pRIR_x {st : am_Sk} {f : Nat → Int32 → Nat → am_Sk → Prop} (H : am_pRIR st f) : ∃ a b v s, st = .inr (.inr v) :: .inl b :: .inr (.inr a) :: s ∧ f a b v s := by
  unfold am_pRIR at H
  split at H
  · exact ⟨_, _, _, _, rfl, H⟩
  · exact H.elim
theorem am_w1_x {st : am_Sk} {f : am_V → am_Sk → Prop} (H : am_w1 st f) : ∃ a s, st = a :: s ∧ am_cat a = 1 ∧ f a s := by
  unfold am_w1 at H
  split at H
  · exact ⟨_, _, rfl, H.1, H.2⟩
  · exact H.elim
theorem am_w2_x {st : am_Sk} {f : am_V → am_V → am_Sk → Prop} (H : am_w2 st f) : ∃ a b s, st = b :: a :: s ∧ am_cat b = 1 ∧ am_cat a = 1 ∧ f a b s := by
  unfold am_w2 at H
  split at H
  · exact ⟨_, _, _, rfl, H.1, H.2.1, H.2.2⟩
  · exact H.elim
theorem am_lI_x {l : am_Ls} {x : Nat} {f : Int32 → Prop} (H : am_lI l x f) : ∃ v, l.getD x none = some (.inl v) ∧ f v := by
  unfold am_lI at H
  split at H
  · rename_i v e
    exact ⟨v, e, H⟩
  · exact H.elim
theorem am_lI_i {l : am_Ls} {x : Nat} {f : Int32 → Prop} {v : Int32} (e : l.getD x none = some (.inl v)) (H : f v) : am_lI l x f := by
  unfold am_lI
  rw [e]
  exact H
theorem am_lJ_x {l : am_Ls} {x : Nat} {f : Int64 → Prop} (H : am_lJ l x f) : ∃ v, l.getD x none = some (.inr (.inl v)) ∧ f v := by
  unfold am_lJ at H
  split at H
  · rename_i v e
    exact ⟨v, e, H⟩
  · exact H.elim
theorem am_lJ_i {l : am_Ls} {x : Nat} {f : Int64 → Prop} {v : Int64} (e : l.getD x none = some (.inr (.inl v))) (H : f v) : am_lJ l x f := by
  unfold am_lJ
  rw [e]
  exact H
theorem am_lR_x {l : am_Ls} {x : Nat} {f : Nat → Prop} (H : am_lR l x f) : ∃ v, l.getD x none = some (.inr (.inr v)) ∧ f v := by
  unfold am_lR at H
  split at H
  · rename_i v e
    exact ⟨v, e, H⟩
  · exact H.elim
theorem am_lR_i {l : am_Ls} {x : Nat} {f : Nat → Prop} {v : Nat} (e : l.getD x none = some (.inr (.inr v))) (H : f v) : am_lR l x f := by
  unfold am_lR
  rw [e]
  exact H
theorem am_pRv_x {u : Nat} {st : am_Sk} {h : am_H} {f : Nat} {k : Nat → am_Sk → am_H → Prop} (H : am_pRv u st h f k) : (u = 0 ∧ ∃ a v s, st = .inl v :: .inr (.inr a) :: s ∧ k a s (am_sI h f a v)) ∨ (u = 1 ∧ ∃ a v s, st = .inr (.inl v) :: .inr (.inr a) :: s ∧ k a s (am_sJ h f a v)) ∨ (u = 2 ∧ ∃ a v s, st = .inr (.inr v) :: .inr (.inr a) :: s ∧ k a s (am_sR h f a v)) := by
  unfold am_pRv at H
  split at H
  · exact Or.inl ⟨rfl, _, _, _, rfl, H⟩
  · exact Or.inr (Or.inl ⟨rfl, _, _, _, rfl, H⟩)
  · exact Or.inr (Or.inr ⟨rfl, _, _, _, rfl, H⟩)
  · exact H.elim
theorem am_pn_x : ∀ {n : Nat} {st acc : am_Sk} {f : am_Sk → am_Sk → Prop}, am_pn n st acc f → ∃ as rest, as.length = n ∧ st = as.reverse ++ rest ∧ f (as ++ acc) rest
  | 0, st, acc, f, H => ⟨[], st, rfl, rfl, H⟩
  | n + 1, [], acc, f, H => H.elim
  | n + 1, v :: st, acc, f, H => by
    obtain ⟨as, rest, h1, h2, h3⟩ := am_pn_x (n := n) (st := st) (acc := v :: acc) (f := f) H
    exact ⟨as ++ [v], rest, by simp [h1], by simp [h2], by simpa using h3⟩
theorem am_pn_i : ∀ {n : Nat} {as acc rest : am_Sk} {f : am_Sk → am_Sk → Prop}, as.length = n → f (as ++ acc) rest → am_pn n (as.reverse ++ rest) acc f
  | 0, [], acc, rest, f, _, H => H
  | n + 1, as, acc, rest, f, hn, H => by
    have hne : as ≠ [] := by intro q; rw [q] at hn; cases hn
    have e : as = as.dropLast ++ [as.getLast hne] := (List.dropLast_concat_getLast hne).symm
    have hl : as.dropLast.length = n := by simp [hn]
    rw [e]
    rw [List.reverse_append]
    show am_pn n (as.dropLast.reverse ++ rest) (as.getLast hne :: acc) f
    refine am_pn_i hl ?_
    have e2 : as.dropLast ++ as.getLast hne :: acc = as ++ acc := by
      conv => rhs; rw [e]
      simp
    rw [e2]
    exact H
theorem am_mth_x {z : Nat} {st : am_Sk} {k : am_Sk → Prop} (H : am_mth z st k) : ∃ st', k st' ∧ ∀ k' : am_Sk → Prop, k' st' → am_mth z st k' := by
  unfold am_mth at H ⊢
  split at H
  · obtain ⟨a, b, s, hst, H2⟩ := am_p2I_x H
    subst hst
    split at H2
    · rename_i hs
      exact ⟨_, H2, fun k' h => by show (if _ then _ else _); rw [if_pos hs]; exact h⟩
    · exact H2.elim
  · obtain ⟨a, b, s, hst, H2⟩ := am_p2I_x H
    subst hst
    split at H2
    · rename_i hs
      exact ⟨_, H2, fun k' h => by show (if _ then _ else _); rw [if_pos hs]; exact h⟩
    · exact H2.elim
  · obtain ⟨a, b, s, hst, H2⟩ := am_p2J_x H
    subst hst
    split at H2
    · rename_i hs
      exact ⟨_, H2, fun k' h => by show (if _ then _ else _); rw [if_pos hs]; exact h⟩
    · exact H2.elim
  · obtain ⟨a, b, s, hst, H2⟩ := am_p2J_x H
    subst hst
    split at H2
    · rename_i hs
      exact ⟨_, H2, fun k' h => by show (if _ then _ else _); rw [if_pos hs]; exact h⟩
    · exact H2.elim
  · exact H.elim
theorem am_nh_i {e : am_H} {k : am_H → Prop} (h : k e) : am_nh e k := fun _ q => q ▸ h
theorem am_br_x {c a b : Prop} (H : am_br c a b) : (c ∧ a) ∨ (¬ c ∧ b) := by
  by_cases h : c
  · exact Or.inl ⟨h, H.1 h⟩
  · exact Or.inr ⟨h, H.2 h⟩
theorem am_br_t {c a b : Prop} (h : c) (H : a) : am_br c a b := ⟨fun _ => H, fun q => absurd h q⟩
theorem am_br_f {c a b : Prop} (h : ¬ c) (H : b) : am_br c a b := ⟨fun q => absurd q h, fun _ => H⟩
theorem am_tsw_x {v : Int32} : ∀ {ts : List (Int32 × Nat)} {k : Nat → Prop} {d : Prop}, am_tsw v ts k d → (∃ t, (v, t) ∈ ts ∧ k t ∧ ∀ (k' : Nat → Prop) (d' : Prop), k' t → am_tsw v ts k' d') ∨ ((∀ q ∈ ts, ¬ v = q.1) ∧ d ∧ ∀ (k' : Nat → Prop) (d' : Prop), d' → am_tsw v ts k' d')
  | [], k, d, H => Or.inr ⟨fun _ h => absurd h List.not_mem_nil, H, fun _ _ h => h⟩
  | (x, t) :: ts, k, d, H => by
    by_cases e : v = x
    · subst e
      exact Or.inl ⟨t, List.mem_cons_self, H.1 rfl, fun k' d' hk => ⟨fun _ => hk, fun q => absurd rfl q⟩⟩
    · rcases am_tsw_x (H.2 e) with ⟨t', h1, h2, h3⟩ | ⟨h1, h2, h3⟩
      · exact Or.inl ⟨t', List.mem_cons_of_mem _ h1, h2, fun k' d' hk => ⟨fun q => absurd q e, fun _ => h3 k' d' hk⟩⟩
      · exact Or.inr ⟨fun q hq => by
          rcases List.mem_cons.mp hq with rfl | hq
          · exact e
          · exact h1 q hq, h2, fun k' d' hk => ⟨fun q => absurd q e, fun _ => h3 k' d' hk⟩⟩
/-- the return r of entry q on the stack st -/
def am_iR (q : am_E) (st : am_Sk) (r : Option am_V) : Prop := (q.1 = .ireturn ∧ ∃ v, st = [.inl v] ∧ r = some (.inl v) ∧ (q.2.2.2.2.1 = 0 ∨ v = 0 ∨ v = 1)) ∨ (q.1 = .lreturn ∧ ∃ v, st = [.inr (.inl v)] ∧ r = some (.inr (.inl v))) ∨ (q.1 = .areturn ∧ ∃ v, st = [.inr (.inr v)] ∧ r = some (.inr (.inr v))) ∨ (q.1 = .return_ ∧ st = [] ∧ r = none)
set_option maxHeartbeats 4000000 in
theorem am_det {pc : Nat} {q : am_E} {l : am_Ls} {st : am_Sk} {h : am_H} {K : Nat → am_Ls → am_Sk → am_H → Prop} {Rt : Option am_V → Prop} {Cl : Nat → am_Sk → am_Sk → Prop} (H : am_cps pc q l st h K Rt Cl) :
    (∃ pc' l' st' h', K pc' l' st' h' ∧ (am_C h ≤ am_C h' ∧ am_S h ≤ am_S h') ∧ ∀ (K' : Nat → am_Ls → am_Sk → am_H → Prop) (Rt' : Option am_V → Prop) (Cl' : Nat → am_Sk → am_Sk → Prop), K' pc' l' st' h' → am_cps pc q l st h K' Rt' Cl') ∨
    (∃ r, Rt r ∧ am_iR q st r ∧ ∀ (K' : Nat → am_Ls → am_Sk → am_H → Prop) (Rt' : Option am_V → Prop) (Cl' : Nat → am_Sk → am_Sk → Prop), Rt' r → am_cps pc q l st h K' Rt' Cl') ∨
    (∃ m as rest, Cl m as rest ∧ (as.map am_cat).sum ≤ am_ml m ∧ ∀ (K' : Nat → am_Ls → am_Sk → am_H → Prop) (Rt' : Option am_V → Prop) (Cl' : Nat → am_Sk → am_Sk → Prop), Cl' m as rest → am_cps pc q l st h K' Rt' Cl') := by
  obtain ⟨i, x, y, z, u, cI, cJ, ts⟩ := q
  cases i <;> simp only [am_cps] at H ⊢
  case getstatic _ =>
    exact Or.inl ⟨_, _, _, _, H, ⟨Nat.le_refl _, Nat.le_refl _⟩, fun K' _ _ h => h⟩
  case aconst_null =>
    exact Or.inl ⟨_, _, _, _, H, ⟨Nat.le_refl _, Nat.le_refl _⟩, fun K' _ _ h => h⟩
  case iconst _ =>
    exact Or.inl ⟨_, _, _, _, H, ⟨Nat.le_refl _, Nat.le_refl _⟩, fun K' _ _ h => h⟩
  case bipush _ =>
    exact Or.inl ⟨_, _, _, _, H, ⟨Nat.le_refl _, Nat.le_refl _⟩, fun K' _ _ h => h⟩
  case sipush _ =>
    exact Or.inl ⟨_, _, _, _, H, ⟨Nat.le_refl _, Nat.le_refl _⟩, fun K' _ _ h => h⟩
  case ldc _ =>
    exact Or.inl ⟨_, _, _, _, H, ⟨Nat.le_refl _, Nat.le_refl _⟩, fun K' _ _ h => h⟩
  case lconst _ =>
    exact Or.inl ⟨_, _, _, _, H, ⟨Nat.le_refl _, Nat.le_refl _⟩, fun K' _ _ h => h⟩
  case ldc2_w _ =>
    exact Or.inl ⟨_, _, _, _, H, ⟨Nat.le_refl _, Nat.le_refl _⟩, fun K' _ _ h => h⟩
  case goto _ =>
    exact Or.inl ⟨_, _, _, _, H, ⟨Nat.le_refl _, Nat.le_refl _⟩, fun K' _ _ h => h⟩
  case new _ =>
    have H := H _ rfl
    exact Or.inl ⟨_, _, _, _, H, ⟨Nat.le_succ _, Nat.le_add_right _ _⟩, fun K' _ _ h => am_nh_i h⟩
  case iload_n _ =>
    obtain ⟨v, e, H⟩ := am_lI_x H
    exact Or.inl ⟨_, _, _, _, H, ⟨Nat.le_refl _, Nat.le_refl _⟩, fun K' _ _ h => am_lI_i e h⟩
  case iload _ =>
    obtain ⟨v, e, H⟩ := am_lI_x H
    exact Or.inl ⟨_, _, _, _, H, ⟨Nat.le_refl _, Nat.le_refl _⟩, fun K' _ _ h => am_lI_i e h⟩
  case lload_n _ =>
    obtain ⟨v, e, H⟩ := am_lJ_x H
    exact Or.inl ⟨_, _, _, _, H, ⟨Nat.le_refl _, Nat.le_refl _⟩, fun K' _ _ h => am_lJ_i e h⟩
  case lload _ =>
    obtain ⟨v, e, H⟩ := am_lJ_x H
    exact Or.inl ⟨_, _, _, _, H, ⟨Nat.le_refl _, Nat.le_refl _⟩, fun K' _ _ h => am_lJ_i e h⟩
  case aload_n _ =>
    obtain ⟨v, e, H⟩ := am_lR_x H
    exact Or.inl ⟨_, _, _, _, H, ⟨Nat.le_refl _, Nat.le_refl _⟩, fun K' _ _ h => am_lR_i e h⟩
  case aload _ =>
    obtain ⟨v, e, H⟩ := am_lR_x H
    exact Or.inl ⟨_, _, _, _, H, ⟨Nat.le_refl _, Nat.le_refl _⟩, fun K' _ _ h => am_lR_i e h⟩
  case iinc _ _ =>
    obtain ⟨v, e, H⟩ := am_lI_x H
    exact Or.inl ⟨_, _, _, _, H, ⟨Nat.le_refl _, Nat.le_refl _⟩, fun K' _ _ h => am_lI_i e h⟩
  case istore_n _ =>
    obtain ⟨a, s, rfl, H⟩ := am_p1I_x H
    exact Or.inl ⟨_, _, _, _, H, ⟨Nat.le_refl _, Nat.le_refl _⟩, fun K' _ _ h => h⟩
  case istore _ =>
    obtain ⟨a, s, rfl, H⟩ := am_p1I_x H
    exact Or.inl ⟨_, _, _, _, H, ⟨Nat.le_refl _, Nat.le_refl _⟩, fun K' _ _ h => h⟩
  case i2l =>
    obtain ⟨a, s, rfl, H⟩ := am_p1I_x H
    exact Or.inl ⟨_, _, _, _, H, ⟨Nat.le_refl _, Nat.le_refl _⟩, fun K' _ _ h => h⟩
  case lstore_n _ =>
    obtain ⟨a, s, rfl, H⟩ := am_p1J_x H
    exact Or.inl ⟨_, _, _, _, H, ⟨Nat.le_refl _, Nat.le_refl _⟩, fun K' _ _ h => h⟩
  case lstore _ =>
    obtain ⟨a, s, rfl, H⟩ := am_p1J_x H
    exact Or.inl ⟨_, _, _, _, H, ⟨Nat.le_refl _, Nat.le_refl _⟩, fun K' _ _ h => h⟩
  case lneg =>
    obtain ⟨a, s, rfl, H⟩ := am_p1J_x H
    exact Or.inl ⟨_, _, _, _, H, ⟨Nat.le_refl _, Nat.le_refl _⟩, fun K' _ _ h => h⟩
  case l2i =>
    obtain ⟨a, s, rfl, H⟩ := am_p1J_x H
    exact Or.inl ⟨_, _, _, _, H, ⟨Nat.le_refl _, Nat.le_refl _⟩, fun K' _ _ h => h⟩
  case astore_n _ =>
    obtain ⟨a, s, rfl, H⟩ := am_p1R_x H
    exact Or.inl ⟨_, _, _, _, H, ⟨Nat.le_refl _, Nat.le_refl _⟩, fun K' _ _ h => h⟩
  case astore _ =>
    obtain ⟨a, s, rfl, H⟩ := am_p1R_x H
    exact Or.inl ⟨_, _, _, _, H, ⟨Nat.le_refl _, Nat.le_refl _⟩, fun K' _ _ h => h⟩
  case iadd =>
    obtain ⟨a, b, s, rfl, H⟩ := am_p2I_x H
    exact Or.inl ⟨_, _, _, _, H, ⟨Nat.le_refl _, Nat.le_refl _⟩, fun K' _ _ h => h⟩
  case isub =>
    obtain ⟨a, b, s, rfl, H⟩ := am_p2I_x H
    exact Or.inl ⟨_, _, _, _, H, ⟨Nat.le_refl _, Nat.le_refl _⟩, fun K' _ _ h => h⟩
  case imul =>
    obtain ⟨a, b, s, rfl, H⟩ := am_p2I_x H
    exact Or.inl ⟨_, _, _, _, H, ⟨Nat.le_refl _, Nat.le_refl _⟩, fun K' _ _ h => h⟩
  case iand =>
    obtain ⟨a, b, s, rfl, H⟩ := am_p2I_x H
    exact Or.inl ⟨_, _, _, _, H, ⟨Nat.le_refl _, Nat.le_refl _⟩, fun K' _ _ h => h⟩
  case ishr =>
    obtain ⟨a, b, s, rfl, H⟩ := am_p2I_x H
    exact Or.inl ⟨_, _, _, _, H, ⟨Nat.le_refl _, Nat.le_refl _⟩, fun K' _ _ h => h⟩
  case idiv =>
    obtain ⟨a, b, s, rfl, g, H⟩ := am_p2I_x H
    exact Or.inl ⟨_, _, _, _, H, ⟨Nat.le_refl _, Nat.le_refl _⟩, fun K' _ _ h => ⟨g, h⟩⟩
  case irem =>
    obtain ⟨a, b, s, rfl, g, H⟩ := am_p2I_x H
    exact Or.inl ⟨_, _, _, _, H, ⟨Nat.le_refl _, Nat.le_refl _⟩, fun K' _ _ h => ⟨g, h⟩⟩
  case ladd =>
    obtain ⟨a, b, s, rfl, H⟩ := am_p2J_x H
    exact Or.inl ⟨_, _, _, _, H, ⟨Nat.le_refl _, Nat.le_refl _⟩, fun K' _ _ h => h⟩
  case lsub =>
    obtain ⟨a, b, s, rfl, H⟩ := am_p2J_x H
    exact Or.inl ⟨_, _, _, _, H, ⟨Nat.le_refl _, Nat.le_refl _⟩, fun K' _ _ h => h⟩
  case lmul =>
    obtain ⟨a, b, s, rfl, H⟩ := am_p2J_x H
    exact Or.inl ⟨_, _, _, _, H, ⟨Nat.le_refl _, Nat.le_refl _⟩, fun K' _ _ h => h⟩
  case land =>
    obtain ⟨a, b, s, rfl, H⟩ := am_p2J_x H
    exact Or.inl ⟨_, _, _, _, H, ⟨Nat.le_refl _, Nat.le_refl _⟩, fun K' _ _ h => h⟩
  case lor =>
    obtain ⟨a, b, s, rfl, H⟩ := am_p2J_x H
    exact Or.inl ⟨_, _, _, _, H, ⟨Nat.le_refl _, Nat.le_refl _⟩, fun K' _ _ h => h⟩
  case lcmp =>
    obtain ⟨a, b, s, rfl, H⟩ := am_p2J_x H
    exact Or.inl ⟨_, _, _, _, H, ⟨Nat.le_refl _, Nat.le_refl _⟩, fun K' _ _ h => h⟩
  case ldiv =>
    obtain ⟨a, b, s, rfl, g, H⟩ := am_p2J_x H
    exact Or.inl ⟨_, _, _, _, H, ⟨Nat.le_refl _, Nat.le_refl _⟩, fun K' _ _ h => ⟨g, h⟩⟩
  case lrem =>
    obtain ⟨a, b, s, rfl, g, H⟩ := am_p2J_x H
    exact Or.inl ⟨_, _, _, _, H, ⟨Nat.le_refl _, Nat.le_refl _⟩, fun K' _ _ h => ⟨g, h⟩⟩
  case lshl =>
    obtain ⟨a, b, s, rfl, H⟩ := am_pJI_x H
    exact Or.inl ⟨_, _, _, _, H, ⟨Nat.le_refl _, Nat.le_refl _⟩, fun K' _ _ h => h⟩
  case dup =>
    obtain ⟨a, s, rfl, g, H⟩ := am_w1_x H
    exact Or.inl ⟨_, _, _, _, H, ⟨Nat.le_refl _, Nat.le_refl _⟩, fun K' _ _ h => ⟨g, h⟩⟩
  case pop =>
    obtain ⟨a, s, rfl, g, H⟩ := am_w1_x H
    exact Or.inl ⟨_, _, _, _, H, ⟨Nat.le_refl _, Nat.le_refl _⟩, fun K' _ _ h => ⟨g, h⟩⟩
  case dup_x1 =>
    obtain ⟨a, b, s, rfl, g1, g2, H⟩ := am_w2_x H
    exact Or.inl ⟨_, _, _, _, H, ⟨Nat.le_refl _, Nat.le_refl _⟩, fun K' _ _ h => ⟨g1, g2, h⟩⟩
  case dup2 =>
    split at H
    · exact Or.inl ⟨_, _, _, _, H, ⟨Nat.le_refl _, Nat.le_refl _⟩, fun K' _ _ h => h⟩
    · rename_i hno
      obtain ⟨a, b, s, rfl, g1, g2, H⟩ := am_w2_x H
      exact Or.inl ⟨_, _, _, _, H, ⟨Nat.le_refl _, Nat.le_refl _⟩, fun K' _ _ h => ⟨g1, g2, h⟩⟩
  case ifCond c off =>
    obtain ⟨a, s, rfl, H⟩ := am_p1I_x H
    cases c <;> (rcases am_br_x H with ⟨g, H⟩ | ⟨g, H⟩ <;> first | (exact Or.inl ⟨_, _, _, _, H, ⟨Nat.le_refl _, Nat.le_refl _⟩, fun K' _ _ h => am_br_t g h⟩) | (exact Or.inl ⟨_, _, _, _, H, ⟨Nat.le_refl _, Nat.le_refl _⟩, fun K' _ _ h => am_br_f g h⟩))
  case if_icmp c off =>
    obtain ⟨a, b, s, rfl, H⟩ := am_p2I_x H
    cases c <;> (rcases am_br_x H with ⟨g, H⟩ | ⟨g, H⟩ <;> first | (exact Or.inl ⟨_, _, _, _, H, ⟨Nat.le_refl _, Nat.le_refl _⟩, fun K' _ _ h => am_br_t g h⟩) | (exact Or.inl ⟨_, _, _, _, H, ⟨Nat.le_refl _, Nat.le_refl _⟩, fun K' _ _ h => am_br_f g h⟩))
  case if_acmp c off =>
    obtain ⟨a, b, s, rfl, H⟩ := am_p2R_x H
    cases c <;> (rcases am_br_x H with ⟨g, H⟩ | ⟨g, H⟩ <;> first | (exact Or.inl ⟨_, _, _, _, H, ⟨Nat.le_refl _, Nat.le_refl _⟩, fun K' _ _ h => am_br_t g h⟩) | (exact Or.inl ⟨_, _, _, _, H, ⟨Nat.le_refl _, Nat.le_refl _⟩, fun K' _ _ h => am_br_f g h⟩))
  case ifnull _ =>
    obtain ⟨a, s, rfl, H⟩ := am_p1R_x H
    rcases am_br_x H with ⟨g, H⟩ | ⟨g, H⟩
    · exact Or.inl ⟨_, _, _, _, H, ⟨Nat.le_refl _, Nat.le_refl _⟩, fun K' _ _ h => am_br_t g h⟩
    · exact Or.inl ⟨_, _, _, _, H, ⟨Nat.le_refl _, Nat.le_refl _⟩, fun K' _ _ h => am_br_f g h⟩
  case ifnonnull _ =>
    obtain ⟨a, s, rfl, H⟩ := am_p1R_x H
    rcases am_br_x H with ⟨g, H⟩ | ⟨g, H⟩
    · exact Or.inl ⟨_, _, _, _, H, ⟨Nat.le_refl _, Nat.le_refl _⟩, fun K' _ _ h => am_br_t g h⟩
    · exact Or.inl ⟨_, _, _, _, H, ⟨Nat.le_refl _, Nat.le_refl _⟩, fun K' _ _ h => am_br_f g h⟩
  case tableswitch _ _ _ _ =>
    obtain ⟨a, s, rfl, H⟩ := am_p1I_x H
    rcases am_tsw_x H with ⟨t, -, H, k⟩ | ⟨-, H, k⟩
    · exact Or.inl ⟨_, _, _, _, H, ⟨Nat.le_refl _, Nat.le_refl _⟩, fun K' _ _ h => k _ _ h⟩
    · exact Or.inl ⟨_, _, _, _, H, ⟨Nat.le_refl _, Nat.le_refl _⟩, fun K' _ _ h => k _ _ h⟩
  case getfield _ =>
    obtain ⟨a, s, rfl, g, H⟩ := am_p1R_x H
    exact Or.inl ⟨_, _, _, _, H, ⟨Nat.le_refl _, Nat.le_refl _⟩, fun K' _ _ h => ⟨g, h⟩⟩
  case putfield _ =>
    rcases am_pRv_x H with ⟨rfl, a, v, s, rfl, g, H9⟩ | ⟨rfl, a, v, s, rfl, g, H9⟩ | ⟨rfl, a, v, s, rfl, g, H9⟩
    · have H := H9 _ rfl
      exact Or.inl ⟨_, _, _, _, H, ⟨Nat.le_refl _, Nat.le_refl _⟩, fun K' _ _ h => ⟨g, am_nh_i h⟩⟩
    · have H := H9 _ rfl
      exact Or.inl ⟨_, _, _, _, H, ⟨Nat.le_refl _, Nat.le_refl _⟩, fun K' _ _ h => ⟨g, am_nh_i h⟩⟩
    · have H := H9 _ rfl
      exact Or.inl ⟨_, _, _, _, H, ⟨Nat.le_refl _, Nat.le_refl _⟩, fun K' _ _ h => ⟨g, am_nh_i h⟩⟩
  case iaload =>
    obtain ⟨a, b, s, rfl, g1, g2, H⟩ := am_pRI_x H
    exact Or.inl ⟨_, _, _, _, H, ⟨Nat.le_refl _, Nat.le_refl _⟩, fun K' _ _ h => ⟨g1, g2, h⟩⟩
  case laload =>
    obtain ⟨a, b, s, rfl, g1, g2, H⟩ := am_pRI_x H
    exact Or.inl ⟨_, _, _, _, H, ⟨Nat.le_refl _, Nat.le_refl _⟩, fun K' _ _ h => ⟨g1, g2, h⟩⟩
  case aaload =>
    obtain ⟨a, b, s, rfl, g1, g2, H⟩ := am_pRI_x H
    exact Or.inl ⟨_, _, _, _, H, ⟨Nat.le_refl _, Nat.le_refl _⟩, fun K' _ _ h => ⟨g1, g2, h⟩⟩
  case iastore =>
    obtain ⟨a, b, v, s, rfl, g1, g2, H9⟩ := am_pRII_x H
    have H := H9 _ rfl
    exact Or.inl ⟨_, _, _, _, H, ⟨Nat.le_refl _, Nat.le_refl _⟩, fun K' _ _ h => ⟨g1, g2, am_nh_i h⟩⟩
  case lastore =>
    obtain ⟨a, b, v, s, rfl, g1, g2, H9⟩ := am_pRIJ_x H
    have H := H9 _ rfl
    exact Or.inl ⟨_, _, _, _, H, ⟨Nat.le_refl _, Nat.le_refl _⟩, fun K' _ _ h => ⟨g1, g2, am_nh_i h⟩⟩
  case aastore =>
    obtain ⟨a, b, v, s, rfl, g1, g2, g3, H9⟩ := am_pRIR_x H
    have H := H9 _ rfl
    exact Or.inl ⟨_, _, _, _, H, ⟨Nat.le_refl _, Nat.le_refl _⟩, fun K' _ _ h => ⟨g1, g2, g3, am_nh_i h⟩⟩
  case arraylength =>
    obtain ⟨a, s, rfl, g, H⟩ := am_p1R_x H
    exact Or.inl ⟨_, _, _, _, H, ⟨Nat.le_refl _, Nat.le_refl _⟩, fun K' _ _ h => ⟨g, h⟩⟩
  case newarray _ =>
    obtain ⟨a, s, rfl, g1, g2, H9⟩ := am_p1I_x H
    have H := H9 _ rfl
    exact Or.inl ⟨_, _, _, _, H, ⟨Nat.le_succ _, Nat.le_add_right _ _⟩, fun K' _ _ h => ⟨g1, g2, am_nh_i h⟩⟩
  case anewarray _ =>
    obtain ⟨a, s, rfl, g1, g2, H9⟩ := am_p1I_x H
    have H := H9 _ rfl
    exact Or.inl ⟨_, _, _, _, H, ⟨Nat.le_succ _, Nat.le_add_right _ _⟩, fun K' _ _ h => ⟨g1, g2, am_nh_i h⟩⟩
  case checkcast _ =>
    obtain ⟨a, s, rfl, g, H⟩ := am_p1R_x H
    exact Or.inl ⟨_, _, _, _, H, ⟨Nat.le_refl _, Nat.le_refl _⟩, fun K' _ _ h => ⟨g, h⟩⟩
  case invokevirtual _ =>
    obtain ⟨as, rest, hn, hst, H2⟩ := am_pn_x H
    subst hst
    obtain ⟨a, s, hst, g, H3⟩ := am_p1R_x H2
    subst hst
    clear H H2
    have H := H3
    clear H3
    split at H
    · rename_i hs
      exact Or.inr (Or.inr ⟨_, _, _, H, hs.2, fun _ _ Cl' h => am_pn_i hn ⟨g, by rw [if_pos hs]; exact h⟩⟩)
    · exact H.elim
  case invokespecial _ =>
    obtain ⟨as, rest, hn, hst, H2⟩ := am_pn_x H
    subst hst
    obtain ⟨a, s, hst, g, H3⟩ := am_p1R_x H2
    subst hst
    clear H H2
    have H := H3
    clear H3
    split at H
    · rename_i hs
      split at H
      · rename_i hx
        exact Or.inl ⟨_, _, _, _, H, ⟨Nat.le_refl _, Nat.le_refl _⟩, fun K' _ _ h => am_pn_i hn ⟨g, by rw [if_pos hs, if_pos hx]; exact h⟩⟩
      · rename_i hx
        exact Or.inr (Or.inr ⟨_, _, _, H, hs.2, fun _ _ Cl' h => am_pn_i hn ⟨g, by rw [if_pos hs, if_neg hx]; exact h⟩⟩)
    · exact H.elim
  case invokestatic _ =>
    by_cases hx0 : x = 0
    · simp only [if_pos hx0] at H ⊢
      obtain ⟨st', H, k⟩ := am_mth_x H
      exact Or.inl ⟨_, _, _, _, H, ⟨Nat.le_refl _, Nat.le_refl _⟩, fun K' _ _ h => k _ h⟩
    · simp only [if_neg hx0] at H ⊢
      obtain ⟨as, rest, hn, hst, H2⟩ := am_pn_x H
      clear H
      have H := H2
      clear H2
      subst hst
      split at H
      · rename_i hs
        exact Or.inr (Or.inr ⟨_, _, _, H, hs.2, fun _ _ Cl' h => am_pn_i hn (by show (if _ then _ else _); rw [if_pos hs]; exact h)⟩)
      · exact H.elim
  case ireturn =>
    split at H
    · split at H
      · rename_i g
        exact Or.inr (Or.inl ⟨_, H, Or.inl ⟨rfl, _, rfl, rfl, Or.inl g⟩, fun _ _ _ h => by rw [if_pos g]; exact h⟩)
      · rename_i g
        exact Or.inr (Or.inl ⟨_, H.2, Or.inl ⟨rfl, _, rfl, rfl, Or.inr H.1⟩, fun _ _ _ h => by rw [if_neg g]; exact ⟨H.1, h⟩⟩)
    · exact H.elim
  case lreturn =>
    split at H
    · exact Or.inr (Or.inl ⟨_, H, Or.inr (Or.inl ⟨rfl, _, rfl, rfl⟩), fun _ _ _ h => h⟩)
    · exact H.elim
  case areturn =>
    split at H
    · exact Or.inr (Or.inl ⟨_, H, Or.inr (Or.inr (Or.inl ⟨rfl, _, rfl, rfl⟩)), fun _ _ _ h => h⟩)
    · exact H.elim
  case return_ =>
    split at H
    · exact Or.inr (Or.inl ⟨_, H, Or.inr (Or.inr (Or.inr ⟨rfl, rfl, rfl⟩)), fun _ _ _ h => h⟩)
    · exact H.elim
set_option maxHeartbeats 4000000 in
theorem am_cps_le {pc : Nat} {q : am_E} {l l' : am_Ls} {st : am_Sk} {h : am_H} {K K' : Nat → am_Ls → am_Sk → am_H → Prop} {Rt : Option am_V → Prop} {Cl : Nat → am_Sk → am_Sk → Prop} (hl : am_le l l') (H : am_cps pc q l st h K Rt Cl)
    (hK : ∀ (pc : Nat) (l1 l2 : am_Ls) (st : am_Sk) (h : am_H), am_le l1 l2 → K pc l1 st h → K' pc l2 st h) : am_cps pc q l' st h K' Rt Cl := by
  obtain ⟨i, x, y, z, u, cI, cJ, ts⟩ := q
  cases i <;> simp only [am_cps] at H ⊢
  case getstatic _ =>
    exact (hK _ _ _ _ _ hl H)
  case aconst_null =>
    exact (hK _ _ _ _ _ hl H)
  case iconst _ =>
    exact (hK _ _ _ _ _ hl H)
  case bipush _ =>
    exact (hK _ _ _ _ _ hl H)
  case sipush _ =>
    exact (hK _ _ _ _ _ hl H)
  case ldc _ =>
    exact (hK _ _ _ _ _ hl H)
  case lconst _ =>
    exact (hK _ _ _ _ _ hl H)
  case ldc2_w _ =>
    exact (hK _ _ _ _ _ hl H)
  case goto _ =>
    exact (hK _ _ _ _ _ hl H)
  case new _ =>
    have H := H _ rfl
    exact am_nh_i (hK _ _ _ _ _ hl H)
  case iload_n _ =>
    obtain ⟨v, e, H⟩ := am_lI_x H
    exact am_lI_i (hl.2 _ _ e) (hK _ _ _ _ _ hl H)
  case iload _ =>
    obtain ⟨v, e, H⟩ := am_lI_x H
    exact am_lI_i (hl.2 _ _ e) (hK _ _ _ _ _ hl H)
  case lload_n _ =>
    obtain ⟨v, e, H⟩ := am_lJ_x H
    exact am_lJ_i (hl.2 _ _ e) (hK _ _ _ _ _ hl H)
  case lload _ =>
    obtain ⟨v, e, H⟩ := am_lJ_x H
    exact am_lJ_i (hl.2 _ _ e) (hK _ _ _ _ _ hl H)
  case aload_n _ =>
    obtain ⟨v, e, H⟩ := am_lR_x H
    exact am_lR_i (hl.2 _ _ e) (hK _ _ _ _ _ hl H)
  case aload _ =>
    obtain ⟨v, e, H⟩ := am_lR_x H
    exact am_lR_i (hl.2 _ _ e) (hK _ _ _ _ _ hl H)
  case iinc _ _ =>
    obtain ⟨v, e, H⟩ := am_lI_x H
    exact am_lI_i (hl.2 _ _ e) (hK _ _ _ _ _ (am_le_s1 hl) H)
  case istore_n _ =>
    obtain ⟨a, s, rfl, H⟩ := am_p1I_x H
    exact (hK _ _ _ _ _ (am_le_s1 hl) H)
  case istore _ =>
    obtain ⟨a, s, rfl, H⟩ := am_p1I_x H
    exact (hK _ _ _ _ _ (am_le_s1 hl) H)
  case i2l =>
    obtain ⟨a, s, rfl, H⟩ := am_p1I_x H
    exact (hK _ _ _ _ _ hl H)
  case lstore_n _ =>
    obtain ⟨a, s, rfl, H⟩ := am_p1J_x H
    exact (hK _ _ _ _ _ (am_le_s2 hl) H)
  case lstore _ =>
    obtain ⟨a, s, rfl, H⟩ := am_p1J_x H
    exact (hK _ _ _ _ _ (am_le_s2 hl) H)
  case lneg =>
    obtain ⟨a, s, rfl, H⟩ := am_p1J_x H
    exact (hK _ _ _ _ _ hl H)
  case l2i =>
    obtain ⟨a, s, rfl, H⟩ := am_p1J_x H
    exact (hK _ _ _ _ _ hl H)
  case astore_n _ =>
    obtain ⟨a, s, rfl, H⟩ := am_p1R_x H
    exact (hK _ _ _ _ _ (am_le_s1 hl) H)
  case astore _ =>
    obtain ⟨a, s, rfl, H⟩ := am_p1R_x H
    exact (hK _ _ _ _ _ (am_le_s1 hl) H)
  case iadd =>
    obtain ⟨a, b, s, rfl, H⟩ := am_p2I_x H
    exact (hK _ _ _ _ _ hl H)
  case isub =>
    obtain ⟨a, b, s, rfl, H⟩ := am_p2I_x H
    exact (hK _ _ _ _ _ hl H)
  case imul =>
    obtain ⟨a, b, s, rfl, H⟩ := am_p2I_x H
    exact (hK _ _ _ _ _ hl H)
  case iand =>
    obtain ⟨a, b, s, rfl, H⟩ := am_p2I_x H
    exact (hK _ _ _ _ _ hl H)
  case ishr =>
    obtain ⟨a, b, s, rfl, H⟩ := am_p2I_x H
    exact (hK _ _ _ _ _ hl H)
  case idiv =>
    obtain ⟨a, b, s, rfl, g, H⟩ := am_p2I_x H
    exact ⟨g, (hK _ _ _ _ _ hl H)⟩
  case irem =>
    obtain ⟨a, b, s, rfl, g, H⟩ := am_p2I_x H
    exact ⟨g, (hK _ _ _ _ _ hl H)⟩
  case ladd =>
    obtain ⟨a, b, s, rfl, H⟩ := am_p2J_x H
    exact (hK _ _ _ _ _ hl H)
  case lsub =>
    obtain ⟨a, b, s, rfl, H⟩ := am_p2J_x H
    exact (hK _ _ _ _ _ hl H)
  case lmul =>
    obtain ⟨a, b, s, rfl, H⟩ := am_p2J_x H
    exact (hK _ _ _ _ _ hl H)
  case land =>
    obtain ⟨a, b, s, rfl, H⟩ := am_p2J_x H
    exact (hK _ _ _ _ _ hl H)
  case lor =>
    obtain ⟨a, b, s, rfl, H⟩ := am_p2J_x H
    exact (hK _ _ _ _ _ hl H)
  case lcmp =>
    obtain ⟨a, b, s, rfl, H⟩ := am_p2J_x H
    exact (hK _ _ _ _ _ hl H)
  case ldiv =>
    obtain ⟨a, b, s, rfl, g, H⟩ := am_p2J_x H
    exact ⟨g, (hK _ _ _ _ _ hl H)⟩
  case lrem =>
    obtain ⟨a, b, s, rfl, g, H⟩ := am_p2J_x H
    exact ⟨g, (hK _ _ _ _ _ hl H)⟩
  case lshl =>
    obtain ⟨a, b, s, rfl, H⟩ := am_pJI_x H
    exact (hK _ _ _ _ _ hl H)
  case dup =>
    obtain ⟨a, s, rfl, g, H⟩ := am_w1_x H
    exact ⟨g, (hK _ _ _ _ _ hl H)⟩
  case pop =>
    obtain ⟨a, s, rfl, g, H⟩ := am_w1_x H
    exact ⟨g, (hK _ _ _ _ _ hl H)⟩
  case dup_x1 =>
    obtain ⟨a, b, s, rfl, g1, g2, H⟩ := am_w2_x H
    exact ⟨g1, g2, (hK _ _ _ _ _ hl H)⟩
  case dup2 =>
    split at H
    · exact (hK _ _ _ _ _ hl H)
    · rename_i hno
      obtain ⟨a, b, s, rfl, g1, g2, H⟩ := am_w2_x H
      exact ⟨g1, g2, (hK _ _ _ _ _ hl H)⟩
  case ifCond c off =>
    obtain ⟨a, s, rfl, H⟩ := am_p1I_x H
    cases c <;> (rcases am_br_x H with ⟨g, H⟩ | ⟨g, H⟩ <;> first | (exact am_br_t g (hK _ _ _ _ _ hl H)) | (exact am_br_f g (hK _ _ _ _ _ hl H)))
  case if_icmp c off =>
    obtain ⟨a, b, s, rfl, H⟩ := am_p2I_x H
    cases c <;> (rcases am_br_x H with ⟨g, H⟩ | ⟨g, H⟩ <;> first | (exact am_br_t g (hK _ _ _ _ _ hl H)) | (exact am_br_f g (hK _ _ _ _ _ hl H)))
  case if_acmp c off =>
    obtain ⟨a, b, s, rfl, H⟩ := am_p2R_x H
    cases c <;> (rcases am_br_x H with ⟨g, H⟩ | ⟨g, H⟩ <;> first | (exact am_br_t g (hK _ _ _ _ _ hl H)) | (exact am_br_f g (hK _ _ _ _ _ hl H)))
  case ifnull _ =>
    obtain ⟨a, s, rfl, H⟩ := am_p1R_x H
    rcases am_br_x H with ⟨g, H⟩ | ⟨g, H⟩
    · exact am_br_t g (hK _ _ _ _ _ hl H)
    · exact am_br_f g (hK _ _ _ _ _ hl H)
  case ifnonnull _ =>
    obtain ⟨a, s, rfl, H⟩ := am_p1R_x H
    rcases am_br_x H with ⟨g, H⟩ | ⟨g, H⟩
    · exact am_br_t g (hK _ _ _ _ _ hl H)
    · exact am_br_f g (hK _ _ _ _ _ hl H)
  case tableswitch _ _ _ _ =>
    obtain ⟨a, s, rfl, H⟩ := am_p1I_x H
    rcases am_tsw_x H with ⟨t, -, H, k⟩ | ⟨-, H, k⟩
    · exact k _ _ (hK _ _ _ _ _ hl H)
    · exact k _ _ (hK _ _ _ _ _ hl H)
  case getfield _ =>
    obtain ⟨a, s, rfl, g, H⟩ := am_p1R_x H
    exact ⟨g, (hK _ _ _ _ _ hl H)⟩
  case putfield _ =>
    rcases am_pRv_x H with ⟨rfl, a, v, s, rfl, g, H9⟩ | ⟨rfl, a, v, s, rfl, g, H9⟩ | ⟨rfl, a, v, s, rfl, g, H9⟩
    · have H := H9 _ rfl
      exact ⟨g, am_nh_i (hK _ _ _ _ _ hl H)⟩
    · have H := H9 _ rfl
      exact ⟨g, am_nh_i (hK _ _ _ _ _ hl H)⟩
    · have H := H9 _ rfl
      exact ⟨g, am_nh_i (hK _ _ _ _ _ hl H)⟩
  case iaload =>
    obtain ⟨a, b, s, rfl, g1, g2, H⟩ := am_pRI_x H
    exact ⟨g1, g2, (hK _ _ _ _ _ hl H)⟩
  case laload =>
    obtain ⟨a, b, s, rfl, g1, g2, H⟩ := am_pRI_x H
    exact ⟨g1, g2, (hK _ _ _ _ _ hl H)⟩
  case aaload =>
    obtain ⟨a, b, s, rfl, g1, g2, H⟩ := am_pRI_x H
    exact ⟨g1, g2, (hK _ _ _ _ _ hl H)⟩
  case iastore =>
    obtain ⟨a, b, v, s, rfl, g1, g2, H9⟩ := am_pRII_x H
    have H := H9 _ rfl
    exact ⟨g1, g2, am_nh_i (hK _ _ _ _ _ hl H)⟩
  case lastore =>
    obtain ⟨a, b, v, s, rfl, g1, g2, H9⟩ := am_pRIJ_x H
    have H := H9 _ rfl
    exact ⟨g1, g2, am_nh_i (hK _ _ _ _ _ hl H)⟩
  case aastore =>
    obtain ⟨a, b, v, s, rfl, g1, g2, g3, H9⟩ := am_pRIR_x H
    have H := H9 _ rfl
    exact ⟨g1, g2, g3, am_nh_i (hK _ _ _ _ _ hl H)⟩
  case arraylength =>
    obtain ⟨a, s, rfl, g, H⟩ := am_p1R_x H
    exact ⟨g, (hK _ _ _ _ _ hl H)⟩
  case newarray _ =>
    obtain ⟨a, s, rfl, g1, g2, H9⟩ := am_p1I_x H
    have H := H9 _ rfl
    exact ⟨g1, g2, am_nh_i (hK _ _ _ _ _ hl H)⟩
  case anewarray _ =>
    obtain ⟨a, s, rfl, g1, g2, H9⟩ := am_p1I_x H
    have H := H9 _ rfl
    exact ⟨g1, g2, am_nh_i (hK _ _ _ _ _ hl H)⟩
  case checkcast _ =>
    obtain ⟨a, s, rfl, g, H⟩ := am_p1R_x H
    exact ⟨g, (hK _ _ _ _ _ hl H)⟩
  case invokevirtual _ =>
    exact H
  case invokespecial _ =>
    obtain ⟨as, rest, hn, hst, H2⟩ := am_pn_x H
    subst hst
    obtain ⟨a, s, hst, g, H3⟩ := am_p1R_x H2
    subst hst
    clear H H2
    have H := H3
    clear H3
    split at H
    · rename_i hs
      split at H
      · rename_i hx
        exact am_pn_i hn ⟨g, by rw [if_pos hs, if_pos hx]; exact (hK _ _ _ _ _ hl H)⟩
      · rename_i hx
        exact am_pn_i hn ⟨g, by rw [if_pos hs, if_neg hx]; exact H⟩
    · exact H.elim
  case invokestatic _ =>
    by_cases hx0 : x = 0
    · simp only [if_pos hx0] at H ⊢
      obtain ⟨st', H, k⟩ := am_mth_x H
      exact k _ (hK _ _ _ _ _ hl H)
    · simp only [if_neg hx0] at H ⊢
      exact H
  case ireturn =>
    exact H
  case lreturn =>
    exact H
  case areturn =>
    exact H
  case return_ =>
    exact H
/-! RUNS: am_W (n steps, d calls deep), am_P (some number of steps), am_PC (a call), am_B (blocks) -/
def am_at (mid pc : Nat) : Option am_E := (am_pg mid).lookup pc
def am_en (mid : Nat) (as : am_Sk) : am_Ls := (as.flatMap fun v => if am_cat v = 2 then [some v, none] else [some v]) ++ List.replicate (am_ml mid - (as.flatMap fun v => if am_cat v = 2 then [some v, none] else [some v]).length) none
/-- Arrays.copyOf of an array of objects: no program of ours, its own contract -/
def am_cp (h : am_H) (a n : Nat) : am_H := (va_up (am_T h) (am_Z h + 1) 104, va_up (am_N h) (am_Z h + 1) n, am_I h, am_J h, am_R h, am_ua (am_aI h) (am_Z h + 1) 0, am_ua (am_aJ h) (am_Z h + 1) 0, (fun b j => if b = am_Z h + 1 then (if j < am_N h a ∧ j < n then am_aR h a j else 0) else am_aR h b j), am_Z h + 1, am_C h + 1, am_S h + n)
def am_isX (m : Nat) : Bool := Nat.beq m mi_R_copyOf
def am_ext (d : Nat) (as : am_Sk) (h : am_H) (K : Option am_V → am_H → Prop) : Prop := match as with
  | [.inr (.inr a), .inl n] => 3 ≤ d ∧ am_T h a = 104 ∧ (¬ n < 0) ∧ n.toNatClampNeg ≤ 1000000 ∧ K (some (.inr (.inr (am_Z h + 1)))) (am_cp h a n.toNatClampNeg)
  | _ => False
theorem am_ext_x {d : Nat} {as : am_Sk} {h : am_H} {K : Option am_V → am_H → Prop} (H : am_ext d as h K) : ∃ r h', K r h' ∧ (am_C h ≤ am_C h' ∧ am_S h ≤ am_S h') ∧ ∀ (d' : Nat) (K' : Option am_V → am_H → Prop), d ≤ d' → K' r h' → am_ext d' as h K' := by
  unfold am_ext at H
  split at H
  · obtain ⟨h1, h2, h3, h4, H⟩ := H
    exact ⟨_, _, H, ⟨Nat.le_succ _, Nat.le_add_right _ _⟩, fun d' K' hd hK => ⟨Nat.le_trans h1 hd, h2, h3, h4, hK⟩⟩
  · exact H.elim
def am_W : Nat → Nat → Nat → Nat → am_Ls → am_Sk → am_H → (Option am_V → am_H → Prop) → Prop
  | 0, _, _, _, _, _, _, _ => False
  | n + 1, d, mid, pc, l, st, h, Q => match am_at mid pc with
    | none => False
    | some q => am_cps pc q l st h (fun pc l st h => am_W n d mid pc l st h Q) (fun r => Q r h)
        (fun m as rest => match d with
          | 0 => False
          | d + 1 => match am_isX m with
            | true => am_ext d as h (fun r h' => am_rk q.2.2.2.2.1 rest r (fun st' => am_W n (d + 1) mid (pc + 3) l st' h' Q))
            | false => am_W n d m 0 (am_en m as) [] h (fun r h' => am_rk q.2.2.2.2.1 rest r (fun st' => am_W n (d + 1) mid (pc + 3) l st' h' Q)))
theorem am_rk_x {u : Nat} {rest : am_Sk} {r : Option am_V} {k : am_Sk → Prop} (H : am_rk u rest r k) : ∃ st', k st' ∧ (∀ k' : am_Sk → Prop, k' st' → am_rk u rest r k') := by
  unfold am_rk at H
  split at H
  · exact ⟨_, H.2, fun k' h => ⟨H.1, h⟩⟩
  · obtain ⟨x, e, H⟩ := H
    exact ⟨_, H, fun k' h => ⟨x, e, h⟩⟩
  · obtain ⟨x, e, H⟩ := H
    exact ⟨_, H, fun k' h => ⟨x, e, h⟩⟩
  · rename_i h0 h1 h2
    obtain ⟨x, e, H⟩ := H
    refine ⟨_, H, fun k' h => ?_⟩
    unfold am_rk
    split
    · exact absurd rfl h0
    · exact absurd rfl h1
    · exact absurd rfl h2
    · exact ⟨x, e, h⟩
/-- more steps, a weaker end -/
theorem am_W_mono : ∀ {n n' d mid pc : Nat} {l : am_Ls} {st : am_Sk} {h : am_H} {Q Q' : Option am_V → am_H → Prop}, n ≤ n' → (∀ r h, Q r h → Q' r h) → am_W n d mid pc l st h Q → am_W n' d mid pc l st h Q' := by
  intro n
  induction n with
  | zero => intro n' d mid pc l st h Q Q' _ _ H; exact H.elim
  | succ n ih =>
    intro n' d mid pc l st h Q Q' hn hQ H
    obtain ⟨m, rfl⟩ : ∃ m, n' = m + 1 := ⟨n' - 1, by omega⟩
    have hnm : n ≤ m := by omega
    simp only [am_W] at H ⊢
    cases hq : am_at mid pc with
    | none => rw [hq] at H; exact H.elim
    | some q =>
      rw [hq] at H
      dsimp only at H ⊢
      rcases am_det H with ⟨pc', l', st', h', H1, -, k⟩ | ⟨r, H1, -, k⟩ | ⟨m', as, rest, H1, -, k⟩
      · exact k _ _ _ (ih hnm hQ H1)
      · exact k _ _ _ (hQ _ _ H1)
      · refine k _ _ _ ?_
        cases d with
        | zero => exact H1.elim
        | succ d =>
          cases hX : am_isX m' with
          | true =>
            simp only [hX] at H1 ⊢
            obtain ⟨r, h', h2, -, k2⟩ := am_ext_x H1
            refine k2 _ _ (Nat.le_refl _) ?_
            obtain ⟨st', h3, h4⟩ := am_rk_x h2
            exact h4 _ (ih hnm hQ h3)
          | false =>
            simp only [hX] at H1 ⊢
            refine ih hnm (fun r h1 h2 => ?_) H1
            obtain ⟨st', h3, h4⟩ := am_rk_x h2
            exact h4 _ (ih hnm hQ h3)
theorem am_W_d : ∀ {n d d' mid pc : Nat} {l : am_Ls} {st : am_Sk} {h : am_H} {Q : Option am_V → am_H → Prop}, d ≤ d' → am_W n d mid pc l st h Q → am_W n d' mid pc l st h Q := by
  intro n
  induction n with
  | zero => intro d d' mid pc l st h Q _ H; exact H.elim
  | succ n ih =>
    intro d d' mid pc l st h Q hd H
    simp only [am_W] at H ⊢
    cases hq : am_at mid pc with
    | none => rw [hq] at H; exact H.elim
    | some q =>
      rw [hq] at H
      dsimp only at H ⊢
      rcases am_det H with ⟨pc', l', st', h', H1, -, k⟩ | ⟨r, H1, -, k⟩ | ⟨m', as, rest, H1, -, k⟩
      · exact k _ _ _ (ih hd H1)
      · exact k _ _ _ H1
      · refine k _ _ _ ?_
        cases d with
        | zero => exact H1.elim
        | succ d =>
          obtain ⟨d2, rfl⟩ : ∃ d2, d' = d2 + 1 := ⟨d' - 1, by omega⟩
          cases hX : am_isX m' with
          | true =>
            simp only [hX] at H1 ⊢
            obtain ⟨r, h', h2, -, k2⟩ := am_ext_x H1
            refine k2 _ _ (by omega) ?_
            obtain ⟨st', h3, h4⟩ := am_rk_x h2
            exact h4 _ (ih hd h3)
          | false =>
            simp only [hX] at H1 ⊢
            refine am_W_mono (Nat.le_refl n) (fun r h1 h2 => ?_) (ih (d' := d2) (by omega) H1)
            obtain ⟨st', h3, h4⟩ := am_rk_x h2
            exact h4 _ (ih hd h3)
theorem am_W_le : ∀ {n d mid pc : Nat} {l l' : am_Ls} {st : am_Sk} {h : am_H} {Q : Option am_V → am_H → Prop}, am_le l l' → am_W n d mid pc l st h Q → am_W n d mid pc l' st h Q := by
  intro n
  induction n with
  | zero => intro d mid pc l l' st h Q _ H; exact H.elim
  | succ n ih =>
    intro d mid pc l l' st h Q hl H
    simp only [am_W] at H ⊢
    cases hq : am_at mid pc with
    | none => rw [hq] at H; exact H.elim
    | some q =>
      rw [hq] at H
      dsimp only at H ⊢
      have H2 := am_cps_le (K' := fun pc l st h => am_W n d mid pc l st h Q) hl H (fun pc l1 l2 st h h1 h2 => ih h1 h2)
      rcases am_det H2 with ⟨pc', l', st', h', H1, -, k⟩ | ⟨r, H1, -, k⟩ | ⟨m', as, rest, H1, -, k⟩
      · exact k _ _ _ H1
      · exact k _ _ _ H1
      · refine k _ _ _ ?_
        cases d with
        | zero => exact H1.elim
        | succ d =>
          cases hX : am_isX m' with
          | true =>
            simp only [hX] at H1 ⊢
            obtain ⟨r, h', h2, -, k2⟩ := am_ext_x H1
            refine k2 _ _ (Nat.le_refl _) ?_
            obtain ⟨st', h3, h4⟩ := am_rk_x h2
            exact h4 _ (ih hl h3)
          | false =>
            simp only [hX] at H1 ⊢
            refine am_W_mono (Nat.le_refl n) (fun r h1 h2 => ?_) H1
            obtain ⟨st', h3, h4⟩ := am_rk_x h2
            exact h4 _ (ih hl h3)
/-- a run has one end -/
theorem am_W_ex : ∀ {n d mid pc : Nat} {l : am_Ls} {st : am_Sk} {h : am_H} {Q : Option am_V → am_H → Prop}, am_W n d mid pc l st h Q → ∃ r h', Q r h' ∧ (am_C h ≤ am_C h' ∧ am_S h ≤ am_S h') ∧ am_W n d mid pc l st h (fun r' h'' => r' = r ∧ h'' = h') := by
  intro n
  induction n with
  | zero => intro d mid pc l st h Q H; exact H.elim
  | succ n ih =>
    intro d mid pc l st h Q H
    simp only [am_W] at H ⊢
    cases hq : am_at mid pc with
    | none => rw [hq] at H; exact H.elim
    | some q =>
      rw [hq] at H
      dsimp only at H ⊢
      rcases am_det H with ⟨pc', l', st', h', H1, hc, k⟩ | ⟨r, H1, -, k⟩ | ⟨m', as, rest, H1, -, k⟩
      · obtain ⟨r, h2, q1, q2, q3⟩ := ih H1
        exact ⟨r, h2, q1, ⟨Nat.le_trans hc.1 q2.1, Nat.le_trans hc.2 q2.2⟩, k _ _ _ q3⟩
      · exact ⟨r, h, H1, ⟨Nat.le_refl _, Nat.le_refl _⟩, k _ _ _ ⟨rfl, rfl⟩⟩
      · cases d with
        | zero => exact H1.elim
        | succ d =>
          cases hX : am_isX m' with
          | true =>
            simp only [hX] at H1
            obtain ⟨r1, h1, q1, q2, k2⟩ := am_ext_x H1
            obtain ⟨st', a1, a2⟩ := am_rk_x q1
            obtain ⟨r, h2, b1, b2, b3⟩ := ih a1
            refine ⟨r, h2, b1, ⟨Nat.le_trans q2.1 b2.1, Nat.le_trans q2.2 b2.2⟩, k _ _ _ ?_⟩
            simp only [hX]
            exact k2 _ _ (Nat.le_refl _) (a2 _ b3)
          | false =>
            simp only [hX] at H1
            obtain ⟨r1, h1, q1, q2, q3⟩ := ih H1
            obtain ⟨st', a1, a2⟩ := am_rk_x q1
            obtain ⟨r, h2, b1, b2, b3⟩ := ih a1
            refine ⟨r, h2, b1, ⟨Nat.le_trans q2.1 b2.1, Nat.le_trans q2.2 b2.2⟩, k _ _ _ ?_⟩
            simp only [hX]
            refine am_W_mono (Nat.le_refl n) (fun r' h' e => ?_) q3
            obtain ⟨rfl, rfl⟩ := e
            exact a2 _ b3
def am_P (d mid pc : Nat) (l : am_Ls) (st : am_Sk) (h : am_H) (Q : Option am_V → am_H → Prop) : Prop := ∃ n, am_W n d mid pc l st h Q
def am_PC (d m : Nat) (as : am_Sk) (h : am_H) (Q : Option am_V → am_H → Prop) : Prop := match d with
  | 0 => False
  | d + 1 => match am_isX m with
    | true => am_ext d as h Q
    | false => am_P d m 0 (am_en m as) [] h Q
theorem am_P_mono {d mid pc : Nat} {l : am_Ls} {st : am_Sk} {h : am_H} {Q Q' : Option am_V → am_H → Prop} (H : am_P d mid pc l st h Q) (hQ : ∀ r h, Q r h → Q' r h) : am_P d mid pc l st h Q' := by
  obtain ⟨n, H⟩ := H
  exact ⟨n, am_W_mono (Nat.le_refl n) hQ H⟩
theorem am_PC_mono {d m : Nat} {as : am_Sk} {h : am_H} {Q Q' : Option am_V → am_H → Prop} (H : am_PC d m as h Q) (hQ : ∀ r h, Q r h → Q' r h) : am_PC d m as h Q' := by
  cases d with
  | zero => exact H
  | succ d =>
    unfold am_PC at H ⊢
    cases hX : am_isX m with
    | true =>
      simp only [hX] at H ⊢
      obtain ⟨r, h', h2, -, k2⟩ := am_ext_x H
      exact k2 _ _ (Nat.le_refl _) (hQ _ _ h2)
    | false =>
      simp only [hX] at H ⊢
      exact am_P_mono H hQ
theorem am_P_d {d d' mid pc : Nat} {l : am_Ls} {st : am_Sk} {h : am_H} {Q : Option am_V → am_H → Prop} (hd : d ≤ d') (H : am_P d mid pc l st h Q) : am_P d' mid pc l st h Q := by
  obtain ⟨n, H⟩ := H
  exact ⟨n, am_W_d hd H⟩
theorem am_P_le {d mid pc : Nat} {l l' : am_Ls} {st : am_Sk} {h : am_H} {Q : Option am_V → am_H → Prop} (hl : am_leb l l') (H : am_P d mid pc l st h Q) : am_P d mid pc l' st h Q := by
  obtain ⟨n, H⟩ := H
  exact ⟨n, am_W_le (am_le_of hl) H⟩
/-- k steps, calls by what they promise, up to the places in 'stops' -/
def am_B : Nat → List Nat → Nat → Nat → Nat → am_Ls → am_Sk → am_H → (Option am_V → am_H → Prop) → Prop
  | 0, _, d, mid, pc, l, st, h, Q => am_P d mid pc l st h Q
  | k + 1, stops, d, mid, pc, l, st, h, Q => match am_at mid pc with
    | none => False
    | some q => am_cps pc q l st h (fun pc l st h => bif stops.elem pc then am_P d mid pc l st h Q else am_B k stops d mid pc l st h Q) (fun r => Q r h)
        (fun m as rest => am_PC d m as h (fun r h' => am_rk q.2.2.2.2.1 rest r (fun st' => am_B k stops d mid (pc + 3) l st' h' Q)))
theorem am_B_P : ∀ {k : Nat} {stops : List Nat} {d mid pc : Nat} {l : am_Ls} {st : am_Sk} {h : am_H} {Q : Option am_V → am_H → Prop}, am_B k stops d mid pc l st h Q → am_P d mid pc l st h Q := by
  intro k
  induction k with
  | zero => intro stops d mid pc l st h Q H; exact H
  | succ k ih =>
    intro stops d mid pc l st h Q H
    simp only [am_B] at H
    cases hq : am_at mid pc with
    | none => rw [hq] at H; exact H.elim
    | some q =>
      rw [hq] at H
      dsimp only at H
      rcases am_det H with ⟨pc', l', st', h', H1, -, k⟩ | ⟨r, H1, -, k⟩ | ⟨m', as, rest, H1, -, k⟩
      · have H2 : am_P d mid pc' l' st' h' Q := by
          cases hs : stops.elem pc' with
          | true => rw [hs] at H1; exact H1
          | false => rw [hs] at H1; exact ih H1
        obtain ⟨n, H2⟩ := H2
        refine ⟨n + 1, ?_⟩
        simp only [am_W]
        rw [hq]
        exact k _ _ _ H2
      · refine ⟨1, ?_⟩
        simp only [am_W]
        rw [hq]
        exact k _ _ _ H1
      · cases d with
        | zero => exact H1.elim
        | succ d =>
          unfold am_PC at H1
          cases hX : am_isX m' with
          | true =>
            simp only [hX] at H1
            obtain ⟨r1, h1, q1, -, k2⟩ := am_ext_x H1
            obtain ⟨st', a1, a2⟩ := am_rk_x q1
            obtain ⟨n2, b⟩ := ih a1
            refine ⟨n2 + 1, ?_⟩
            simp only [am_W]
            rw [hq]
            refine k _ _ _ ?_
            simp only [hX]
            exact k2 _ _ (Nat.le_refl _) (a2 _ b)
          | false =>
            simp only [hX] at H1
            obtain ⟨n1, H1⟩ := H1
            obtain ⟨r1, h1, q1, -, q3⟩ := am_W_ex H1
            obtain ⟨st', a1, a2⟩ := am_rk_x q1
            obtain ⟨n2, b⟩ := ih a1
            refine ⟨n1 + n2 + 1, ?_⟩
            simp only [am_W]
            rw [hq]
            refine k _ _ _ ?_
            simp only [hX]
            refine am_W_mono (n := n1) (by omega) (fun r' h' e => ?_) q3
            obtain ⟨rfl, rfl⟩ := e
            exact a2 _ (am_W_mono (n := n2) (by omega) (fun _ _ h => h) b)
end
section
/-! CHECKS of the tables -/
theorem am_Tf_p : am_Tf = ([84, 85, 86, 87, 89, 90, 92, 93, 94, 95, 119, 121, 124, 125, 127, 128, 130, 131, 133, 168, 170, 171, 172, 173, 183, 184, 185, 186, 187, 188, 189, 190, 191, 192, 193, 273, 275, 276, 284, 286, 288, 347, 349, 351, 353, 565, 570, 572, 565, 597, 598, 599, 600, 617, 618, 619, 620, 621, 622, 623, 624, 625, 626, 627, 628, 629, 630, 631, 632, 633, 634, 635, 636, 637, 638, 639, 640, 641, 642, 643, 644, 645, 646, 647] : List Nat).filterMap (fun i => lw_tbl[i]?) := by decide +kernel
theorem am_Tf_in : ∀ w ∈ am_Tf, w ∈ lw_tbl := fun w hw => by rw [am_Tf_p] at hw; obtain ⟨i, -, hi⟩ := List.mem_filterMap.mp hw; exact List.mem_of_getElem? hi
theorem am_Tm_p : am_Tm = ([64, 67, 76, 83, 158, 161, 164, 167, 217, 221, 234, 235, 239, 246, 249, 253, 256, 264, 271, 301, 310, 316, 328, 333, 337, 346, 364, 368, 372, 376, 380, 383, 387, 390, 393, 406, 412, 415, 418, 420, 436, 440, 448, 457, 460, 473, 474, 478, 482, 485, 488, 492, 498, 506, 511, 518, 522, 526, 530, 533, 536, 540, 569, 574, 578, 584, 587, 590, 593, 612, 615, 711, 715, 719, 724, 728, 732, 737, 742, 747, 751, 755, 760, 765, 769, 773, 777, 782, 786, 790, 796, 800, 804, 808] : List Nat).filterMap (fun i => lw_tbl[i]?) := by decide +kernel
theorem am_Tm_in : ∀ w ∈ am_Tm, w ∈ lw_tbl := fun w hw => by rw [am_Tm_p] at hw; obtain ⟨i, -, hi⟩ := List.mem_filterMap.mp hw; exact List.mem_of_getElem? hi
theorem am_Tc_p : am_Tc = ([62, 70, 77, 154, 156, 182, 225, 265, 272, 305, 314, 315, 332, 341, 386, 409, 411, 419, 456, 496, 515, 516, 517, 539, 544, 610, 616, 723, 736, 741, 746, 759, 764, 781, 794, 795, 812] : List Nat).filterMap (fun i => lw_tbl[i]?) := by decide +kernel
theorem am_Tc_in : ∀ w ∈ am_Tc, w ∈ lw_tbl := fun w hw => by rw [am_Tc_p] at hw; obtain ⟨i, -, hi⟩ := List.mem_filterMap.mp hw; exact List.mem_of_getElem? hi
theorem am_Ti_p : am_Ti = ([41, 42, 43, 44, 45, 46, 47, 48, 49, 50, 51, 52, 53, 54, 55, 56, 57, 58, 59, 60, 61, 63, 72, 79, 117, 118, 157, 174, 260, 267, 342, 545, 581, 609, 611] : List Nat).filterMap (fun i => lw_tbl[i]?) := by decide +kernel
theorem am_Ti_in : ∀ w ∈ am_Ti, w ∈ lw_tbl := fun w hw => by rw [am_Ti_p] at hw; obtain ⟨i, -, hi⟩ := List.mem_filterMap.mp hw; exact List.mem_of_getElem? hi
theorem am_Tn_p : am_Tn = ([73, 80, 88, 91, 120, 122, 123, 126, 129, 132, 134, 226, 230, 242, 261, 268, 274, 285, 287, 289, 297, 306, 320, 324, 343, 348, 350, 352, 354, 424, 428, 432, 444, 452, 464, 468, 469, 497, 502, 510, 546, 814, 818, 819, 820, 821, 822, 823, 824, 825] : List Nat).filterMap (fun i => lw_tbl[i]?) := by decide +kernel
theorem am_Tn_in : ∀ w ∈ am_Tn, w ∈ lw_tbl := fun w hw => by rw [am_Tn_p] at hw; obtain ⟨i, -, hi⟩ := List.mem_filterMap.mp hw; exact List.mem_of_getElem? hi
theorem am_Tx_p : am_Tx = ([96, 98, 100, 102, 104, 106, 108, 110, 112, 114, 135, 137, 139, 141, 143, 145, 147, 149, 151, 175, 177, 179, 194, 196, 198, 200, 202, 204, 206, 208, 210, 212, 214, 277, 279, 281, 290, 292, 294, 355, 357, 359, 361, 555, 556, 557, 558, 559, 560, 561, 562, 563, 564, 605, 648, 650, 652, 654, 656, 658, 660, 662, 664, 666, 668, 670, 672, 674, 676, 678, 680, 682, 684, 686, 688, 690, 692, 694, 696, 698, 700, 702, 704, 706, 708] : List Nat).filterMap (fun i => lw_tbl[i]?) := by decide +kernel
theorem am_Tx_in : ∀ w ∈ am_Tx, w ∈ lw_tbl := fun w hw => by rw [am_Tx_p] at hw; obtain ⟨i, -, hi⟩ := List.mem_filterMap.mp hw; exact List.mem_of_getElem? hi
theorem am_Tk_p : am_Tk = ([65, 68, 74, 81, 159, 162, 165, 218, 219, 223, 228, 232, 236, 237, 240, 244, 247, 250, 251, 254, 258, 262, 269, 299, 303, 308, 312, 318, 322, 326, 329, 330, 335, 338, 339, 344, 365, 366, 370, 374, 378, 381, 384, 388, 391, 394, 396, 397, 398, 399, 400, 401, 402, 403, 404, 407, 413, 416, 422, 426, 430, 434, 438, 442, 446, 450, 454, 458, 462, 466, 471, 475, 476, 479, 480, 483, 486, 489, 490, 493, 494, 499, 500, 504, 507, 508, 512, 513, 519, 520, 523, 524, 528, 531, 534, 537, 541, 542, 553, 554, 567, 575, 580, 585, 588, 591, 594, 613, 712, 713, 716, 717, 721, 725, 726, 730, 733, 734, 738, 739, 744, 748, 749, 752, 753, 757, 761, 762, 766, 767, 770, 771, 775, 778, 779, 784, 788, 792, 798, 802, 805, 806, 809, 810, 816] : List Nat).filterMap (fun i => lw_tbl[i]?) := by decide +kernel
theorem am_Tk_in : ∀ w ∈ am_Tk, w ∈ lw_tbl := fun w hw => by rw [am_Tk_p] at hw; obtain ⟨i, -, hi⟩ := List.mem_filterMap.mp hw; exact List.mem_of_getElem? hi
theorem am_in0 {w : Cond} (h : w ∈ tables_1_1) : w ∈ lw_tbl := List.mem_append_right _ (List.mem_append_left _ h)
theorem am_in1 {w : Cond} (h : w ∈ tables_1_2) : w ∈ lw_tbl := List.mem_append_right _ (List.mem_append_right _ (List.mem_append_left _ h))
theorem am_in2 {w : Cond} (h : w ∈ tables_1_3) : w ∈ lw_tbl := List.mem_append_right _ (List.mem_append_right _ (List.mem_append_right _ (List.mem_append_left _ h)))
theorem am_in3 {w : Cond} (h : w ∈ tables_1_4) : w ∈ lw_tbl := List.mem_append_right _ (List.mem_append_right _ (List.mem_append_right _ (List.mem_append_right _ (h))))
theorem am_q0 : (Cond.code ({ cls := "EthernetGates", name := "<init>", desc := "(I)V" } : Jvm.MethodName) prog_1_method_1_code (4 : Nat) (Option.none : Option Jvm.ClassFile.FieldType)) ∈ lw_tbl := am_in0 (List.mem_of_getElem? (i := 25) rfl)
theorem am_q1 : (Cond.code ({ cls := "java/lang/Object", name := "<init>", desc := "()V" } : Jvm.MethodName) object_method_1_code (1 : Nat) (Option.none : Option Jvm.ClassFile.FieldType)) ∈ lw_tbl := am_in0 (List.mem_of_getElem? (i := 28) rfl)
theorem am_q2 : (Cond.code ({ cls := "EthernetGates$Port", name := "<init>", desc := "(I)V" } : Jvm.MethodName) prog_4_method_1_code (3 : Nat) (Option.none : Option Jvm.ClassFile.FieldType)) ∈ lw_tbl := am_in0 (List.mem_of_getElem? (i := 34) rfl)
theorem am_q3 : (Cond.code ({ cls := "EthernetGates$PortRank", name := "<init>", desc := "()V" } : Jvm.MethodName) prog_5_method_1_code (1 : Nat) (Option.none : Option Jvm.ClassFile.FieldType)) ∈ lw_tbl := am_in0 (List.mem_of_getElem? (i := 41) rfl)
theorem am_q4 : (Cond.code ({ cls := "java/util/ArrayList", name := "<init>", desc := "()V" } : Jvm.MethodName) prog_21_method_2_code (1 : Nat) (Option.none : Option Jvm.ClassFile.FieldType)) ∈ lw_tbl := am_in0 (List.mem_of_getElem? (i := 119) rfl)
theorem am_q5 : (Cond.code ({ cls := "java/util/AbstractList", name := "<init>", desc := "()V" } : Jvm.MethodName) prog_20_method_1_code (1 : Nat) (Option.none : Option Jvm.ClassFile.FieldType)) ∈ lw_tbl := am_in0 (List.mem_of_getElem? (i := 122) rfl)
theorem am_q6 : (Cond.code ({ cls := "java/util/AbstractCollection", name := "<init>", desc := "()V" } : Jvm.MethodName) prog_19_method_1_code (1 : Nat) (Option.none : Option Jvm.ClassFile.FieldType)) ∈ lw_tbl := am_in0 (List.mem_of_getElem? (i := 125) rfl)
theorem am_q7 : (Cond.code ({ cls := "EthernetGates", name := "link", desc := "(IJ)I" } : Jvm.MethodName) prog_1_method_2_code (6 : Nat) (Option.some Jvm.ClassFile.FieldType.int)) ∈ lw_tbl := am_in0 (List.mem_of_getElem? (i := 179) rfl)
theorem am_q8 : (Cond.code ({ cls := "EthernetGates", name := "findPort", desc := "(I)LEthernetGates$Port;" } : Jvm.MethodName) prog_1_method_15_code (2 : Nat) (Option.some (Jvm.ClassFile.FieldType.object "EthernetGates$Port"))) ∈ lw_tbl := am_in0 (List.mem_of_getElem? (i := 183) rfl)
theorem am_q9 : (Cond.code ({ cls := "EthernetGates$Port", name := "isSending", desc := "()Z" } : Jvm.MethodName) prog_4_method_2_code (1 : Nat) (Option.some Jvm.ClassFile.FieldType.boolean)) ∈ lw_tbl := am_in0 (List.mem_of_getElem? (i := 188) rfl)
theorem am_q10 : (Cond.code ({ cls := "EthernetGates$Port", name := "loseFrames", desc := "()I" } : Jvm.MethodName) prog_4_method_4_code (3 : Nat) (Option.some Jvm.ClassFile.FieldType.int)) ∈ lw_tbl := am_in0 (List.mem_of_getElem? (i := 192) rfl)
theorem am_q11 : (Cond.code ({ cls := "EthernetGates", name := "gate", desc := "(IIJJ)I" } : Jvm.MethodName) prog_1_method_3_code (9 : Nat) (Option.some Jvm.ClassFile.FieldType.int)) ∈ lw_tbl := am_in0 (List.mem_of_getElem? (i := 197) rfl)
theorem am_q12 : (Cond.code ({ cls := "EthernetGates", name := "isRank", desc := "(I)Z" } : Jvm.MethodName) prog_1_method_17_code (1 : Nat) (Option.some Jvm.ClassFile.FieldType.boolean)) ∈ lw_tbl := am_in0 (List.mem_of_getElem? (i := 200) rfl)
theorem am_q13 : (Cond.code ({ cls := "EthernetGates$PortRank", name := "addWindow", desc := "(JJ)Z" } : Jvm.MethodName) prog_5_method_5_code (5 : Nat) (Option.some Jvm.ClassFile.FieldType.boolean)) ∈ lw_tbl := am_in0 (List.mem_of_getElem? (i := 204) rfl)
theorem am_q14 : (Cond.code ({ cls := "java/lang/Math", name := "max", desc := "(JJ)J" } : Jvm.MethodName) prog_14_method_66_code (4 : Nat) (Option.some Jvm.ClassFile.FieldType.long)) ∈ lw_tbl := am_in0 (List.mem_of_getElem? (i := 207) rfl)
theorem am_q15 : (Cond.code ({ cls := "EthernetGates", name := "frame", desc := "(IIII)I" } : Jvm.MethodName) prog_1_method_5_code (7 : Nat) (Option.some Jvm.ClassFile.FieldType.int)) ∈ lw_tbl := am_in0 (List.mem_of_getElem? (i := 211) rfl)
theorem am_q16 : (Cond.code ({ cls := "EthernetGates", name := "isAddress", desc := "(I)Z" } : Jvm.MethodName) prog_1_method_18_code (1 : Nat) (Option.some Jvm.ClassFile.FieldType.boolean)) ∈ lw_tbl := am_in0 (List.mem_of_getElem? (i := 214) rfl)
theorem am_q17 : (Cond.code ({ cls := "EthernetGates", name := "addressOf", desc := "(I)LEthernetGates$Address;" } : Jvm.MethodName) prog_1_method_16_code (3 : Nat) (Option.some (Jvm.ClassFile.FieldType.object "EthernetGates$Address"))) ∈ lw_tbl := am_in0 (List.mem_of_getElem? (i := 218) rfl)
theorem am_q18 : (Cond.code ({ cls := "EthernetGates$Address", name := "<init>", desc := "()V" } : Jvm.MethodName) prog_2_method_1_code (2 : Nat) (Option.none : Option Jvm.ClassFile.FieldType)) ∈ lw_tbl := am_in0 (List.mem_of_getElem? (i := 222) rfl)
theorem am_q19 : (Cond.code ({ cls := "EthernetGates$Stream", name := "<init>", desc := "()V" } : Jvm.MethodName) prog_6_method_1_code (1 : Nat) (Option.none : Option Jvm.ClassFile.FieldType)) ∈ lw_tbl := am_in0 (List.mem_of_getElem? (i := 229) rfl)
theorem am_q20 : (Cond.code ({ cls := "EthernetGates$Stream", name := "takesOne", desc := "(J)Z" } : Jvm.MethodName) prog_6_method_3_code (4 : Nat) (Option.some Jvm.ClassFile.FieldType.boolean)) ∈ lw_tbl := am_in1 (List.mem_of_getElem? (i := 19) rfl)
theorem am_q21 : (Cond.code ({ cls := "EthernetGates$Stream", name := "takenAt", desc := "(J)I" } : Jvm.MethodName) prog_6_method_2_code (3 : Nat) (Option.some Jvm.ClassFile.FieldType.int)) ∈ lw_tbl := am_in1 (List.mem_of_getElem? (i := 23) rfl)
theorem am_q22 : (Cond.code ({ cls := "EthernetGates$Address", name := "portAt", desc := "(J)I" } : Jvm.MethodName) prog_2_method_3_code (3 : Nat) (Option.some Jvm.ClassFile.FieldType.int)) ∈ lw_tbl := am_in1 (List.mem_of_getElem? (i := 28) rfl)
theorem am_q23 : (Cond.code ({ cls := "EthernetGates$Address", name := "isFixed", desc := "()Z" } : Jvm.MethodName) prog_2_method_2_code (1 : Nat) (Option.some Jvm.ClassFile.FieldType.boolean)) ∈ lw_tbl := am_in1 (List.mem_of_getElem? (i := 32) rfl)
theorem am_q24 : (Cond.code ({ cls := "EthernetGates", name := "queueCopies", desc := "(LEthernetGates$Port;III)I" } : Jvm.MethodName) prog_1_method_20_code (9 : Nat) (Option.some Jvm.ClassFile.FieldType.int)) ∈ lw_tbl := am_in1 (List.mem_of_getElem? (i := 38) rfl)
theorem am_q25 : (Cond.code ({ cls := "EthernetGates$Port", name := "queue", desc := "(III)Z" } : Jvm.MethodName) prog_4_method_3_code (4 : Nat) (Option.some Jvm.ClassFile.FieldType.boolean)) ∈ lw_tbl := am_in1 (List.mem_of_getElem? (i := 42) rfl)
theorem am_q26 : (Cond.code ({ cls := "EthernetGates$PortRank", name := "add", desc := "(II)Z" } : Jvm.MethodName) prog_5_method_2_code (4 : Nat) (Option.some Jvm.ClassFile.FieldType.boolean)) ∈ lw_tbl := am_in1 (List.mem_of_getElem? (i := 46) rfl)
theorem am_q27 : (Cond.code ({ cls := "EthernetGates", name := "run", desc := "(J)I" } : Jvm.MethodName) prog_1_method_6_code (9 : Nat) (Option.some Jvm.ClassFile.FieldType.int)) ∈ lw_tbl := am_in1 (List.mem_of_getElem? (i := 50) rfl)
theorem am_q28 : (Cond.code ({ cls := "EthernetGates", name := "endSendings", desc := "()V" } : Jvm.MethodName) prog_1_method_21_code (3 : Nat) (Option.none : Option Jvm.ClassFile.FieldType)) ∈ lw_tbl := am_in1 (List.mem_of_getElem? (i := 55) rfl)
theorem am_q29 : (Cond.code ({ cls := "java/util/ArrayList", name := "size", desc := "()I" } : Jvm.MethodName) prog_21_method_8_code (1 : Nat) (Option.some Jvm.ClassFile.FieldType.int)) ∈ lw_tbl := am_in1 (List.mem_of_getElem? (i := 59) rfl)
theorem am_q30 : (Cond.code ({ cls := "EthernetGates$Departure", name := "<init>", desc := "(IIJJ)V" } : Jvm.MethodName) prog_3_method_1_code (7 : Nat) (Option.none : Option Jvm.ClassFile.FieldType)) ∈ lw_tbl := am_in1 (List.mem_of_getElem? (i := 64) rfl)
theorem am_q31 : (Cond.code ({ cls := "java/util/ArrayList", name := "add", desc := "(Ljava/lang/Object;)Z" } : Jvm.MethodName) prog_21_method_25_code (2 : Nat) (Option.some Jvm.ClassFile.FieldType.boolean)) ∈ lw_tbl := am_in1 (List.mem_of_getElem? (i := 86) rfl)
theorem am_q32 : (Cond.code ({ cls := "java/util/ArrayList", name := "add", desc := "(Ljava/lang/Object;[Ljava/lang/Object;I)V" } : Jvm.MethodName) prog_21_method_24_code (4 : Nat) (Option.none : Option Jvm.ClassFile.FieldType)) ∈ lw_tbl := am_in1 (List.mem_of_getElem? (i := 90) rfl)
theorem am_q33 : (Cond.code ({ cls := "java/util/ArrayList", name := "grow", desc := "()[Ljava/lang/Object;" } : Jvm.MethodName) prog_21_method_7_code (1 : Nat) (Option.some (Jvm.ClassFile.FieldType.array (Jvm.ClassFile.FieldType.object "java/lang/Object")))) ∈ lw_tbl := am_in1 (List.mem_of_getElem? (i := 94) rfl)
theorem am_q34 : (Cond.code ({ cls := "java/util/ArrayList", name := "grow", desc := "(I)[Ljava/lang/Object;" } : Jvm.MethodName) prog_21_method_6_code (4 : Nat) (Option.some (Jvm.ClassFile.FieldType.array (Jvm.ClassFile.FieldType.object "java/lang/Object")))) ∈ lw_tbl := am_in1 (List.mem_of_getElem? (i := 98) rfl)
theorem am_q35 : (Cond.code ({ cls := "jdk/internal/util/ArraysSupport", name := "newLength", desc := "(III)I" } : Jvm.MethodName) prog_28_method_27_code (4 : Nat) (Option.some Jvm.ClassFile.FieldType.int)) ∈ lw_tbl := am_in1 (List.mem_of_getElem? (i := 101) rfl)
theorem am_q36 : (Cond.code ({ cls := "java/lang/Math", name := "max", desc := "(II)I" } : Jvm.MethodName) prog_14_method_65_code (2 : Nat) (Option.some Jvm.ClassFile.FieldType.int)) ∈ lw_tbl := am_in1 (List.mem_of_getElem? (i := 104) rfl)
theorem am_q37 : (Cond.code ({ cls := "jdk/internal/util/ArraysSupport", name := "hugeLength", desc := "(II)I" } : Jvm.MethodName) prog_28_method_28_code (3 : Nat) (Option.some Jvm.ClassFile.FieldType.int)) ∈ lw_tbl := am_in1 (List.mem_of_getElem? (i := 108) rfl)
theorem am_q38 : (Cond.code ({ cls := "java/util/Arrays", name := "copyOf", desc := "([Ljava/lang/Object;I)[Ljava/lang/Object;" } : Jvm.MethodName) prog_22_method_119_code (2 : Nat) (Option.some (Jvm.ClassFile.FieldType.array (Jvm.ClassFile.FieldType.object "java/lang/Object")))) ∈ lw_tbl := am_in1 (List.mem_of_getElem? (i := 111) rfl)
theorem am_q39 : (Cond.code ({ cls := "java/util/Arrays", name := "copyOf", desc := "([Ljava/lang/Object;ILjava/lang/Class;)[Ljava/lang/Object;" } : Jvm.MethodName) prog_22_method_120_code (4 : Nat) (Option.some (Jvm.ClassFile.FieldType.array (Jvm.ClassFile.FieldType.object "java/lang/Object")))) ∈ lw_tbl := am_in1 (List.mem_of_getElem? (i := 127) rfl)
theorem am_q40 : (Cond.code ({ cls := "java/lang/Math", name := "min", desc := "(II)I" } : Jvm.MethodName) prog_14_method_69_code (2 : Nat) (Option.some Jvm.ClassFile.FieldType.int)) ∈ lw_tbl := am_in1 (List.mem_of_getElem? (i := 133) rfl)
theorem am_q41 : (Cond.code ({ cls := "EthernetGates", name := "beginSendings", desc := "()V" } : Jvm.MethodName) prog_1_method_22_code (2 : Nat) (Option.none : Option Jvm.ClassFile.FieldType)) ∈ lw_tbl := am_in1 (List.mem_of_getElem? (i := 142) rfl)
theorem am_q42 : (Cond.code ({ cls := "EthernetGates$Port", name := "beginNext", desc := "(JJ)V" } : Jvm.MethodName) prog_4_method_5_code (11 : Nat) (Option.none : Option Jvm.ClassFile.FieldType)) ∈ lw_tbl := am_in1 (List.mem_of_getElem? (i := 146) rfl)
theorem am_q43 : (Cond.code ({ cls := "EthernetGates$PortRank", name := "firstBits", desc := "()I" } : Jvm.MethodName) prog_5_method_4_code (1 : Nat) (Option.some Jvm.ClassFile.FieldType.int)) ∈ lw_tbl := am_in1 (List.mem_of_getElem? (i := 150) rfl)
theorem am_q44 : (Cond.code ({ cls := "EthernetGates$PortRank", name := "letsBegin", desc := "(JJ)Z" } : Jvm.MethodName) prog_5_method_8_code (5 : Nat) (Option.some Jvm.ClassFile.FieldType.boolean)) ∈ lw_tbl := am_in1 (List.mem_of_getElem? (i := 154) rfl)
theorem am_q45 : (Cond.code ({ cls := "EthernetGates$PortRank", name := "isShaped", desc := "()Z" } : Jvm.MethodName) prog_5_method_6_code (1 : Nat) (Option.some Jvm.ClassFile.FieldType.boolean)) ∈ lw_tbl := am_in1 (List.mem_of_getElem? (i := 158) rfl)
theorem am_q46 : (Cond.code ({ cls := "EthernetGates$PortRank", name := "isOpenFor", desc := "(JJ)Z" } : Jvm.MethodName) prog_5_method_9_code (6 : Nat) (Option.some Jvm.ClassFile.FieldType.boolean)) ∈ lw_tbl := am_in1 (List.mem_of_getElem? (i := 162) rfl)
theorem am_q47 : (Cond.code ({ cls := "EthernetGates$PortRank", name := "removeFirst", desc := "()I" } : Jvm.MethodName) prog_5_method_3_code (2 : Nat) (Option.some Jvm.ClassFile.FieldType.int)) ∈ lw_tbl := am_in1 (List.mem_of_getElem? (i := 166) rfl)
theorem am_q48 : (Cond.code ({ cls := "EthernetGates", name := "ticksUntilChange", desc := "()J" } : Jvm.MethodName) prog_1_method_23_code (4 : Nat) (Option.some Jvm.ClassFile.FieldType.long)) ∈ lw_tbl := am_in1 (List.mem_of_getElem? (i := 170) rfl)
theorem am_q49 : (Cond.code ({ cls := "EthernetGates$Port", name := "ticksUntilChange", desc := "(J)J" } : Jvm.MethodName) prog_4_method_6_code (3 : Nat) (Option.some Jvm.ClassFile.FieldType.long)) ∈ lw_tbl := am_in1 (List.mem_of_getElem? (i := 174) rfl)
theorem am_q50 : (Cond.code ({ cls := "java/lang/Math", name := "min", desc := "(JJ)J" } : Jvm.MethodName) prog_14_method_70_code (4 : Nat) (Option.some Jvm.ClassFile.FieldType.long)) ∈ lw_tbl := am_in1 (List.mem_of_getElem? (i := 178) rfl)
theorem am_q51 : (Cond.code ({ cls := "EthernetGates", name := "moveCredits", desc := "(J)V" } : Jvm.MethodName) prog_1_method_24_code (4 : Nat) (Option.none : Option Jvm.ClassFile.FieldType)) ∈ lw_tbl := am_in1 (List.mem_of_getElem? (i := 182) rfl)
theorem am_q52 : (Cond.code ({ cls := "EthernetGates$Port", name := "moveCredits", desc := "(J)V" } : Jvm.MethodName) prog_4_method_7_code (5 : Nat) (Option.none : Option Jvm.ClassFile.FieldType)) ∈ lw_tbl := am_in1 (List.mem_of_getElem? (i := 186) rfl)
theorem am_q53 : (Cond.code ({ cls := "EthernetGates$PortRank", name := "moveCredit", desc := "(JJ)V" } : Jvm.MethodName) prog_5_method_10_code (5 : Nat) (Option.none : Option Jvm.ClassFile.FieldType)) ∈ lw_tbl := am_in1 (List.mem_of_getElem? (i := 191) rfl)
theorem am_q54 : (Cond.code ({ cls := "EthernetGates", name := "left", desc := "(II)I" } : Jvm.MethodName) prog_1_method_7_code (4 : Nat) (Option.some Jvm.ClassFile.FieldType.int)) ∈ lw_tbl := am_in1 (List.mem_of_getElem? (i := 196) rfl)
theorem am_q55 : (Cond.code ({ cls := "java/util/ArrayList", name := "get", desc := "(I)Ljava/lang/Object;" } : Jvm.MethodName) prog_21_method_20_code (2 : Nat) (Option.some (Jvm.ClassFile.FieldType.object "java/lang/Object"))) ∈ lw_tbl := am_in1 (List.mem_of_getElem? (i := 200) rfl)
theorem am_q56 : (Cond.code ({ cls := "java/util/Objects", name := "checkIndex", desc := "(II)I" } : Jvm.MethodName) prog_25_method_17_code (2 : Nat) (Option.some Jvm.ClassFile.FieldType.int)) ∈ lw_tbl := am_in1 (List.mem_of_getElem? (i := 203) rfl)
theorem am_q57 : (Cond.code ({ cls := "jdk/internal/util/Preconditions", name := "checkIndex", desc := "(IILjava/util/function/BiFunction;)I" } : Jvm.MethodName) prog_29_method_11_code (3 : Nat) (Option.some Jvm.ClassFile.FieldType.int)) ∈ lw_tbl := am_in1 (List.mem_of_getElem? (i := 206) rfl)
theorem am_q58 : (Cond.code ({ cls := "java/util/ArrayList", name := "elementData", desc := "(I)Ljava/lang/Object;" } : Jvm.MethodName) prog_21_method_18_code (2 : Nat) (Option.some (Jvm.ClassFile.FieldType.object "java/lang/Object"))) ∈ lw_tbl := am_in1 (List.mem_of_getElem? (i := 210) rfl)
theorem am_q59 : (Cond.code ({ cls := "EthernetGates", name := "learn", desc := "(IIJ)I" } : Jvm.MethodName) prog_1_method_8_code (7 : Nat) (Option.some Jvm.ClassFile.FieldType.int)) ∈ lw_tbl := am_in1 (List.mem_of_getElem? (i := 214) rfl)
theorem am_q60 : (Cond.code ({ cls := "EthernetGates", name := "credit", desc := "(IIJJ)I" } : Jvm.MethodName) prog_1_method_9_code (8 : Nat) (Option.some Jvm.ClassFile.FieldType.int)) ∈ lw_tbl := am_in1 (List.mem_of_getElem? (i := 220) rfl)
theorem am_q61 : (Cond.code ({ cls := "EthernetGates$PortRank", name := "shape", desc := "(JJ)V" } : Jvm.MethodName) prog_5_method_7_code (5 : Nat) (Option.none : Option Jvm.ClassFile.FieldType)) ∈ lw_tbl := am_in1 (List.mem_of_getElem? (i := 224) rfl)
theorem am_q62 : (Cond.code ({ cls := "EthernetGates", name := "filter", desc := "(IJ)I" } : Jvm.MethodName) prog_1_method_10_code (6 : Nat) (Option.some Jvm.ClassFile.FieldType.int)) ∈ lw_tbl := am_in1 (List.mem_of_getElem? (i := 228) rfl)
theorem am_q63 : (Cond.code ({ cls := "EthernetGates", name := "clock", desc := "(IJ)I" } : Jvm.MethodName) prog_1_method_11_code (7 : Nat) (Option.some Jvm.ClassFile.FieldType.int)) ∈ lw_tbl := am_in1 (List.mem_of_getElem? (i := 233) rfl)
theorem am_q64 : (Cond.code ({ cls := "EthernetGates", name := "dropped", desc := "(I)I" } : Jvm.MethodName) prog_1_method_12_code (2 : Nat) (Option.some Jvm.ClassFile.FieldType.int)) ∈ lw_tbl := am_in2 (List.mem_of_getElem? (i := 0) rfl)
theorem am_q65 : (Cond.code ({ cls := "EthernetGates", name := "service", desc := "(II)I" } : Jvm.MethodName) prog_1_method_13_code (3 : Nat) (Option.some Jvm.ClassFile.FieldType.int)) ∈ lw_tbl := am_in2 (List.mem_of_getElem? (i := 4) rfl)
theorem am_q66 : (Cond.code ({ cls := "EthernetGates", name := "offererOf", desc := "(I)I" } : Jvm.MethodName) prog_1_method_14_code (2 : Nat) (Option.some Jvm.ClassFile.FieldType.int)) ∈ lw_tbl := am_in2 (List.mem_of_getElem? (i := 8) rfl)
theorem am_q67 : (Cond.code ({ cls := "EthernetGates", name := "isService", desc := "(I)Z" } : Jvm.MethodName) prog_1_method_19_code (1 : Nat) (Option.some Jvm.ClassFile.FieldType.boolean)) ∈ lw_tbl := am_in2 (List.mem_of_getElem? (i := 11) rfl)
theorem am_q68 : (Cond.code ({ cls := "EthernetGatesLaw", name := "cell", desc := "([II)I" } : Jvm.MethodName) method_2_code (2 : Nat) (Option.some Jvm.ClassFile.FieldType.int)) ∈ lw_tbl := am_in2 (List.mem_of_getElem? (i := 14) rfl)
theorem am_q69 : (Cond.code ({ cls := "EthernetGates", name := "cycle", desc := "(J)I" } : Jvm.MethodName) prog_1_method_4_code (3 : Nat) (Option.some Jvm.ClassFile.FieldType.int)) ∈ lw_tbl := am_in2 (List.mem_of_getElem? (i := 22) rfl)
theorem am_q70 : (Cond.code ({ cls := "java/lang/Throwable", name := "<init>", desc := "()V" } : Jvm.MethodName) prog_18_method_1_code (1 : Nat) (Option.none : Option Jvm.ClassFile.FieldType)) ∈ lw_tbl := am_in2 (List.mem_of_getElem? (i := 47) rfl)
theorem am_q71 : (Cond.code ({ cls := "java/lang/ArithmeticException", name := "<init>", desc := "(Ljava/lang/String;)V" } : Jvm.MethodName) prog_10_method_2_code (2 : Nat) (Option.none : Option Jvm.ClassFile.FieldType)) ∈ lw_tbl := am_in2 (List.mem_of_getElem? (i := 65) rfl)
theorem am_q72 : (Cond.code ({ cls := "java/lang/RuntimeException", name := "<init>", desc := "(Ljava/lang/String;)V" } : Jvm.MethodName) prog_15_method_2_code (2 : Nat) (Option.none : Option Jvm.ClassFile.FieldType)) ∈ lw_tbl := am_in2 (List.mem_of_getElem? (i := 68) rfl)
theorem am_q73 : (Cond.code ({ cls := "java/lang/Exception", name := "<init>", desc := "(Ljava/lang/String;)V" } : Jvm.MethodName) prog_12_method_2_code (2 : Nat) (Option.none : Option Jvm.ClassFile.FieldType)) ∈ lw_tbl := am_in2 (List.mem_of_getElem? (i := 71) rfl)
theorem am_q74 : (Cond.code ({ cls := "java/lang/Throwable", name := "<init>", desc := "(Ljava/lang/String;)V" } : Jvm.MethodName) prog_18_method_2_code (2 : Nat) (Option.none : Option Jvm.ClassFile.FieldType)) ∈ lw_tbl := am_in2 (List.mem_of_getElem? (i := 74) rfl)
theorem am_q75 : (Cond.code ({ cls := "EthernetGatesModel", name := "<init>", desc := "(I)V" } : Jvm.MethodName) prog_8_method_1_code (2 : Nat) (Option.none : Option Jvm.ClassFile.FieldType)) ∈ lw_tbl := am_in2 (List.mem_of_getElem? (i := 93) rfl)
theorem am_q76 : (Cond.code ({ cls := "EthernetGatesModel", name := "thrown", desc := "()I" } : Jvm.MethodName) prog_8_method_2_code (1 : Nat) (Option.some Jvm.ClassFile.FieldType.int)) ∈ lw_tbl := am_in2 (List.mem_of_getElem? (i := 193) rfl)
theorem am_q77 : (Cond.code ({ cls := "EthernetGatesModel", name := "link", desc := "(IJ)I" } : Jvm.MethodName) prog_8_method_5_code (6 : Nat) (Option.some Jvm.ClassFile.FieldType.int)) ∈ lw_tbl := am_in2 (List.mem_of_getElem? (i := 197) rfl)
theorem am_q78 : (Cond.code ({ cls := "EthernetGatesModel", name := "none", desc := "(I)Z" } : Jvm.MethodName) prog_8_method_3_code (2 : Nat) (Option.some Jvm.ClassFile.FieldType.boolean)) ∈ lw_tbl := am_in2 (List.mem_of_getElem? (i := 201) rfl)
theorem am_q79 : (Cond.code ({ cls := "EthernetGatesModel", name := "gate", desc := "(IIJJ)I" } : Jvm.MethodName) prog_8_method_6_code (8 : Nat) (Option.some Jvm.ClassFile.FieldType.int)) ∈ lw_tbl := am_in2 (List.mem_of_getElem? (i := 206) rfl)
theorem am_q80 : (Cond.code ({ cls := "EthernetGatesModel", name := "noRank", desc := "(II)Z" } : Jvm.MethodName) prog_8_method_4_code (3 : Nat) (Option.some Jvm.ClassFile.FieldType.boolean)) ∈ lw_tbl := am_in2 (List.mem_of_getElem? (i := 210) rfl)
theorem am_q81 : (Cond.code ({ cls := "EthernetGatesModel", name := "cycle", desc := "(J)I" } : Jvm.MethodName) prog_8_method_7_code (5 : Nat) (Option.some Jvm.ClassFile.FieldType.int)) ∈ lw_tbl := am_in2 (List.mem_of_getElem? (i := 214) rfl)
theorem am_q82 : (Cond.code ({ cls := "EthernetGatesModel", name := "learn", desc := "(IIJ)I" } : Jvm.MethodName) prog_8_method_9_code (6 : Nat) (Option.some Jvm.ClassFile.FieldType.int)) ∈ lw_tbl := am_in2 (List.mem_of_getElem? (i := 219) rfl)
theorem am_q83 : (Cond.code ({ cls := "EthernetGatesModel", name := "isAt", desc := "(I)Z" } : Jvm.MethodName) prog_8_method_8_code (2 : Nat) (Option.some Jvm.ClassFile.FieldType.boolean)) ∈ lw_tbl := am_in2 (List.mem_of_getElem? (i := 224) rfl)
theorem am_q84 : (Cond.code ({ cls := "EthernetGatesModel", name := "credit", desc := "(IIJJ)I" } : Jvm.MethodName) prog_8_method_10_code (7 : Nat) (Option.some Jvm.ClassFile.FieldType.int)) ∈ lw_tbl := am_in2 (List.mem_of_getElem? (i := 229) rfl)
theorem am_q85 : (Cond.code ({ cls := "EthernetGatesModel", name := "filter", desc := "(IJ)I" } : Jvm.MethodName) prog_8_method_12_code (4 : Nat) (Option.some Jvm.ClassFile.FieldType.int)) ∈ lw_tbl := am_in2 (List.mem_of_getElem? (i := 233) rfl)
theorem am_q86 : (Cond.code ({ cls := "EthernetGatesModel", name := "look", desc := "(I)V" } : Jvm.MethodName) prog_8_method_11_code (2 : Nat) (Option.none : Option Jvm.ClassFile.FieldType)) ∈ lw_tbl := am_in2 (List.mem_of_getElem? (i := 237) rfl)
theorem am_q87 : (Cond.code ({ cls := "EthernetGatesModel", name := "clock", desc := "(IJ)I" } : Jvm.MethodName) prog_8_method_13_code (4 : Nat) (Option.some Jvm.ClassFile.FieldType.int)) ∈ lw_tbl := am_in3 (List.mem_of_getElem? (i := 2) rfl)
theorem am_q88 : (Cond.code ({ cls := "EthernetGatesModel", name := "service", desc := "(II)I" } : Jvm.MethodName) prog_8_method_14_code (3 : Nat) (Option.some Jvm.ClassFile.FieldType.int)) ∈ lw_tbl := am_in3 (List.mem_of_getElem? (i := 7) rfl)
theorem am_q89 : (Cond.code ({ cls := "EthernetGatesModel", name := "frame", desc := "(IIII)I" } : Jvm.MethodName) prog_8_method_16_code (10 : Nat) (Option.some Jvm.ClassFile.FieldType.int)) ∈ lw_tbl := am_in3 (List.mem_of_getElem? (i := 11) rfl)
theorem am_q90 : (Cond.code ({ cls := "EthernetGatesModel", name := "enter", desc := "(III)I" } : Jvm.MethodName) prog_8_method_15_code (5 : Nat) (Option.some Jvm.ClassFile.FieldType.int)) ∈ lw_tbl := am_in3 (List.mem_of_getElem? (i := 15) rfl)
theorem am_q91 : (Cond.code ({ cls := "EthernetGatesModel", name := "run", desc := "(J)I" } : Jvm.MethodName) prog_8_method_22_code (6 : Nat) (Option.some Jvm.ClassFile.FieldType.int)) ∈ lw_tbl := am_in3 (List.mem_of_getElem? (i := 19) rfl)
theorem am_q92 : (Cond.code ({ cls := "EthernetGatesModel", name := "tick", desc := "()V" } : Jvm.MethodName) prog_8_method_21_code (3 : Nat) (Option.none : Option Jvm.ClassFile.FieldType)) ∈ lw_tbl := am_in3 (List.mem_of_getElem? (i := 24) rfl)
theorem am_q93 : (Cond.code ({ cls := "EthernetGatesModel", name := "may", desc := "(II)Z" } : Jvm.MethodName) prog_8_method_19_code (5 : Nat) (Option.some Jvm.ClassFile.FieldType.boolean)) ∈ lw_tbl := am_in3 (List.mem_of_getElem? (i := 28) rfl)
theorem am_q94 : (Cond.code ({ cls := "EthernetGatesModel", name := "time", desc := "(II)J" } : Jvm.MethodName) prog_8_method_17_code (5 : Nat) (Option.some Jvm.ClassFile.FieldType.long)) ∈ lw_tbl := am_in3 (List.mem_of_getElem? (i := 32) rfl)
theorem am_q95 : (Cond.code ({ cls := "EthernetGatesModel", name := "open", desc := "(IJJ)Z" } : Jvm.MethodName) prog_8_method_18_code (8 : Nat) (Option.some Jvm.ClassFile.FieldType.boolean)) ∈ lw_tbl := am_in3 (List.mem_of_getElem? (i := 38) rfl)
theorem am_q96 : (Cond.code ({ cls := "EthernetGatesModel", name := "begin", desc := "(II)V" } : Jvm.MethodName) prog_8_method_20_code (5 : Nat) (Option.none : Option Jvm.ClassFile.FieldType)) ∈ lw_tbl := am_in3 (List.mem_of_getElem? (i := 42) rfl)
theorem am_q97 : (Cond.code ({ cls := "EthernetGatesModel", name := "left", desc := "(II)I" } : Jvm.MethodName) prog_8_method_23_code (3 : Nat) (Option.some Jvm.ClassFile.FieldType.int)) ∈ lw_tbl := am_in3 (List.mem_of_getElem? (i := 46) rfl)
theorem am_q98 : (Cond.code ({ cls := "EthernetGatesModel", name := "dropped", desc := "(I)I" } : Jvm.MethodName) prog_8_method_24_code (2 : Nat) (Option.some Jvm.ClassFile.FieldType.int)) ∈ lw_tbl := am_in3 (List.mem_of_getElem? (i := 50) rfl)
theorem am_Tq_in : ∀ w ∈ am_Tq, w ∈ lw_tbl := List.forall_mem_cons.mpr ⟨am_q0, List.forall_mem_cons.mpr ⟨am_q1, List.forall_mem_cons.mpr ⟨am_q2, List.forall_mem_cons.mpr ⟨am_q3, List.forall_mem_cons.mpr ⟨am_q4, List.forall_mem_cons.mpr ⟨am_q5, List.forall_mem_cons.mpr ⟨am_q6, List.forall_mem_cons.mpr ⟨am_q7, List.forall_mem_cons.mpr ⟨am_q8, List.forall_mem_cons.mpr ⟨am_q9, List.forall_mem_cons.mpr ⟨am_q10, List.forall_mem_cons.mpr ⟨am_q11, List.forall_mem_cons.mpr ⟨am_q12, List.forall_mem_cons.mpr ⟨am_q13, List.forall_mem_cons.mpr ⟨am_q14, List.forall_mem_cons.mpr ⟨am_q15, List.forall_mem_cons.mpr ⟨am_q16, List.forall_mem_cons.mpr ⟨am_q17, List.forall_mem_cons.mpr ⟨am_q18, List.forall_mem_cons.mpr ⟨am_q19, List.forall_mem_cons.mpr ⟨am_q20, List.forall_mem_cons.mpr ⟨am_q21, List.forall_mem_cons.mpr ⟨am_q22, List.forall_mem_cons.mpr ⟨am_q23, List.forall_mem_cons.mpr ⟨am_q24, List.forall_mem_cons.mpr ⟨am_q25, List.forall_mem_cons.mpr ⟨am_q26, List.forall_mem_cons.mpr ⟨am_q27, List.forall_mem_cons.mpr ⟨am_q28, List.forall_mem_cons.mpr ⟨am_q29, List.forall_mem_cons.mpr ⟨am_q30, List.forall_mem_cons.mpr ⟨am_q31, List.forall_mem_cons.mpr ⟨am_q32, List.forall_mem_cons.mpr ⟨am_q33, List.forall_mem_cons.mpr ⟨am_q34, List.forall_mem_cons.mpr ⟨am_q35, List.forall_mem_cons.mpr ⟨am_q36, List.forall_mem_cons.mpr ⟨am_q37, List.forall_mem_cons.mpr ⟨am_q38, List.forall_mem_cons.mpr ⟨am_q39, List.forall_mem_cons.mpr ⟨am_q40, List.forall_mem_cons.mpr ⟨am_q41, List.forall_mem_cons.mpr ⟨am_q42, List.forall_mem_cons.mpr ⟨am_q43, List.forall_mem_cons.mpr ⟨am_q44, List.forall_mem_cons.mpr ⟨am_q45, List.forall_mem_cons.mpr ⟨am_q46, List.forall_mem_cons.mpr ⟨am_q47, List.forall_mem_cons.mpr ⟨am_q48, List.forall_mem_cons.mpr ⟨am_q49, List.forall_mem_cons.mpr ⟨am_q50, List.forall_mem_cons.mpr ⟨am_q51, List.forall_mem_cons.mpr ⟨am_q52, List.forall_mem_cons.mpr ⟨am_q53, List.forall_mem_cons.mpr ⟨am_q54, List.forall_mem_cons.mpr ⟨am_q55, List.forall_mem_cons.mpr ⟨am_q56, List.forall_mem_cons.mpr ⟨am_q57, List.forall_mem_cons.mpr ⟨am_q58, List.forall_mem_cons.mpr ⟨am_q59, List.forall_mem_cons.mpr ⟨am_q60, List.forall_mem_cons.mpr ⟨am_q61, List.forall_mem_cons.mpr ⟨am_q62, List.forall_mem_cons.mpr ⟨am_q63, List.forall_mem_cons.mpr ⟨am_q64, List.forall_mem_cons.mpr ⟨am_q65, List.forall_mem_cons.mpr ⟨am_q66, List.forall_mem_cons.mpr ⟨am_q67, List.forall_mem_cons.mpr ⟨am_q68, List.forall_mem_cons.mpr ⟨am_q69, List.forall_mem_cons.mpr ⟨am_q70, List.forall_mem_cons.mpr ⟨am_q71, List.forall_mem_cons.mpr ⟨am_q72, List.forall_mem_cons.mpr ⟨am_q73, List.forall_mem_cons.mpr ⟨am_q74, List.forall_mem_cons.mpr ⟨am_q75, List.forall_mem_cons.mpr ⟨am_q76, List.forall_mem_cons.mpr ⟨am_q77, List.forall_mem_cons.mpr ⟨am_q78, List.forall_mem_cons.mpr ⟨am_q79, List.forall_mem_cons.mpr ⟨am_q80, List.forall_mem_cons.mpr ⟨am_q81, List.forall_mem_cons.mpr ⟨am_q82, List.forall_mem_cons.mpr ⟨am_q83, List.forall_mem_cons.mpr ⟨am_q84, List.forall_mem_cons.mpr ⟨am_q85, List.forall_mem_cons.mpr ⟨am_q86, List.forall_mem_cons.mpr ⟨am_q87, List.forall_mem_cons.mpr ⟨am_q88, List.forall_mem_cons.mpr ⟨am_q89, List.forall_mem_cons.mpr ⟨am_q90, List.forall_mem_cons.mpr ⟨am_q91, List.forall_mem_cons.mpr ⟨am_q92, List.forall_mem_cons.mpr ⟨am_q93, List.forall_mem_cons.mpr ⟨am_q94, List.forall_mem_cons.mpr ⟨am_q95, List.forall_mem_cons.mpr ⟨am_q96, List.forall_mem_cons.mpr ⟨am_q97, List.forall_mem_cons.mpr ⟨am_q98, fun _ h => absurd h List.not_mem_nil⟩⟩⟩⟩⟩⟩⟩⟩⟩⟩⟩⟩⟩⟩⟩⟩⟩⟩⟩⟩⟩⟩⟩⟩⟩⟩⟩⟩⟩⟩⟩⟩⟩⟩⟩⟩⟩⟩⟩⟩⟩⟩⟩⟩⟩⟩⟩⟩⟩⟩⟩⟩⟩⟩⟩⟩⟩⟩⟩⟩⟩⟩⟩⟩⟩⟩⟩⟩⟩⟩⟩⟩⟩⟩⟩⟩⟩⟩⟩⟩⟩⟩⟩⟩⟩⟩⟩⟩⟩⟩⟩⟩⟩⟩⟩⟩⟩⟩⟩
theorem am_Ts_in : ∀ w ∈ am_Ts, w ∈ lw_tbl := fun w hw => List.mem_append_left _ (by exact hw)
theorem am_iF {w : Cond} (h : w ∈ am_Tf) : w ∈ am_Tg := List.mem_append_left _ h
theorem am_iM {w : Cond} (h : w ∈ am_Tm) : w ∈ am_Tg := List.mem_append_right _ (List.mem_append_left _ h)
theorem am_iC {w : Cond} (h : w ∈ am_Tc) : w ∈ am_Tg := List.mem_append_right _ (List.mem_append_right _ (List.mem_append_left _ h))
theorem am_iI {w : Cond} (h : w ∈ am_Ti) : w ∈ am_Tg := List.mem_append_right _ (List.mem_append_right _ (List.mem_append_right _ (List.mem_append_left _ h)))
theorem am_iX {w : Cond} (h : w ∈ am_Tx) : w ∈ am_Tg := List.mem_append_right _ (List.mem_append_right _ (List.mem_append_right _ (List.mem_append_right _ (List.mem_append_left _ h))))
theorem am_iK {w : Cond} (h : w ∈ am_Tk) : w ∈ am_Tg := List.mem_append_right _ (List.mem_append_right _ (List.mem_append_right _ (List.mem_append_right _ (List.mem_append_right _ (List.mem_append_left _ h)))))
theorem am_iS {w : Cond} (h : w ∈ am_Ts) : w ∈ am_Tg := List.mem_append_right _ (List.mem_append_right _ (List.mem_append_right _ (List.mem_append_right _ (List.mem_append_right _ (List.mem_append_right _ (List.mem_append_left _ h))))))
theorem am_iQ {w : Cond} (h : w ∈ am_Tq) : w ∈ am_Tg := List.mem_append_right _ (List.mem_append_right _ (List.mem_append_right _ (List.mem_append_right _ (List.mem_append_right _ (List.mem_append_right _ (List.mem_append_right _ h))))))
theorem am_Tg_in : ∀ w ∈ am_Tg, w ∈ lw_tbl := by
  intro w hw
  unfold am_Tg at hw
  simp only [List.mem_append] at hw
  rcases hw with h | h | h | h | h | h | h | h
  · exact am_Tf_in w h
  · exact am_Tm_in w h
  · exact am_Tc_in w h
  · exact am_Ti_in w h
  · exact am_Tx_in w h
  · exact am_Tk_in w h
  · exact am_Ts_in w h
  · exact am_Tq_in w h
theorem am_Tg_good : am_Tg.all goodWord = true := by decide +kernel
theorem am_Tg_ok : ∀ w ∈ am_Tg, (w.onTables && w.keeps) = true ∨ ∃ ty, w = .arrayClass ty := fun w hw => good_of_word (List.all_eq_true.mp am_Tg_good w hw)
def am_isN : Cond → Bool
  | .fieldLinkNest .. => true
  | .methodLinkNest .. => true
  | .castable .. => true
  | _ => false
theorem am_Tn_all : am_Tn.all am_isN = true := by decide +kernel
theorem am_Tn_ok : ∀ w ∈ am_Tn, (∃ a i b n d z, w = .fieldLinkNest a i b n d z) ∨ (∃ a i b z, w = .methodLinkNest a i b z) ∨ ∃ a b, w = .castable a b := by
  intro w hw
  have h := List.all_eq_true.mp am_Tn_all w hw
  unfold am_isN at h
  split at h
  · exact Or.inl ⟨_, _, _, _, _, _, rfl⟩
  · exact Or.inr (Or.inl ⟨_, _, _, _, rfl⟩)
  · exact Or.inr (Or.inr ⟨_, _, rfl⟩)
  · cases h
end
section
/-! THE WORLD: what the machine's heap is, of an abstract heap. am_cl: the classes; am_rc: those with arrays of them; am_Tg: the words -/
def am_nf (c : Nat) : Nat := match am_cl[c]? with
  | some q => q.2.2
  | none => 0
def am_kd (d : String) : Nat := if d = "I" then 0 else if d = "J" then 1 else 2
def am_tk (c k : Nat) : Nat := match am_cl[c]? with
  | some q => am_kd (q.2.1 k).2.2.1
  | none => 0
def am_cn (c : Nat) : String := match am_cl[c]? with
  | some q => q.1
  | none => ""
theorem am_nf_of {c : Nat} {q : vw_C} (h : am_cl[c]? = some q) : am_nf c = q.2.2 := by simp [am_nf, h]
theorem am_tk_of {c : Nat} {q : vw_C} (h : am_cl[c]? = some q) (k : Nat) : am_tk c k = am_kd (q.2.1 k).2.2.1 := by simp [am_tk, h]
theorem am_cn_of {c : Nat} {q : vw_C} (h : am_cl[c]? = some q) : am_cn c = q.1 := by simp [am_cn, h]
def am_fs (h : am_H) (c r : Nat) : List Value := (List.range (am_nf c)).map fun k => am_v2 (am_gt (am_tk c k) h (32 * c + k) r)
def am_e (dA : Nat → ClassId) (h : am_H) (a : Nat) : va_E :=
  if am_T h (a + 1) = 1 then .inl (dA 0, am_N h (a + 1), .inl (am_aI h (a + 1)))
  else if am_T h (a + 1) = 2 then .inl (dA 1, am_N h (a + 1), .inr (.inl (am_aJ h (a + 1))))
  else if 100 ≤ am_T h (a + 1) then .inl (dA (2 + (am_T h (a + 1) - 100)), am_N h (a + 1), .inr (.inr (.inr (.inr (fun j => am_o (am_aR h (a + 1) j))))))
  else .inr (am_T h (a + 1) - 10, am_fs h (am_T h (a + 1) - 10) (a + 1))
def am_an (j : Nat) : String := am_rn.getD j ""
/-- kinds of cells that are the run's own (made since it began) -/
def am_ow (t : Nat) : Prop := t = 1 ∨ t = 2 ∨ 10 ≤ t
/-- what lies there from before: the script (kind 3), the list's empty array (kind 4) and the static that holds it -/
def am_Ro (B : Nat) (h : am_H) (U : State) (H : Heap) : Prop := (∀ a, am_T h (a + 1) = 3 → a < B ∧ va_X a (am_N h (a + 1)) (am_aI h (a + 1)) U H) ∧
  (∃ t, am_R h 9000 0 = t + 1 ∧ am_T h (t + 1) = 4 ∧ am_N h (t + 1) = 0 ∧ va_Z "java/util/ArrayList" "DEFAULTCAPACITY_EMPTY_ELEMENTDATA" "[Ljava/lang/Object;" (.ref t) (fun q => B ≤ q) U H ∧ va_T (.object "java/lang/Object") t 0 (fun _ => .null) (fun q => B ≤ q) U H) ∧ ∀ a, am_T h (a + 1) = 4 → am_R h 9000 0 = a + 1
theorem am_Ro_moved {B : Nat} {h : am_H} {u U : State} {H : Heap} (hvm : u.vm.Alike U.vm) (hO : am_Ro B h u H) : am_Ro B h U H := by
  obtain ⟨h1, ⟨t, a1, a2, a3, a4, a5⟩, h3⟩ := hO
  exact ⟨fun a ha => ⟨(h1 a ha).1, (h1 a ha).2.moved hvm⟩, ⟨t, a1, a2, a3, a4.moved hvm, a5.moved hvm⟩, h3⟩
theorem am_Ro_keep {B : Nat} {h h' : am_H} {U : State} {H H1 : Heap} (hO : am_Ro B h U H) (k1 : ∀ a, a < B → am_T h' (a + 1) = am_T h (a + 1) ∧ am_N h' (a + 1) = am_N h (a + 1)) (k2 : ∀ a, a < B → am_T h (a + 1) = 3 → am_aI h' (a + 1) = am_aI h (a + 1)) (k3 : am_R h' 9000 0 = am_R h 9000 0) (k4 : ∀ a, B ≤ a → ¬ (am_T h' (a + 1) = 3 ∨ am_T h' (a + 1) = 4)) (ho : ∀ q, q < B → H1[q]? = H[q]?) : am_Ro B h' U H1 := by
  obtain ⟨h1, ⟨t, a1, a2, a3, a4, a5⟩, h3⟩ := hO
  have ht : t < B := by
    obtain ⟨_, _, _, _, _, _, _, q⟩ := a5
    exact Nat.not_le.mp q
  refine ⟨fun a ha => ?_, ⟨t, by rw [k3]; exact a1, by rw [(k1 t ht).1]; exact a2, by rw [(k1 t ht).2]; exact a3, a4.kept (fun a _ hn => ho a (Nat.not_le.mp hn)), a5.kept (fun a _ hn => ho a (Nat.not_le.mp hn))⟩, fun a ha => ?_⟩
  · rcases Nat.lt_or_ge a B with q | q
    · rw [(k1 a q).1] at ha
      obtain ⟨g1, g2⟩ := h1 a ha
      rw [(k1 a q).2, k2 a q ha]
      exact ⟨g1, g2.kept (ho a q)⟩
    · exact absurd (Or.inl ha) (k4 a q)
  · rcases Nat.lt_or_ge a B with q | q
    · rw [(k1 a q).1] at ha
      rw [k3]
      exact h3 a ha
    · exact absurd (Or.inr ha) (k4 a q)
def am_Ok (D : va_G) (dA : Nat → ClassId) (B : Nat) (h : am_H) (U : State) (H : Heap) : Prop := am_T h 0 = 0 ∧ H.size = am_Z h ∧ (∀ a, 100 ≤ am_T h a → am_T h a - 100 ∈ am_rc) ∧ am_Ro B h U H ∧ ∃ L : List Nat, (∀ a, a ∈ L ↔ am_ow (am_T h (a + 1))) ∧ va_P D am_cl (va_pl L (am_e dA h)) H ∧ va_D (fun q => B ≤ q) (va_pl L (am_e dA h))
theorem am_Ok_moved {D : va_G} {dA : Nat → ClassId} {B : Nat} {h : am_H} {u U : State} {H : Heap} (hvm : u.vm.Alike U.vm) (hO : am_Ok D dA B h u H) : am_Ok D dA B h U H :=
  ⟨hO.1, hO.2.1, hO.2.2.1, am_Ro_moved hvm hO.2.2.2.1, hO.2.2.2.2⟩
def am_tys (dA : Nat → ClassId) : List (ClassId × FieldType) := (dA 0, .int) :: (dA 1, .long) :: am_rc.map (fun c => (dA (2 + c), .object (am_an c)))
theorem am_e_i {dA : Nat → ClassId} {h : am_H} {a : Nat} (e : am_T h (a + 1) = 1) : am_e dA h a = .inl (dA 0, am_N h (a + 1), .inl (am_aI h (a + 1))) := by simp [am_e, e]
theorem am_e_l {dA : Nat → ClassId} {h : am_H} {a : Nat} (e : am_T h (a + 1) = 2) : am_e dA h a = .inl (dA 1, am_N h (a + 1), .inr (.inl (am_aJ h (a + 1)))) := by simp [am_e, e]
theorem am_e_q {dA : Nat → ClassId} {h : am_H} {a : Nat} (e : 100 ≤ am_T h (a + 1)) : am_e dA h a = .inl (dA (2 + (am_T h (a + 1) - 100)), am_N h (a + 1), .inr (.inr (.inr (.inr (fun j => am_o (am_aR h (a + 1) j)))))) := by
  unfold am_e
  rw [if_neg (by omega), if_neg (by omega), if_pos e]
theorem am_e_o {dA : Nat → ClassId} {h : am_H} {a c : Nat} (e : am_T h (a + 1) = 10 + c) (hc : c < 90) : am_e dA h a = .inr (c, am_fs h c (a + 1)) := by
  unfold am_e
  rw [if_neg (by omega), if_neg (by omega), if_neg (by omega), e, Nat.add_sub_cancel_left]
theorem am_fs_get {h : am_H} {c r k : Nat} (hk : k < am_nf c) : (am_fs h c r)[k]? = some (am_v2 (am_gt (am_tk c k) h (32 * c + k) r)) := by
  simp [am_fs, hk]
theorem am_fs_len (h : am_H) (c r : Nat) : (am_fs h c r).length = am_nf c := by simp [am_fs]
/-- one field of one object is written -/
theorem am_fs_set {h h' : am_H} {c r k : Nat} {v : am_V} (hk : am_gt (am_tk c k) h' (32 * c + k) r = v) (ho : ∀ j, j ≠ k → am_gt (am_tk c j) h' (32 * c + j) r = am_gt (am_tk c j) h (32 * c + j) r) : am_fs h' c r = (am_fs h c r).set k (am_v2 v) := by
  apply List.ext_getElem?
  intro j
  by_cases hj : j < am_nf c
  · rw [am_fs_get hj]
    by_cases hjk : j = k
    · subst hjk
      rw [List.getElem?_set_self (by rw [am_fs_len]; exact hj), hk]
    · rw [List.getElem?_set_ne (Ne.symm hjk), am_fs_get hj, ho j hjk]
  · rw [List.getElem?_eq_none (by rw [am_fs_len]; omega), List.getElem?_eq_none (by rw [List.length_set, am_fs_len]; omega)]
theorem am_fs_same {h h' : am_H} {c r : Nat} (ho : ∀ u f, am_gt u h' f r = am_gt u h f r) : am_fs h' c r = am_fs h c r := by
  unfold am_fs
  apply List.map_congr_left
  intro k _
  rw [ho]
theorem am_e_same {dA : Nat → ClassId} {h h' : am_H} {b : Nat} (e1 : am_T h' (b + 1) = am_T h (b + 1)) (e2 : am_N h' (b + 1) = am_N h (b + 1)) (e3 : am_aI h' (b + 1) = am_aI h (b + 1)) (e4 : am_aJ h' (b + 1) = am_aJ h (b + 1)) (e5 : am_aR h' (b + 1) = am_aR h (b + 1)) (e6 : ∀ u f, am_gt u h' f (b + 1) = am_gt u h f (b + 1)) : am_e dA h' b = am_e dA h b := by
  unfold am_e
  rw [e1, e2, e3, e4, e5, am_fs_same e6]
theorem am_gt_sI (u : Nat) (h : am_H) (f a : Nat) (v : Int32) {f' b : Nat} (hb : ¬ (f' = f ∧ b = a)) : am_gt u (am_sI h f a v) f' b = am_gt u h f' b := by
  unfold am_gt
  split
  · show Sum.inl (am_u2 (am_I h) f a v f' b) = _
    rw [am_u2, if_neg hb]
  · rfl
  · rfl
theorem am_gt_sJ (u : Nat) (h : am_H) (f a : Nat) (v : Int64) {f' b : Nat} (hb : ¬ (f' = f ∧ b = a)) : am_gt u (am_sJ h f a v) f' b = am_gt u h f' b := by
  unfold am_gt
  split
  · rfl
  · show Sum.inr (Sum.inl (am_u2 (am_J h) f a v f' b)) = _
    rw [am_u2, if_neg hb]
  · rfl
theorem am_gt_sR (u : Nat) (h : am_H) (f a : Nat) (v : Nat) {f' b : Nat} (hb : ¬ (f' = f ∧ b = a)) : am_gt u (am_sR h f a v) f' b = am_gt u h f' b := by
  unfold am_gt
  split
  · rfl
  · rfl
  · show Sum.inr (Sum.inr (am_u2 (am_R h) f a v f' b)) = _
    rw [am_u2, if_neg hb]
/-- a heap in which one field is written; v of the field's kind -/
theorem am_e_put {dA : Nat → ClassId} {h h' : am_H} {a c k : Nat} {v : am_V} (hT : am_T h' = am_T h) (hN : am_N h' = am_N h) (h1 : am_aI h' = am_aI h) (h2 : am_aJ h' = am_aJ h) (h3 : am_aR h' = am_aR h) (hg : ∀ (u f' b : Nat), ¬ (f' = 32 * c + k ∧ b = a + 1) → am_gt u h' f' b = am_gt u h f' b)
    (hc : am_T h (a + 1) = 10 + c) (hlt : c < 90) (hk : am_gt (am_tk c k) h' (32 * c + k) (a + 1) = v) (b : Nat) : va_up (am_e dA h) a (.inr (c, (am_fs h c (a + 1)).set k (am_v2 v))) b = am_e dA h' b := by
  by_cases hb : b = a
  · subst hb
    rw [va_up_self, am_e_o (by rw [hT]; exact hc) hlt, am_fs_set hk (fun j hj => hg _ _ _ (fun q => hj (by omega)))]
  · rw [va_up_ne _ _ hb]
    exact (am_e_same (by rw [hT]) (by rw [hN]) (by rw [h1]) (by rw [h2]) (by rw [h3]) (fun u f => hg _ _ _ (fun q => hb (by omega)))).symm
theorem am_e_xI {dA : Nat → ClassId} {h : am_H} {a j : Nat} {v : Int32} (hc : am_T h (a + 1) = 1) (b : Nat) : va_up (am_e dA h) a (.inl (dA 0, am_N h (a + 1), .inl (upd (am_aI h (a + 1)) j v))) b = am_e dA (am_xI h (a + 1) j v) b := by
  by_cases hb : b = a
  · subst hb
    rw [va_up_self, am_e_i (show am_T (am_xI h (b + 1) j v) (b + 1) = 1 from hc)]
    have e1 : am_aI (am_xI h (b + 1) j v) (b + 1) = upd (am_aI h (b + 1)) j v := by
      funext i
      show am_u2 _ _ _ _ _ _ = upd _ _ _ _
      simp [upd, am_u2]
    rw [e1]
    rfl
  · rw [va_up_ne _ _ hb]
    refine (am_e_same (h := h) (h' := am_xI h (a + 1) j v) rfl rfl ?_ rfl rfl (fun u f => rfl)).symm
    funext i
    show am_u2 _ _ _ _ _ _ = _
    rw [am_u2, if_neg (fun q => hb (by omega))]
theorem am_e_xJ {dA : Nat → ClassId} {h : am_H} {a j : Nat} {v : Int64} (hc : am_T h (a + 1) = 2) (b : Nat) : va_up (am_e dA h) a (.inl (dA 1, am_N h (a + 1), .inr (.inl (vp_updL (am_aJ h (a + 1)) j v)))) b = am_e dA (am_xJ h (a + 1) j v) b := by
  by_cases hb : b = a
  · subst hb
    rw [va_up_self, am_e_l (show am_T (am_xJ h (b + 1) j v) (b + 1) = 2 from hc)]
    have e1 : am_aJ (am_xJ h (b + 1) j v) (b + 1) = vp_updL (am_aJ h (b + 1)) j v := by
      funext i
      show am_u2 _ _ _ _ _ _ = vp_updL _ _ _ _
      simp [vp_updL, am_u2]
    rw [e1]
    rfl
  · rw [va_up_ne _ _ hb]
    refine (am_e_same (h := h) (h' := am_xJ h (a + 1) j v) rfl rfl rfl ?_ rfl (fun u f => rfl)).symm
    funext i
    show am_u2 _ _ _ _ _ _ = _
    rw [am_u2, if_neg (fun q => hb (by omega))]
theorem am_e_xR {dA : Nat → ClassId} {h : am_H} {a j : Nat} {v : Nat} (hc : 100 ≤ am_T h (a + 1)) (b : Nat) : va_up (am_e dA h) a (.inl (dA (2 + (am_T h (a + 1) - 100)), am_N h (a + 1), .inr (.inr (.inr (.inr (va_up (fun j => am_o (am_aR h (a + 1) j)) j (am_o v))))))) b = am_e dA (am_xR h (a + 1) j v) b := by
  by_cases hb : b = a
  · subst hb
    rw [va_up_self, am_e_q (show 100 ≤ am_T (am_xR h (b + 1) j v) (b + 1) from hc)]
    have e1 : (fun i => am_o (am_aR (am_xR h (b + 1) j v) (b + 1) i)) = va_up (fun j => am_o (am_aR h (b + 1) j)) j (am_o v) := by
      funext i
      show am_o (am_u2 _ _ _ _ _ _) = va_up _ _ _ _
      by_cases hi : i = j
      · simp [va_up, am_u2, hi]
      · simp [va_up, am_u2, hi]
    rw [e1]
    rfl
  · rw [va_up_ne _ _ hb]
    refine (am_e_same (h := h) (h' := am_xR h (a + 1) j v) rfl rfl rfl rfl ?_ (fun u f => rfl)).symm
    funext i
    show am_u2 _ _ _ _ _ _ = _
    rw [am_u2, if_neg (fun q => hb (by omega))]
theorem am_gt_nO (u : Nat) (h : am_H) (c n f : Nat) {b : Nat} (hb : ¬ b = am_Z h + 1) : am_gt u (am_nO h c n) f b = am_gt u h f b := by
  unfold am_gt
  split
  · show Sum.inl (am_uf _ _ _ _ _) = _
    rw [am_uf, if_neg hb]
  · show Sum.inr (Sum.inl (am_uf _ _ _ _ _)) = _
    rw [am_uf, if_neg hb]
  · show Sum.inr (Sum.inr (am_uf _ _ _ _ _)) = _
    rw [am_uf, if_neg hb]
theorem am_e_nO {dA : Nat → ClassId} {h : am_H} {c n : Nat} (hlt : c < 90) (b : Nat) : va_up (am_e dA h) (am_Z h) (.inr (c, am_fs (am_nO h c n) c (am_Z h + 1))) b = am_e dA (am_nO h c n) b := by
  by_cases hb : b = am_Z h
  · subst hb
    rw [va_up_self, am_e_o (show am_T (am_nO h c n) (am_Z h + 1) = 10 + c from va_up_self _ _ _) hlt]
  · rw [va_up_ne _ _ hb]
    refine (am_e_same (h := h) (h' := am_nO h c n) (va_up_ne _ _ (by omega)) rfl rfl rfl rfl (fun u f => am_gt_nO u h c n f (by omega))).symm
theorem am_e_nA {dA : Nat → ClassId} {h : am_H} {t n : Nat} (b : Nat) (hb : ¬ b = am_Z h) : am_e dA (am_nA h t n) b = am_e dA h b := by
  refine am_e_same (va_up_ne _ _ (by omega)) (va_up_ne _ _ (by omega)) ?_ ?_ ?_ (fun u f => rfl)
  all_goals
    funext i
    show am_ua _ _ _ _ _ = _
    rw [am_ua, if_neg (by omega)]
/-! ROWS of the machine over the world -/
/-- how a field of class q (its place y) is linked from 'own' at 'idx' -/
def am_fl (own : String) (idx : Nat) (q : vw_C) (y : Nat) : Prop :=
  Cond.fieldLink own idx (q.2.1 y).1 (q.2.1 y).2.1 (q.2.1 y).2.2.1 ∈ am_Tg ∨ (∃ host, Cond.fieldLinkNest own idx (q.2.1 y).1 (q.2.1 y).2.1 (q.2.1 y).2.2.1 host ∈ am_Tn) ∨
  (∃ ref, Cond.fieldLink own idx ref (q.2.1 y).2.1 (q.2.1 y).2.2.1 ∈ am_Tg ∧ Cond.sameField ref (q.2.1 y).1 (q.2.1 y).2.1 (q.2.1 y).2.2.1 ∈ am_Tg)
/-- what holds of each class of the table -/
def am_cg (q : vw_C) : Prop := (∀ w ∈ u_ws q.1 q.2.1 q.2.2, w ∈ am_Tg) ∧ (∃ ty : Nat → FieldType, ∀ k, k < q.2.2 → parseFieldDescriptor (q.2.1 k).2.2.1 = some (ty k) ∧ ((am_kd (q.2.1 k).2.2.1 = 0 ∧ ty k = .int) ∨ (am_kd (q.2.1 k).2.2.1 = 1 ∧ ty k = .long) ∨ (am_kd (q.2.1 k).2.2.1 = 2 ∧ ((∃ n, ty k = .object n) ∨ ∃ t, ty k = .array t)))) ∧ (∀ a, a < q.2.2 → ∀ b, b < q.2.2 → a ≠ b → (q.2.1 a).2.1 ≠ (q.2.1 b).2.1)
theorem am_lays_ok : am_cl.all (fun q => (u_ws q.1 q.2.1 q.2.2).all (fun w => decide (w ∈ am_Tx))) = true := by decide +kernel
def am_ftb (d : String) : Bool := match parseFieldDescriptor d with
  | some .int => decide (am_kd d = 0)
  | some .long => decide (am_kd d = 1)
  | some (.object _) => decide (am_kd d = 2)
  | some (.array _) => decide (am_kd d = 2)
  | _ => false
theorem am_ft_ok : am_cl.all (fun q => (List.range q.2.2).all (fun k => am_ftb (q.2.1 k).2.2.1)) = true := by decide +kernel
theorem am_nm_ok : am_cl.all (fun q => (List.range q.2.2).all (fun a => (List.range q.2.2).all (fun b => decide (a = b) || !decide ((q.2.1 a).2.1 = (q.2.1 b).2.1)))) = true := by decide +kernel
theorem am_cok {x : Nat} {q : vw_C} (h : am_cl[x]? = some q) : am_cg q ∧ x < 90 := by
  have hm := List.mem_of_getElem? h
  have hlt := (List.getElem?_eq_some_iff.mp h).1
  refine ⟨⟨fun w hw => ?_, ?_, fun a ha b hb hne he => ?_⟩, Nat.lt_of_lt_of_le hlt (by decide)⟩
  · have h1 := List.all_eq_true.mp (List.all_eq_true.mp am_lays_ok q hm) w hw
    exact am_iX (of_decide_eq_true h1)
  · refine ⟨fun k => (parseFieldDescriptor (q.2.1 k).2.2.1).getD .int, fun k hk => ?_⟩
    have h1 := List.all_eq_true.mp (List.all_eq_true.mp am_ft_ok q hm) k (List.mem_range.mpr hk)
    unfold am_ftb at h1
    dsimp only
    split at h1
    · rename_i e; rw [e]; exact ⟨rfl, Or.inl ⟨of_decide_eq_true h1, rfl⟩⟩
    · rename_i e; rw [e]; exact ⟨rfl, Or.inr (Or.inl ⟨of_decide_eq_true h1, rfl⟩)⟩
    · rename_i e; rw [e]; exact ⟨rfl, Or.inr (Or.inr ⟨of_decide_eq_true h1, Or.inl ⟨_, rfl⟩⟩)⟩
    · rename_i e; rw [e]; exact ⟨rfl, Or.inr (Or.inr ⟨of_decide_eq_true h1, Or.inr ⟨_, rfl⟩⟩)⟩
    · cases h1
  · have h1 := List.all_eq_true.mp (List.all_eq_true.mp (List.all_eq_true.mp am_nm_ok q hm) a (List.mem_range.mpr ha)) b (List.mem_range.mpr hb)
    simp only [Bool.or_eq_true, decide_eq_true_eq, Bool.not_eq_true', decide_eq_false_iff_not] at h1
    rcases h1 with q1 | q1
    · exact hne q1
    · exact q1 he
theorem am_asl_ok : am_asl.all (fun p => match am_cl[p.2]? with | some q => decide (am_an p.1 = q.1) || decide (Cond.castable q.1 (am_an p.1) ∈ am_Tn) | none => false) = true := by decide +kernel
theorem am_asg_ok {j c : Nat} (h : am_asg j c = true) : ∃ q, am_cl[c]? = some q ∧ c < 90 ∧ (am_an j = q.1 ∨ Cond.castable q.1 (am_an j) ∈ am_Tn) := by
  have hm : (j, c) ∈ am_asl := List.contains_iff_mem.mp h
  have h1 := List.all_eq_true.mp am_asl_ok _ hm
  dsimp only at h1
  split at h1
  · rename_i q hq
    simp only [Bool.or_eq_true, decide_eq_true_eq] at h1
    exact ⟨q, hq, (am_cok hq).2, h1⟩
  · cases h1
section AMW
variable {p : Program} {l : Launch} {e : Env} {R : Room} {s : State} {m : MethodId} {args : Array Value} {below : List Frame} {meth : Method} {c : Code} {H : Heap} {locs : List Loc} {cells slots : Nat} {Q : State → Prop}
variable {cc : ByteArray} {pc : Nat} {ls : Array Slot} {rest : List Value} {D : va_G} {dA : Nat → ClassId} {B : Nat} {h : am_H} {own : String}
theorem am_v2_ref (a : Nat) : am_v2 (.inr (.inr (a + 1))) = .ref a := rfl
theorem am_v2_null : am_v2 (.inr (.inr 0)) = .null := rfl
theorem am_pos (hO : am_Ok D dA B h s H) {r : Nat} (hr : am_ow (am_T h r)) : ∃ a, r = a + 1 ∧ ∃ (L : List Nat) (k : Nat), (∀ a, a ∈ L ↔ am_ow (am_T h (a + 1))) ∧ va_P D am_cl (va_pl L (am_e dA h)) H ∧ va_D (fun q => B ≤ q) (va_pl L (am_e dA h)) ∧ a ∈ L ∧ (va_pl L (am_e dA h))[k]? = some (a, am_e dA h a) := by
  obtain ⟨h0, -, -, -, L, hL, hP, hD⟩ := hO
  cases r with
  | zero => rw [h0] at hr; unfold am_ow at hr; omega
  | succ a =>
    have ha : a ∈ L := (hL a).mpr hr
    obtain ⟨k, hk⟩ := va_pl_get (X := []) (f := am_e dA h) ha
    exact ⟨a, rfl, L, k, hL, hP, hD, ha, hk⟩
/-- a heap in which the cell of one reference is another one -/
theorem am_Ok_set {h' : am_H} {H1 : Heap} {a k : Nat} {L : List Nat} {x : va_E} (hO : am_Ok D dA B h s H) (hL : ∀ a, a ∈ L ↔ am_ow (am_T h (a + 1))) (hD : va_D (fun q => B ≤ q) (va_pl L (am_e dA h))) (ha : a ∈ L) (hk : (va_pl L (am_e dA h))[k]? = some (a, am_e dA h a)) (hT : am_T h' = am_T h) (hN : am_N h' = am_N h) (hI : ∀ b, ¬ b = a → am_aI h' (b + 1) = am_aI h (b + 1)) (hR : am_R h' 9000 0 = am_R h 9000 0) (hZ : am_Z h' = am_Z h) (he : ∀ b, va_up (am_e dA h) a x b = am_e dA h' b)
    (hz : H1.size = H.size) (ho : ∀ q, q ≠ a → H1[q]? = H[q]?) (hP1 : va_P D am_cl ((va_pl L (am_e dA h)).set k (a, x)) H1) (hD1 : va_D (fun q => B ≤ q) ((va_pl L (am_e dA h)).set k (a, x))) : am_Ok D dA B h' s H1 := by
  obtain ⟨h0, hs, hr, h3, hLs⟩ := hO
  have hBa : B ≤ a := hD.2 k _ hk
  have e : (va_pl L (am_e dA h)).set k (a, x) = va_pl L (am_e dA h') := (va_pl_set (X := []) hD ha hk).trans (va_pl_congr he)
  rw [e] at hP1 hD1
  have h4 : ∀ b, B ≤ b → ¬ (am_T h (b + 1) = 3 ∨ am_T h (b + 1) = 4) := by
    intro b hb q
    rcases q with q | q
    · exact absurd (h3.1 b q).1 (Nat.not_lt.mpr hb)
    · obtain ⟨t, a1, -, -, -, a5⟩ := h3.2.1
      have := h3.2.2 b q
      obtain ⟨_, _, _, _, _, _, _, q9⟩ := a5
      have : t = b := by omega
      subst this
      exact q9 hb
  exact ⟨by rw [hT]; exact h0, by rw [hz, hs, hZ], by rw [hT]; exact hr, am_Ro_keep h3 (fun b _ => by rw [hT, hN]; exact ⟨rfl, rfl⟩) (fun b hb _ => hI b (by omega)) hR (by rw [hT]; exact h4) (fun q hq => ho q (by omega)), L, by rw [hT]; exact hL, hP1, hD1⟩
theorem am_w_get (hx : p.tables.exec = Jvm.exec) (hb : c.code = cc) (hts : ∀ w ∈ am_Tg, w.before args s = true) (hown : s.vm.findClass own = some m.cls) (hK : va_K D am_cl (am_tys dA) s) (hN9 : ∀ w ∈ am_Tn, va_Nw w s) (hO : am_Ok D dA B h s H) {x y idx r : Nat} {q : vw_C} (hr : am_T h r = 10 + x) (hc : am_cl[x]? = some q) (hg : am_cg q) (hx9 : x < 90) (hy : y < q.2.2) (hl : am_fl own idx q y) (hdg : decode cc pc = .ok (.getfield idx, 3))
    (kk : W p l e R s m args below meth c H locs cells slots Q (F0 m (pc + 3) ls (am_v2 (am_gt (am_tk x y) h (32 * x + y) r) :: rest))) : W p l e R s m args below meth c H locs cells slots Q (F0 m pc ls (am_v2 (.inr (.inr r)) :: rest)) := by
  obtain ⟨a, rfl, L, k, hL, hP, hD, ha, hk⟩ := am_pos hO (r := r) (by unfold am_ow; omega)
  rw [am_e_o hr hx9] at hk
  obtain ⟨C, T, N⟩ := q
  have hv := am_fs_get (h := h) (r := a + 1) (show y < am_nf x by rw [am_nf_of hc]; exact hy)
  rw [am_v2_ref]
  rcases hl with hl | ⟨host, hl⟩ | ⟨ref, hl, hl2⟩
  · exact va_get hx hb hts hg.1 hown hK hP k hk hc y hy (hts _ hl) (fun _ h9 => h9) hv hdg kk
  · exact va_getN hx hb hts hg.1 hown hK hP k hk hc y hy (va_Nw.use rfl (hN9 _ hl)) (fun _ h9 => h9) hv hdg kk
  · exact va_get hx hb hts hg.1 hown hK hP k hk hc y hy (hts _ hl) (fun x9 h9 => u_same (hts _ hl2) x9 h9) hv hdg kk
theorem am_w_put (hx : p.tables.exec = Jvm.exec) (hb : c.code = cc) (hts : ∀ w ∈ am_Tg, w.before args s = true) (hown : s.vm.findClass own = some m.cls) (hK : va_K D am_cl (am_tys dA) s) (hN9 : ∀ w ∈ am_Tn, va_Nw w s) (hO : am_Ok D dA B h s H) (hS : va_S (fun q => B ≤ q) s.heap H locs) {x y idx r : Nat} {q : vw_C} (hr : am_T h r = 10 + x) (hc : am_cl[x]? = some q) (hg : am_cg q) (hx9 : x < 90) (hy : y < q.2.2) (hl : am_fl own idx q y) (hfin : (q.2.1 y).2.2.2 = true → meth.name = "<init>" ∧ (q.2.1 y).1 = own ∧ Cond.fieldLink own idx (q.2.1 y).1 (q.2.1 y).2.1 (q.2.1 y).2.2.1 ∈ am_Tg) (hdg : decode cc pc = .ok (.putfield idx, 3))
    {v : am_V} {h' : am_H} (hT : am_T h' = am_T h) (hN : am_N h' = am_N h) (h1 : am_aI h' = am_aI h) (h2 : am_aJ h' = am_aJ h) (h3 : am_aR h' = am_aR h) (hZ : am_Z h' = am_Z h) (hgt : ∀ (u f' b : Nat), ¬ (f' = 32 * x + y ∧ b = r) → am_gt u h' f' b = am_gt u h f' b) (hv : am_gt (am_tk x y) h' (32 * x + y) r = v) (hR9 : am_R h' 9000 0 = am_R h 9000 0)
    (kk : ∀ (H1 : Heap) (locs1 : List Loc), am_Ok D dA B h' s H1 → va_S (fun q => B ≤ q) s.heap H1 locs1 → W p l e R s m args below meth c H1 locs1 cells slots Q (F0 m (pc + 3) ls rest)) : W p l e R s m args below meth c H locs cells slots Q (F0 m pc ls (am_v2 v :: am_v2 (.inr (.inr r)) :: rest)) := by
  obtain ⟨a, rfl, L, k, hL, hP, hD, ha, hk⟩ := am_pos hO (r := r) (by unfold am_ow; omega)
  have hk' := hk
  rw [am_e_o hr hx9] at hk
  obtain ⟨C, T, N⟩ := q
  obtain ⟨g1, ⟨ty, g2⟩, g3⟩ := hg
  obtain ⟨hp, hkd⟩ := g2 y hy
  have hnf : narrow (ty y) (am_v2 v) = am_v2 v ∧ fits (ty y) (am_v2 v) = true := by
    rw [← hv, am_tk_of hc]
    rcases hkd with ⟨e1, e2⟩ | ⟨e1, e2⟩ | ⟨e1, ⟨n, e2⟩ | ⟨t, e2⟩⟩
    · rw [e1, e2]; exact ⟨rfl, rfl⟩
    · rw [e1, e2]; exact ⟨rfl, rfl⟩
    · rw [e1, e2]
      show narrow _ (va_rf (am_o _)) = va_rf (am_o _) ∧ fits _ (va_rf (am_o _)) = true
      cases am_o (am_R h' (32 * x + y) (a + 1)) <;> exact ⟨rfl, rfl⟩
    · rw [e1, e2]
      show narrow _ (va_rf (am_o _)) = va_rf (am_o _) ∧ fits _ (va_rf (am_o _)) = true
      cases am_o (am_R h' (32 * x + y) (a + 1)) <;> exact ⟨rfl, rfl⟩
  have hlen : y < (am_fs h x (a + 1)).length := by rw [am_fs_len, am_nf_of hc]; exact hy
  have hap := va_apart (own := own) hts g1 ty (fun k hk => (g2 k hk).1) g3 hK hc
  obtain ⟨r0, hr0, cell, q1, q2, q3, q4⟩ := hP k _ hk
  have hr0 : r0 = (C, T, N) := Option.some.inj (hr0.symm.trans hc)
  subst hr0
  obtain ⟨hSl, hfc, kC, hkC, hkind⟩ := hK.1 x _ hc
  obtain ⟨cf, kf, fi, f, hi, hsl⟩ := hSl y hy
  have hlays := u_lays hts g1 hy
  have hst := (u_facts hfc hkC hlays hi).1
  have hfit := u_fits hfc hkC hkind hlays hi hp hnf.1 hnf.2
  have hlt : f.slot < cell.slots.size := by rw [hsl]; exact k2_hasslot (q4 y hy)
  have fin : ∀ H1 : Heap, H1[a]? = some (cell.setSlot f.slot (am_v2 v)) → H1.size = H.size → (∀ q, q ≠ a → H1[q]? = H[q]?) → W p l e R s m args below meth c H1 (locs ++ [⟨a, f.slot⟩]) cells slots Q (F0 m (pc + 3) ls rest) := by
    intro H1 e1 e2 e3
    rw [hsl] at e1
    refine kk H1 _ (am_Ok_set hO hL hD ha hk' hT hN (fun b _ => by rw [h1]) hR9 hZ (am_e_put hT hN h1 h2 h3 hgt hr hx9 hv) e2 e3 (hP.set hD hk' ⟨_, hc, t_OB.to (V := updV (vp_V (am_fs h x (a + 1))) y (am_v2 v)) ⟨_, e1, q2, q3, t_set q4 hap hy _⟩ (fun j _ => vp_updV_set hlen _ j)⟩ e3) (hD.set hk')) (hS.put e2 e3 (show B ≤ a from hD.2 k _ hk'))
  rw [am_v2_ref]
  cases hf : (T y).2.2.2 with
  | true =>
    obtain ⟨z1, z2, z3⟩ := hfin hf
    have hlay := hts _ (g1 _ (u_in_lay hy))
    unfold u_lay at hlay
    rw [if_pos hf] at hlay
    have hcf : m.cls = cf := by
      obtain ⟨_, _, c', _, _, _, -, -, hf', -, -, -, hown2, -⟩ := Cond.laysFinal_spec hlay
      have e1 : c' = cf := by have := hi.symm.trans hf'; simp at this; exact this.1.symm
      rw [z2] at hown2
      rw [← e1]; exact Option.some.inj (hown.symm.trans hown2)
    exact W.putFinK hx hb hown (hts _ z3) hi hst hcf z1 (by rw [q2]; exact hfit) q1 q3 hlt rfl rfl hdg fin
  | false =>
    have hlay := hts _ (g1 _ (u_in_lay hy))
    unfold u_lay at hlay
    rw [if_neg (by rw [hf]; decide)] at hlay
    have h6 := u_store hfc hkC hkind hlay hi hp hnf.1 hnf.2
    rcases hl with hl | ⟨host, hl⟩ | ⟨ref, hl, hl2⟩
    · exact W.putK hx hb (f := f) ⟨hown, hts _ hl, ⟨_, _, _, hi⟩, hst⟩ (by rw [q2]; exact h6) q1 q3 hlt rfl rfl hdg fin
    · exact va_WputK hx hb (f := f) hown (va_Nw.use rfl (hN9 _ hl)) hi hst (by rw [q2]; exact h6) q1 q3 hlt rfl rfl hdg fin
    · exact W.putK hx hb (f := f) ⟨hown, hts _ hl, ⟨_, _, _, u_same (hts _ hl2) _ hi⟩, hst⟩ (by rw [q2]; exact h6) q1 q3 hlt rfl rfl hdg fin
/-- arrays: of ints -/
theorem am_ty0 (hK : va_K D am_cl (am_tys dA) s) (n : Nat) (z : Nat → Value) : s.isArrayOf (arrV (dA 0) n z) .int := (hK.2 0 _ rfl).1 n z
theorem am_ty1 (hK : va_K D am_cl (am_tys dA) s) (n : Nat) (z : Nat → Value) : s.isArrayOf (arrV (dA 1) n z) .long := (hK.2 1 _ rfl).1 n z
theorem am_tyq (hK : va_K D am_cl (am_tys dA) s) {x : Nat} (hx : x ∈ am_rc) : ArrOfT s (dA (2 + x)) (.object (am_an x)) ∧ va_RA s (dA (2 + x)) (.object (am_an x)) := by
  have hm : (dA (2 + x), FieldType.object (am_an x)) ∈ am_tys dA := List.mem_cons_of_mem _ (List.mem_cons_of_mem _ (List.mem_map.mpr ⟨x, hx, rfl⟩))
  obtain ⟨i, hi⟩ := List.getElem?_of_mem hm
  exact hK.2 i _ hi
theorem am_w_iald (hx : p.tables.exec = Jvm.exec) (hb : c.code = cc) (hK : va_K D am_cl (am_tys dA) s) (hO : am_Ok D dA B h s H) {r : Nat} {i : Int32} (hr : am_T h r = 1 ∨ am_T h r = 3) (hin : vp_in i (am_N h r)) (hdg : decode cc pc = .ok (.iaload, 1))
    (kk : W p l e R s m args below meth c H locs cells slots Q (F0 m (pc + 1) ls (.int (am_aI h r i.toNatClampNeg) :: rest))) : W p l e R s m args below meth c H locs cells slots Q (F0 m pc ls (.int i :: am_v2 (.inr (.inr r)) :: rest)) := by
  rcases hr with hr | hr
  · obtain ⟨a, rfl, L, k, hL, hP, hD, ha, hk⟩ := am_pos hO (r := r) (by unfold am_ow; omega)
    rw [am_e_i hr] at hk
    exact va_iald hx hb hK hP k 0 hk rfl hin hdg kk
  · cases r with
    | zero => rw [hO.1] at hr; cases hr
    | succ a =>
      obtain ⟨-, scr, h1, h2, h3, h4, h5⟩ := hO.2.2.2.1.1 a hr
      have hlt : i.toNatClampNeg < am_N h (a + 1) := Nat.not_le.mp fun q => hin (Or.inr q)
      exact W.iald (v := .int (am_aI h (a + 1) i.toNatClampNeg)) hx hb h1 h2 h3 (by rw [h4]; exact hin) (h5 _ hlt) rfl rfl hdg kk
theorem am_w_lald (hx : p.tables.exec = Jvm.exec) (hb : c.code = cc) (hK : va_K D am_cl (am_tys dA) s) (hO : am_Ok D dA B h s H) {r : Nat} {i : Int32} (hr : am_T h r = 2) (hin : vp_in i (am_N h r)) (hdg : decode cc pc = .ok (.laload, 1))
    (kk : W p l e R s m args below meth c H locs cells slots Q (F0 m (pc + 1) ls (.long (am_aJ h r i.toNatClampNeg) :: rest))) : W p l e R s m args below meth c H locs cells slots Q (F0 m pc ls (.int i :: am_v2 (.inr (.inr r)) :: rest)) := by
  obtain ⟨a, rfl, L, k, hL, hP, hD, ha, hk⟩ := am_pos hO (r := r) (by unfold am_ow; omega)
  rw [am_e_l hr] at hk
  exact va_lald hx hb hK hP k 1 hk rfl hin hdg kk
theorem am_w_aald (hx : p.tables.exec = Jvm.exec) (hb : c.code = cc) (hK : va_K D am_cl (am_tys dA) s) (hO : am_Ok D dA B h s H) {r : Nat} {i : Int32} (hr : 100 ≤ am_T h r) (hin : vp_in i (am_N h r)) (hdg : decode cc pc = .ok (.aaload, 1))
    (kk : W p l e R s m args below meth c H locs cells slots Q (F0 m (pc + 1) ls (am_v2 (.inr (.inr (am_aR h r i.toNatClampNeg))) :: rest))) : W p l e R s m args below meth c H locs cells slots Q (F0 m pc ls (.int i :: am_v2 (.inr (.inr r)) :: rest)) := by
  obtain ⟨a, rfl, L, k, hL, hP, hD, ha, hk⟩ := am_pos hO (r := r) (by unfold am_ow; omega)
  have hm : (dA (2 + (am_T h (a + 1) - 100)), FieldType.object (am_an (am_T h (a + 1) - 100))) ∈ am_tys dA := List.mem_cons_of_mem _ (List.mem_cons_of_mem _ (List.mem_map.mpr ⟨_, hO.2.2.1 _ hr, rfl⟩))
  obtain ⟨t0, ht⟩ := List.getElem?_of_mem hm
  rw [am_e_q hr] at hk
  exact va_aldq hx hb hK hP k t0 hk ht hin hdg kk
theorem am_w_alen (hx : p.tables.exec = Jvm.exec) (hb : c.code = cc) (hK : va_K D am_cl (am_tys dA) s) (hO : am_Ok D dA B h s H) {r : Nat} (hr : am_T h r = 1 ∨ am_T h r = 2 ∨ am_T h r = 3 ∨ am_T h r = 4 ∨ 100 ≤ am_T h r) (hdg : decode cc pc = .ok (.arraylength, 1))
    (kk : W p l e R s m args below meth c H locs cells slots Q (F0 m (pc + 1) ls (.int (Int32.ofNat (am_N h r)) :: rest))) : W p l e R s m args below meth c H locs cells slots Q (F0 m pc ls (am_v2 (.inr (.inr r)) :: rest)) := by
  rcases hr with hr | hr | hr | hr | hr
  · obtain ⟨a, rfl, L, k, hL, hP, hD, ha, hk⟩ := am_pos hO (r := r) (by unfold am_ow; omega)
    rw [am_e_i hr] at hk
    exact va_alen hx hb hK hP k 0 hk rfl rfl hdg kk
  · obtain ⟨a, rfl, L, k, hL, hP, hD, ha, hk⟩ := am_pos hO (r := r) (by unfold am_ow; omega)
    rw [am_e_l hr] at hk
    exact va_alen hx hb hK hP k 1 hk rfl rfl hdg kk
  · cases r with
    | zero => rw [hO.1] at hr; cases hr
    | succ a =>
      obtain ⟨-, scr, h1, h2, h3, h4, h5⟩ := hO.2.2.2.1.1 a hr
      exact W.alen (n := Int32.ofNat (am_N h (a + 1))) hx hb h1 h2 (by rw [h4] <;> rfl) rfl rfl hdg kk
  · obtain ⟨t, a1, a2, a3, -, cell, b1, b2, b3, b4, b5, b6, b7⟩ := hO.2.2.2.1.2.1
    cases r with
    | zero => rw [hO.1] at hr; cases hr
    | succ a =>
      have ha := hO.2.2.2.1.2.2 a hr
      have : t = a := by omega
      subst this
      rw [a3] at kk
      exact W.alen (n := Int32.ofNat 0) hx hb b1 b2 b5 rfl rfl hdg kk
  · obtain ⟨a, rfl, L, k, hL, hP, hD, ha, hk⟩ := am_pos hO (r := r) (by unfold am_ow; omega)
    have hm : (dA (2 + (am_T h (a + 1) - 100)), FieldType.object (am_an (am_T h (a + 1) - 100))) ∈ am_tys dA := List.mem_cons_of_mem _ (List.mem_cons_of_mem _ (List.mem_map.mpr ⟨_, hO.2.2.1 _ hr, rfl⟩))
    obtain ⟨t0, ht⟩ := List.getElem?_of_mem hm
    rw [am_e_q hr] at hk
    exact va_alen hx hb hK hP k t0 hk ht rfl hdg kk
theorem am_w_gets (hx : p.tables.exec = Jvm.exec) (hb : c.code = cc) (hts : ∀ w ∈ am_Tg, w.before args s = true) (hown : s.vm.findClass own = some m.cls) (hB : B ≤ s.heap.size) (hO : am_Ok D dA B h s H) (hS : va_S (fun q => B ≤ q) s.heap H locs) {idx : Nat} (hl : Cond.fieldLink own idx "java/util/ArrayList" "DEFAULTCAPACITY_EMPTY_ELEMENTDATA" "[Ljava/lang/Object;" ∈ am_Tg) (hdg : decode cc pc = .ok (.getstatic idx, 3))
    (kk : W p l e R s m args below meth c H locs cells slots Q (F0 m (pc + 3) ls (am_v2 (.inr (.inr (am_R h 9000 0))) :: rest))) : W p l e R s m args below meth c H locs cells slots Q (F0 m pc ls rest) := by
  obtain ⟨t, a1, a2, a3, a4, -⟩ := hO.2.2.2.1.2.1
  rw [a1, am_v2_ref] at kk
  have hZ : va_Z "java/util/ArrayList" "DEFAULTCAPACITY_EMPTY_ELEMENTDATA" "[Ljava/lang/Object;" (.ref t) (fun q => B ≤ q) s s.heap := by
    obtain ⟨cf, kf, fi, f, a, cell, z1, z2, z3, z4, z5, z6, z7, z8⟩ := a4
    have hlt : a < s.heap.size := Nat.lt_of_lt_of_le (Nat.not_le.mp z8) hB
    exact ⟨cf, kf, fi, f, a, cell, z1, z2, z3, z4, by rw [← hS.2.1 a hlt z8]; exact z5, z6, z7, z8⟩
  exact va_gets hx hb hZ hS hown (hts _ hl) (fun _ h9 => h9) hdg kk
theorem am_w_iast (hx : p.tables.exec = Jvm.exec) (hb : c.code = cc) (hK : va_K D am_cl (am_tys dA) s) (hO : am_Ok D dA B h s H) (hS : va_S (fun q => B ≤ q) s.heap H locs) {r : Nat} {i v : Int32} (hr : am_T h r = 1) (hin : vp_in i (am_N h r)) (hdg : decode cc pc = .ok (.iastore, 1))
    (kk : ∀ (H1 : Heap) (locs1 : List Loc), am_Ok D dA B (am_xI h r i.toNatClampNeg v) s H1 → va_S (fun q => B ≤ q) s.heap H1 locs1 → W p l e R s m args below meth c H1 locs1 cells slots Q (F0 m (pc + 1) ls rest)) : W p l e R s m args below meth c H locs cells slots Q (F0 m pc ls (.int v :: .int i :: am_v2 (.inr (.inr r)) :: rest)) := by
  obtain ⟨a, rfl, L, k, hL, hP, hD, ha, hk⟩ := am_pos hO (r := r) (by unfold am_ow; omega)
  have hk' := hk
  rw [am_e_i hr] at hk
  refine W.iast hx hb (hP k _ hk) (am_ty0 hK _ _) (fun q => by cases q) (by show ¬ (i < 0 ∨ (arrV _ _ _).slots.size ≤ _); rw [arrV_size]; exact hin) rfl rfl hdg fun H1 e1 e2 e3 => ?_
  refine kk H1 _ (am_Ok_set hO hL hD ha hk' rfl rfl (fun b hb => funext fun i => by show am_u2 _ _ _ _ _ _ = _; rw [am_u2, if_neg (fun q => hb (by omega))]) rfl rfl (am_e_xI hr) e2 e3 (hP.set hD hk' ?_ e3) (hD.set hk')) (hS.put e2 e3 (show B ≤ a from hD.2 k _ hk'))
  show H1[a]? = some (vp_cell _ _)
  rw [e1, vp_cell_i, vp_cell_i, arrV_store]
  congr 2
  funext q
  by_cases hq : q = i.toNatClampNeg
  · simp [updV, upd, hq]
  · simp [updV, upd, hq]
theorem am_w_last (hx : p.tables.exec = Jvm.exec) (hb : c.code = cc) (hK : va_K D am_cl (am_tys dA) s) (hO : am_Ok D dA B h s H) (hS : va_S (fun q => B ≤ q) s.heap H locs) {r : Nat} {i : Int32} {v : Int64} (hr : am_T h r = 2) (hin : vp_in i (am_N h r)) (hdg : decode cc pc = .ok (.lastore, 1))
    (kk : ∀ (H1 : Heap) (locs1 : List Loc), am_Ok D dA B (am_xJ h r i.toNatClampNeg v) s H1 → va_S (fun q => B ≤ q) s.heap H1 locs1 → W p l e R s m args below meth c H1 locs1 cells slots Q (F0 m (pc + 1) ls rest)) : W p l e R s m args below meth c H locs cells slots Q (F0 m pc ls (.long v :: .int i :: am_v2 (.inr (.inr r)) :: rest)) := by
  obtain ⟨a, rfl, L, k, hL, hP, hD, ha, hk⟩ := am_pos hO (r := r) (by unfold am_ow; omega)
  have hk' := hk
  rw [am_e_l hr] at hk
  refine W.last hx hb (hP k _ hk) (am_ty1 hK _ _) (fun q => by cases q) (by show ¬ (i < 0 ∨ (arrV _ _ _).slots.size ≤ _); rw [arrV_size]; exact hin) rfl rfl hdg fun H1 e1 e2 e3 => ?_
  refine kk H1 _ (am_Ok_set hO hL hD ha hk' rfl rfl (fun b _ => rfl) rfl rfl (am_e_xJ hr) e2 e3 (hP.set hD hk' ?_ e3) (hD.set hk')) (hS.put e2 e3 (show B ≤ a from hD.2 k _ hk'))
  show H1[a]? = some (vp_cell _ _)
  rw [e1, vp_cell_l, vp_cell_l, arrV_store]
  congr 2
  funext q
  by_cases hq : q = i.toNatClampNeg
  · simp [updV, vp_updL, hq]
  · simp [updV, vp_updL, hq]
end AMW
section AMX
variable {p : Program} {l : Launch} {e : Env} {R : Room} {s : State} {m : MethodId} {args : Array Value} {below : List Frame} {meth : Method} {c : Code} {H : Heap} {locs : List Loc} {cells slots : Nat} {Q : State → Prop}
variable {cc : ByteArray} {pc : Nat} {ls : Array Slot} {rest : List Value} {D : va_G} {dA : Nat → ClassId} {B : Nat} {h : am_H} {own : String}
theorem am_w_aast (hx : p.tables.exec = Jvm.exec) (hb : c.code = cc) (hK : va_K D am_cl (am_tys dA) s) (hN9 : ∀ w ∈ am_Tn, va_Nw w s) (hO : am_Ok D dA B h s H) (hS : va_S (fun q => B ≤ q) s.heap H locs) {r v : Nat} {i : Int32} (hr : 100 ≤ am_T h r) (hin : vp_in i (am_N h r)) (hv : v = 0 ∨ (10 ≤ am_T h v ∧ am_asg (am_T h r - 100) (am_T h v - 10) = true)) (hdg : decode cc pc = .ok (.aastore, 1))
    (kk : ∀ (H1 : Heap) (locs1 : List Loc), am_Ok D dA B (am_xR h r i.toNatClampNeg v) s H1 → va_S (fun q => B ≤ q) s.heap H1 locs1 → W p l e R s m args below meth c H1 locs1 cells slots Q (F0 m (pc + 1) ls rest)) : W p l e R s m args below meth c H locs cells slots Q (F0 m pc ls (am_v2 (.inr (.inr v)) :: .int i :: am_v2 (.inr (.inr r)) :: rest)) := by
  have hxr := hO.2.2.1 r hr
  obtain ⟨a, rfl, L, k, hL, hP, hD, ha, hk⟩ := am_pos hO (r := r) (by unfold am_ow; omega)
  have hk' := hk
  rw [am_e_q hr] at hk
  have hlt : i.toNatClampNeg < am_N h (a + 1) := Nat.not_le.mp fun q => hin (Or.inr q)
  have h0 : ¬ i < 0 := fun q => hin (Or.inl q)
  obtain ⟨hA1, hA2⟩ := am_tyq hK hxr
  have fin : ∀ (w : Value) (H1 : Heap), w = va_rf (am_o v) → H1[a]? = some ((vp_cell (dA (2 + (am_T h (a + 1) - 100))) (am_N h (a + 1), .inr (.inr (.inr (.inr (fun j => am_o (am_aR h (a + 1) j))))))).setSlot i.toNatClampNeg w) → H1.size = H.size → (∀ q, q ≠ a → H1[q]? = H[q]?) → W p l e R s m args below meth c H1 (locs ++ [⟨a, i.toNatClampNeg⟩]) cells slots Q (F0 m (pc + 1) ls rest) := by
    intro w H1 hw e1 e2 e3
    refine kk H1 _ (am_Ok_set hO hL hD ha hk' rfl rfl (fun b _ => rfl) rfl rfl (am_e_xR (v := v) hr) e2 e3 (hP.set hD hk' ?_ e3) (hD.set hk')) (hS.put e2 e3 (show B ≤ a from hD.2 k _ hk'))
    show H1[a]? = some (vp_cell _ _)
    rw [e1, vp_cell_q, vp_cell_q, arrV_store]
    congr 2
    funext q
    by_cases hq : q = i.toNatClampNeg
    · simp [updV, va_up, hq, hw]
    · simp [updV, va_up, hq]
  by_cases hv0 : v = 0
  · subst hv0
    rw [am_v2_null, am_v2_ref]
    exact va_WaastN (C := am_an (am_T h (a + 1) - 100)) hx hb (hP k _ hk) (hA1 _ _) (fun h => by cases h) (by show ¬ (i < 0 ∨ (arrV _ _ _).slots.size ≤ _); rw [arrV_size]; exact hin) rfl rfl hdg (fun H1 e1 e2 e3 => fin .null H1 rfl e1 e2 e3)
  · have hv1 : 10 ≤ am_T h v ∧ am_asg (am_T h (a + 1) - 100) (am_T h v - 10) = true := by rcases hv with q | q; exact absurd q hv0; exact q
    obtain ⟨q, hc, hx9, hasg⟩ := am_asg_ok hv1.2
    obtain ⟨b, rfl, L2, k2, hL2, hP2, hD2, hb2, hkb⟩ := am_pos hO (r := v) (by unfold am_ow; omega)
    have hTb : am_T h (b + 1) = 10 + (am_T h (b + 1) - 10) := by omega
    rw [am_e_o hTb hx9] at hkb
    obtain ⟨r', hr', cellV, g1, g2, g3, -⟩ := hP2 k2 _ hkb
    have hcls := (hK.1 _ q hc).2
    obtain ⟨kA, comp, k1, k3, k4, -⟩ := hA2
    obtain ⟨kE, hkE, -⟩ := Vm.findClass_spec k4
    obtain ⟨kC, hkC, -⟩ := hcls.2
    have has : s.vm.assignable (D.1 (am_T h (b + 1) - 10)) comp = true := by
      rcases hasg with e9 | e9
      · rw [e9] at k4
        rw [Option.some.inj (k4.symm.trans hcls.1)]
        exact va_assign hcls
      · obtain ⟨c0, t1, f1, f2, f3⟩ := Cond.castable_spec (va_Nw.use (A := args) rfl (hN9 _ e9))
        cases hcls.1.symm.trans f1
        cases k4.symm.trans f2
        exact f3
    rw [am_v2_ref, am_v2_ref]
    exact W.aast hx hb (hP k _ hk) (fun q h => by cases h) (fun h => by cases h) k1 k3 rfl hkE ⟨h0, by show _ < (arrV _ _ _).slots.size; rw [arrV_size]; exact hlt⟩ g1 (fun q h => by rw [g3] at h; cases h) (by rw [g2]; exact hkC) (by rw [g2]; exact has) rfl rfl hdg (fun H1 e1 e2 e3 => fin (.ref b) H1 rfl e1 e2 e3)
theorem am_Ok_push {h' : am_H} {H1 : Heap} {x : va_E} {t : Nat} (hO : am_Ok D dA B h s H) (hB : B ≤ H.size) (z1 : H1.size = H.size + 1) (o1 : ∀ q, q < H.size → H1[q]? = H[q]?) (hT : am_T h' = va_up (am_T h) (am_Z h + 1) t) (hN : ∀ b, ¬ b = am_Z h → am_N h' (b + 1) = am_N h (b + 1)) (hI : ∀ b, ¬ b = am_Z h → am_aI h' (b + 1) = am_aI h (b + 1)) (hR : am_R h' 9000 0 = am_R h 9000 0) (ht : am_ow t) (htr : 100 ≤ t → t - 100 ∈ am_rc) (hZ : am_Z h' = am_Z h + 1) (he : ∀ b, va_up (am_e dA h) (am_Z h) x b = am_e dA h' b)
    (hat : va_at D am_cl (H.size, x) H1) : am_Ok D dA B h' s H1 := by
  obtain ⟨h0, hs, hr, h3, L, hL, hP, hD⟩ := hO
  have hk : ∀ (k : Nat) (x : Nat × va_E), (va_pl L (am_e dA h))[k]? = some x → H1[x.1]? = H[x.1]? := fun k x hx => o1 x.1 ((hP k x hx).lt)
  have hfr : H.size ∉ L := va_pl_fresh (X := []) hP (Nat.le_refl _)
  have eL : va_pl L (am_e dA h) ++ [(H.size, x)] = va_pl (L ++ [H.size]) (am_e dA h') := by
    rw [va_pl_push hfr, hs]
    exact va_pl_congr he
  have h4 : ∀ b, B ≤ b → ¬ (am_T h (b + 1) = 3 ∨ am_T h (b + 1) = 4) := by
    intro b hb q
    rcases q with q | q
    · exact absurd (h3.1 b q).1 (Nat.not_lt.mpr hb)
    · obtain ⟨t, a1, -, -, -, a5⟩ := h3.2.1
      have := h3.2.2 b q
      obtain ⟨_, _, _, _, _, _, _, q9⟩ := a5
      have : t = b := by omega
      subst this
      exact q9 hb
  have hBZ : B ≤ am_Z h := by rw [← hs]; exact hB
  refine ⟨?_, by rw [z1, hs, hZ], fun a ha => ?_, am_Ro_keep h3 (fun b hb => ?_) (fun b hb _ => hI b (by omega)) hR (fun b hb => ?_) (fun q hq => o1 q (by omega)), L ++ [H.size], fun a => ?_, ?_, ?_⟩
  · rw [hT, va_up_ne _ _ (by omega)]
    exact h0
  · rw [hT] at ha ⊢
    by_cases hq : a = am_Z h + 1
    · subst hq
      rw [va_up_self] at ha ⊢
      exact htr ha
    · rw [va_up_ne _ _ hq] at ha ⊢
      exact hr a ha
  · rw [hT, va_up_ne _ _ (by omega)]
    exact ⟨rfl, hN b (by omega)⟩
  · rw [hT]
    by_cases hq : b = am_Z h
    · subst hq
      rw [va_up_self]
      unfold am_ow at ht
      omega
    · rw [va_up_ne _ _ (by omega)]
      exact h4 b hb
  · rw [hT, List.mem_append, List.mem_singleton, hs]
    by_cases hq : a = am_Z h
    · subst hq
      rw [va_up_self]
      exact ⟨fun _ => ht, fun _ => Or.inr rfl⟩
    · rw [va_up_ne _ _ (by omega), ← hL a]
      exact ⟨fun z => z.resolve_right hq, Or.inl⟩
  · rw [← eL]
    refine (hP.kept hk).app (fun k y hy => ?_)
    have hz : k < 1 := (List.getElem?_eq_some_iff.mp hy).1
    rw [show k = 0 by omega] at hy
    cases hy
    exact hat
  · rw [← eL]
    exact hD.push hP rfl hB
theorem am_S_push {H1 : Heap} (hS : va_S (fun q => B ≤ q) s.heap H locs) (z1 : H1.size = H.size + 1) (o1 : ∀ q, q < H.size → H1[q]? = H[q]?) : va_S (fun q => B ≤ q) s.heap H1 locs :=
  ⟨Nat.le_trans hS.1 (by omega), fun x h1 h2 => (o1 x (Nat.lt_of_lt_of_le h1 hS.1)).trans (hS.2.1 x h1 h2), hS.2.2⟩
theorem am_w_new (hx : p.tables.exec = Jvm.exec) (hb : c.code = cc) (hts : ∀ w ∈ am_Tg, w.before args s = true) (hown : s.vm.findClass own = some m.cls) (hK : va_K D am_cl (am_tys dA) s) (hO : am_Ok D dA B h s H) (hB : B ≤ H.size) (hS : va_S (fun q => B ≤ q) s.heap H locs) {x idx : Nat} {q : vw_C} (hc : am_cl[x]? = some q) (hg : am_cg q) (hx9 : x < 90) (hl : Cond.classLink own idx q.1 ∈ am_Tg ∧ Cond.instantiable q.1 q.2.2 ∈ am_Tg ∧ Cond.initialized q.1 ∈ am_Tg) (hcells : cells + 1 ≤ R.cells) (hslots : slots + q.2.2 ≤ R.slots) (hdg : decode cc pc = .ok (.new idx, 3))
    (kk : ∀ H1 : Heap, am_Ok D dA B (am_nO h x q.2.2) s H1 → va_S (fun q => B ≤ q) s.heap H1 locs → W p l e R s m args below meth c H1 locs (cells + 1) (slots + q.2.2) Q (F0 m (pc + 3) ls (am_v2 (.inr (.inr (am_Z h + 1))) :: rest))) : W p l e R s m args below meth c H locs cells slots Q (F0 m pc ls rest) := by
  obtain ⟨C, T, N⟩ := q
  obtain ⟨g1, ⟨ty, g2⟩, g3⟩ := hg
  have hKn := hK.1 x _ hc
  refine W.newcK hx hb hown (hts _ hl.1) (hts _ hl.2.1) (hts _ hl.2.2) rfl hdg hcells hslots hKn.2.1 hO.2.1 fun H1 kC hkC e1 z1 o1 => ?_
  rw [← hO.2.1] at e1 z1 o1
  refine kk H1 (am_Ok_push hO hB z1 o1 rfl (fun b _ => rfl) (fun b _ => rfl) (by show am_uf (am_R h) (am_Z h + 1) 0 9000 0 = _; rw [am_uf, if_neg (by omega)]) (by unfold am_ow; omega) (fun q => by omega) rfl (am_e_nO hx9) ?_) (am_S_push hS z1 o1)
  refine ⟨_, hc, (u_born ty hts g1 hKn hkC e1 (fun k hk => (g2 k hk).1)).to (fun j hj => ?_)⟩
  have hv := am_fs_get (h := am_nO h x N) (r := am_Z h + 1) (show j < am_nf x by rw [am_nf_of hc]; exact hj)
  have e2 : vp_V (am_fs (am_nO h x N) x (am_Z h + 1)) j = am_v2 (am_gt (am_tk x j) (am_nO h x N) (32 * x + j) (am_Z h + 1)) := by
    simp only [vp_V, List.getD_eq_getElem?_getD, hv]
    rfl
  show defaultValue (ty j) = vp_V (am_fs (am_nO h x N) x (am_Z h + 1)) j
  rw [e2, am_tk_of hc]
  have u0 : ∀ {α : Type} (g : Nat → Nat → α) (f a : Nat) (v : α), am_uf g a v f a = v := fun g f a v => if_pos rfl
  rcases (g2 j hj).2 with ⟨k1, k2⟩ | ⟨k1, k2⟩ | ⟨k1, ⟨n, k2⟩ | ⟨t, k2⟩⟩
  · rw [k1, k2]
    show Value.int 0 = .int (am_uf _ _ _ _ _)
    rw [u0]
  · rw [k1, k2]
    show Value.long 0 = .long (am_uf _ _ _ _ _)
    rw [u0]
  · rw [k1, k2]
    show Value.null = va_rf (am_o (am_uf _ _ _ _ _))
    rw [u0]
    rfl
  · rw [k1, k2]
    show Value.null = va_rf (am_o (am_uf _ _ _ _ _))
    rw [u0]
    rfl
theorem am_w_newa (hx : p.tables.exec = Jvm.exec) (hb : c.code = cc) (hK : va_K D am_cl (am_tys dA) s) (hO : am_Ok D dA B h s H) (hB : B ≤ H.size) (hS : va_S (fun q => B ≤ q) s.heap H locs) {atype : ArrayType} {x : Nat} (hat : (newarray.typeOf atype = .int ∧ x = 1) ∨ (newarray.typeOf atype = .long ∧ x = 2)) (harr : (Cond.arrayClass (newarray.typeOf atype)).before args s = true) {n : Int32} (hn : ¬ n < 0) (hn1 : n.toNatClampNeg ≤ 1000000) (hcells : cells + 1 ≤ R.cells) (hslots : slots + n.toNatClampNeg ≤ R.slots) (hdg : decode cc pc = .ok (.newarray atype, 2))
    (kk : ∀ H1 : Heap, am_Ok D dA B (am_nA h x n.toNatClampNeg) s H1 → va_S (fun q => B ≤ q) s.heap H1 locs → W p l e R s m args below meth c H1 locs (cells + 1) (slots + n.toNatClampNeg) Q (F0 m (pc + 2) ls (am_v2 (.inr (.inr (am_Z h + 1))) :: rest))) : W p l e R s m args below meth c H locs cells slots Q (F0 m pc ls (.int n :: rest)) := by
  have hby : n.toNatClampNeg * componentBytes (newarray.typeOf atype) ≤ 536870912 := by
    rcases hat with ⟨q, -⟩ | ⟨q, -⟩ <;> rw [q]
    · show n.toNatClampNeg * 4 ≤ 536870912; omega
    · show n.toNatClampNeg * 8 ≤ 536870912; omega
  refine va_newaK hx hb harr rfl hdg rfl hn rfl hby hcells hslots hO.2.1 fun H1 cA e1 z1 o1 hAr hNm => ?_
  rw [← hO.2.1] at e1 z1 o1
  refine kk H1 ?_ (am_S_push hS z1 o1)
  have ua : ∀ {α : Type} (g : Nat → Nat → α) (a : Nat) (v : α), am_ua g a v a = fun _ => v := fun g a v => funext fun _ => if_pos rfl
  rcases hat with ⟨q, rfl⟩ | ⟨q, rfl⟩
  · rw [q] at e1 hNm
    have hcA : cA = dA 0 := Option.some.inj (hNm.symm.trans (hK.2 0 _ rfl).2)
    subst hcA
    refine am_Ok_push (x := .inl (dA 0, n.toNatClampNeg, .inl (fun _ => 0))) hO hB z1 o1 rfl (fun b hb => va_up_ne _ _ (by omega)) (fun b hb => funext fun i => by show am_ua _ _ _ _ _ = _; rw [am_ua, if_neg (by omega)]) rfl (by unfold am_ow; omega) (fun q => by omega) rfl (fun b => ?_) e1
    by_cases hb : b = am_Z h
    · subst hb
      rw [va_up_self, am_e_i (show am_T (am_nA h 1 n.toNatClampNeg) (am_Z h + 1) = 1 from va_up_self _ _ _)]
      show _ = Sum.inl (dA 0, va_up _ _ _ _, Sum.inl (am_ua _ _ _ _))
      rw [va_up_self, ua]
    · rw [va_up_ne _ _ hb, am_e_nA b hb]
  · rw [q] at e1 hNm
    have hcA : cA = dA 1 := Option.some.inj (hNm.symm.trans (hK.2 1 _ rfl).2)
    subst hcA
    refine am_Ok_push (x := .inl (dA 1, n.toNatClampNeg, .inr (.inl (fun _ => 0)))) hO hB z1 o1 rfl (fun b hb => va_up_ne _ _ (by omega)) (fun b hb => funext fun i => by show am_ua _ _ _ _ _ = _; rw [am_ua, if_neg (by omega)]) rfl (by unfold am_ow; omega) (fun q => by omega) rfl (fun b => ?_) e1
    by_cases hb : b = am_Z h
    · subst hb
      rw [va_up_self, am_e_l (show am_T (am_nA h 2 n.toNatClampNeg) (am_Z h + 1) = 2 from va_up_self _ _ _)]
      show _ = Sum.inl (dA 1, va_up _ _ _ _, Sum.inr (Sum.inl (am_ua _ _ _ _)))
      rw [va_up_self, ua]
    · rw [va_up_ne _ _ hb, am_e_nA b hb]
theorem am_w_newq (hx : p.tables.exec = Jvm.exec) (hb : c.code = cc) (hts : ∀ w ∈ am_Tg, w.before args s = true) (hown : s.vm.findClass own = some m.cls) (hK : va_K D am_cl (am_tys dA) s) (hO : am_Ok D dA B h s H) (hB : B ≤ H.size) (hS : va_S (fun q => B ≤ q) s.heap H locs) {x idx : Nat} (hxr : x ∈ am_rc) (hl : Cond.classLink own idx (am_an x) ∈ am_Tg) (hao : va_AO (am_an x) s) {n : Int32} (hn : ¬ n < 0) (hn1 : n.toNatClampNeg ≤ 1000000) (hcells : cells + 1 ≤ R.cells) (hslots : slots + n.toNatClampNeg ≤ R.slots) (hdg : decode cc pc = .ok (.anewarray idx, 3))
    (kk : ∀ H1 : Heap, am_Ok D dA B (am_nA h (100 + x) n.toNatClampNeg) s H1 → va_S (fun q => B ≤ q) s.heap H1 locs → W p l e R s m args below meth c H1 locs (cells + 1) (slots + n.toNatClampNeg) Q (F0 m (pc + 3) ls (am_v2 (.inr (.inr (am_Z h + 1))) :: rest))) : W p l e R s m args below meth c H locs cells slots Q (F0 m pc ls (.int n :: rest)) := by
  refine W.anew hx hb hown (hts _ hl) (va_AO.use hao) rfl hdg rfl hn (by omega) hcells hslots fun cA kA comp f1 f2 f3 f4 => ?_
  generalize hH1 : H.push ({ cls := cA, slots := Array.replicate n.toNatClampNeg .null, vm := .none } : Cell) = H1
  have z1 : H1.size = H.size + 1 := by rw [← hH1, Array.size_push]
  have e1 : H1[H.size]? = some (arrV cA n.toNatClampNeg (fun _ => .null)) := by rw [← hH1, Array.getElem?_push_size, ← arrV_new]
  have o1 : ∀ q, q < H.size → H1[q]? = H[q]? := fun q hq => by rw [← hH1, Array.getElem?_push, if_neg (Nat.ne_of_lt hq)]
  have ez : (Value.ref H.size) = am_v2 (.inr (.inr (am_Z h + 1))) := by rw [am_v2_ref, hO.2.1]
  rw [ez]
  refine kk H1 ?_ (am_S_push hS z1 o1)
  have ua : ∀ {α : Type} (g : Nat → Nat → α) (a : Nat) (v : α), am_ua g a v a = fun _ => v := fun g a v => funext fun _ => if_pos rfl
  have hcA : cA = dA (2 + x) := by
    obtain ⟨kA', comp', q1, q2, q3, q4⟩ := (am_tyq hK hxr).2
    exact Option.some.inj (f1.symm.trans q4)
  subst hcA
  refine am_Ok_push (x := .inl (dA (2 + x), n.toNatClampNeg, .inr (.inr (.inr (.inr (fun _ => none)))))) hO hB z1 o1 rfl (fun b hb => va_up_ne _ _ (by omega)) (fun b hb => funext fun i => by show am_ua _ _ _ _ _ = _; rw [am_ua, if_neg (by omega)]) rfl (by unfold am_ow; omega) (fun q => by rw [Nat.add_sub_cancel_left]; exact hxr) rfl (fun b => ?_) e1
  by_cases hb : b = am_Z h
  · subst hb
    have eT : am_T (am_nA h (100 + x) n.toNatClampNeg) (am_Z h + 1) = 100 + x := va_up_self _ _ _
    rw [va_up_self, am_e_q (by rw [eT]; omega), eT, Nat.add_sub_cancel_left]
    show _ = Sum.inl (dA (2 + x), va_up _ _ _ _, Sum.inr (Sum.inr (Sum.inr (Sum.inr (fun j => am_o (am_ua _ _ _ _ j))))))
    rw [va_up_self, ua]
    rfl
  · rw [va_up_ne _ _ hb, am_e_nA b hb]
end AMX
end
section
/-! WHAT AN ENTRY SAYS, checked against the class file and the tables' words -/
def am_okF (own : String) (idx x y : Nat) : Bool := match am_cl[x]? with
  | some q => decide (y < q.2.2) && (decide (Cond.fieldLink own idx (q.2.1 y).1 (q.2.1 y).2.1 (q.2.1 y).2.2.1 ∈ am_Tf) || decide (Cond.fieldLinkNest own idx (q.2.1 y).1 (q.2.1 y).2.1 (q.2.1 y).2.2.1 am_host ∈ am_Tn) || (decide (Cond.fieldLink own idx own (q.2.1 y).2.1 (q.2.1 y).2.2.1 ∈ am_Tf) && decide (Cond.sameField own (q.2.1 y).1 (q.2.1 y).2.1 (q.2.1 y).2.2.1 ∈ am_Ti)))
  | none => false
/-- a final field is written by its own class's constructor -/
def am_okN (own : String) (idx : Nat) (ini : Bool) (x y : Nat) : Bool := match am_cl[x]? with
  | some q => !(q.2.1 y).2.2.2 || (ini && decide ((q.2.1 y).1 = own) && decide (Cond.fieldLink own idx (q.2.1 y).1 (q.2.1 y).2.1 (q.2.1 y).2.2.1 ∈ am_Tf))
  | none => false
def am_uk (ret : Option FieldType) : Nat := match ret with
  | none => 0
  | some .long => 2
  | some (.object _) => 3
  | some (.array _) => 3
  | _ => 1
/-- what a method's place in the tables says -/
def am_okM (x y u : Nat) : Bool := am_mok.contains x && (match am_mi x with
  | some (w, _, mL, ret) => decide ((parseMethodDescriptor w.desc).map (fun d => d.parameters.length) = some y) && decide (am_uk ret = u) && decide (am_ml x = mL) && decide (mL ≤ 17)
  | none => false)
def am_okL (own : String) (idx x : Nat) : Bool := match am_mi x with
  | some (w, _, _, _) => decide (Cond.methodLink own idx w ∈ am_Tm) || decide (Cond.methodLinkNest own idx w am_host ∈ am_Tn)
  | none => false
def am_okV (own : String) (idx x y z u : Nat) : Bool := am_okM x y u && am_okL own idx x && am_mov.contains x && (match am_mi x with
  | some (w, _, _, _) => decide (z < am_cl.length) && decide (am_cn z = w.cls)
  | none => false)
def am_okI (own : String) (idx x y u : Nat) : Bool := am_okM x y u && am_okL own idx x && am_moi.contains x
def am_okS (own : String) (idx x y u : Nat) : Bool := am_okM x y u && am_okL own idx x && am_mos.contains x
def am_hn (z : Nat) : MethodName := match z with
  | 1 => Lib.Math.max.name
  | 2 => Lib.Math.min.name
  | 3 => Lib.MathLoose.max_long.x
  | _ => Lib.MathLoose.min_long.x
def am_okH (own : String) (idx z : Nat) : Bool := decide (Cond.methodLink own idx (am_hn z) ∈ am_Tm)
def am_okO (own : String) (idx y : Nat) : Bool := decide (y = 0) && decide (Cond.methodLink own idx Lib.objectInit ∈ am_Tm)
def am_okE (own : String) (cc : ByteArray) (mL : Nat) (ini : Bool) (ret : Option FieldType) (pc : Nat) (q : am_E) : Bool := match q with
  | (i, x, y, z, u, cI, cJ, ts) => match i with
    | .aconst_null => decide (decode cc pc = .ok (.aconst_null, 1))
    | .iconst n => decide (decode cc pc = .ok (.iconst n, 1)) && decide (Int32.ofInt n = cI)
    | .bipush n => decide (decode cc pc = .ok (.bipush n, 2)) && decide ((Int8.ofInt n).toInt32 = cI)
    | .sipush n => decide (decode cc pc = .ok (.sipush n, 3)) && decide ((Int16.ofInt n).toInt32 = cI)
    | .ldc n => decide (decode cc pc = .ok (.ldc n, 2)) && decide (Cond.constant own n cI ∈ am_Tc)
    | .lconst n => decide (decode cc pc = .ok (.lconst n, 1)) && decide (Int64.ofNat (n : Nat) = cJ)
    | .ldc2_w n => decide (decode cc pc = .ok (.ldc2_w n, 3)) && decide (Cond.constantLong own n cJ ∈ am_Tc)
    | .iload_n n => decide (decode cc pc = .ok (.iload_n n, 1)) && decide ((n : Nat) = x)
    | .iload n => decide (decode cc pc = .ok (.iload n, 2)) && decide (n = x)
    | .istore_n n => decide (decode cc pc = .ok (.istore_n n, 1)) && decide ((n : Nat) = x) && decide (x < mL)
    | .istore n => decide (decode cc pc = .ok (.istore n, 2)) && decide (n = x) && decide (x < mL)
    | .lload_n n => decide (decode cc pc = .ok (.lload_n n, 1)) && decide ((n : Nat) = x)
    | .lload n => decide (decode cc pc = .ok (.lload n, 2)) && decide (n = x)
    | .lstore_n n => decide (decode cc pc = .ok (.lstore_n n, 1)) && decide ((n : Nat) = x) && decide (x + 1 < mL)
    | .lstore n => decide (decode cc pc = .ok (.lstore n, 2)) && decide (n = x) && decide (x + 1 < mL)
    | .aload_n n => decide (decode cc pc = .ok (.aload_n n, 1)) && decide ((n : Nat) = x)
    | .aload n => decide (decode cc pc = .ok (.aload n, 2)) && decide (n = x)
    | .astore_n n => decide (decode cc pc = .ok (.astore_n n, 1)) && decide ((n : Nat) = x) && decide (x < mL)
    | .astore n => decide (decode cc pc = .ok (.astore n, 2)) && decide (n = x) && decide (x < mL)
    | .iinc n k => decide (decode cc pc = .ok (.iinc n k, 3)) && decide (n = x) && decide (Int32.ofInt k = cI) && decide (x < mL)
    | .iadd => decide (decode cc pc = .ok (.iadd, 1))
    | .isub => decide (decode cc pc = .ok (.isub, 1))
    | .imul => decide (decode cc pc = .ok (.imul, 1))
    | .ishr => decide (decode cc pc = .ok (.ishr, 1))
    | .iand => decide (decode cc pc = .ok (.iand, 1))
    | .idiv => decide (decode cc pc = .ok (.idiv, 1))
    | .irem => decide (decode cc pc = .ok (.irem, 1))
    | .ladd => decide (decode cc pc = .ok (.ladd, 1))
    | .lsub => decide (decode cc pc = .ok (.lsub, 1))
    | .lmul => decide (decode cc pc = .ok (.lmul, 1))
    | .land => decide (decode cc pc = .ok (.land, 1))
    | .lor => decide (decode cc pc = .ok (.lor, 1))
    | .ldiv => decide (decode cc pc = .ok (.ldiv, 1))
    | .lrem => decide (decode cc pc = .ok (.lrem, 1))
    | .lneg => decide (decode cc pc = .ok (.lneg, 1))
    | .lshl => decide (decode cc pc = .ok (.lshl, 1))
    | .i2l => decide (decode cc pc = .ok (.i2l, 1))
    | .l2i => decide (decode cc pc = .ok (.l2i, 1))
    | .lcmp => decide (decode cc pc = .ok (.lcmp, 1))
    | .dup => decide (decode cc pc = .ok (.dup, 1))
    | .pop => decide (decode cc pc = .ok (.pop, 1))
    | .dup_x1 => decide (decode cc pc = .ok (.dup_x1, 1))
    | .dup2 => decide (decode cc pc = .ok (.dup2, 1))
    | .iaload => decide (decode cc pc = .ok (.iaload, 1))
    | .laload => decide (decode cc pc = .ok (.laload, 1))
    | .aaload => decide (decode cc pc = .ok (.aaload, 1))
    | .iastore => decide (decode cc pc = .ok (.iastore, 1))
    | .lastore => decide (decode cc pc = .ok (.lastore, 1))
    | .aastore => decide (decode cc pc = .ok (.aastore, 1))
    | .arraylength => decide (decode cc pc = .ok (.arraylength, 1))
    | .ireturn => decide (decode cc pc = .ok (.ireturn, 1)) && decide ((u = 1 ∧ ret = some .boolean) ∨ (u = 0 ∧ ret = some .int))
    | .lreturn => decide (decode cc pc = .ok (.lreturn, 1)) && decide (ret = some .long)
    | .areturn => decide (decode cc pc = .ok (.areturn, 1)) && decide (am_uk ret = 3)
    | .return_ => decide (decode cc pc = .ok (.return_, 1)) && decide (ret = none)
    | .ifCond cd off => decide (decode cc pc = .ok (.ifCond cd off, 3)) && decide ((pc : Int) + off = (x : Int))
    | .if_icmp cd off => decide (decode cc pc = .ok (.if_icmp cd off, 3)) && decide ((pc : Int) + off = (x : Int))
    | .if_acmp cd off => decide (decode cc pc = .ok (.if_acmp cd off, 3)) && decide ((pc : Int) + off = (x : Int))
    | .ifnull off => decide (decode cc pc = .ok (.ifnull off, 3)) && decide ((pc : Int) + off = (x : Int))
    | .ifnonnull off => decide (decode cc pc = .ok (.ifnonnull off, 3)) && decide ((pc : Int) + off = (x : Int))
    | .goto off => decide (decode cc pc = .ok (.goto off, 3)) && decide ((pc : Int) + off = (x : Int))
    | .tableswitch df lo hi offs => (match decode cc pc with | .ok (j, _) => decide (j = .tableswitch df lo hi offs) | _ => false) && decide ((pc : Int) + df = (x : Int)) && decide (hi = lo + offs.size - 1) && decide (ts.length = offs.size) && (List.range ts.length).all (fun j => decide ((ts.getD j (0, 0)).1.toInt = lo + j) && decide ((pc : Int) + offs.getD j 0 = ((ts.getD j (0, 0)).2 : Int)))
    | .getstatic idx => decide (decode cc pc = .ok (.getstatic idx, 3)) && decide (Cond.fieldLink own idx "java/util/ArrayList" "DEFAULTCAPACITY_EMPTY_ELEMENTDATA" "[Ljava/lang/Object;" ∈ am_Tf)
    | .getfield idx => decide (decode cc pc = .ok (.getfield idx, 3)) && am_okF own idx x y && decide (am_tk x y = u)
    | .putfield idx => decide (decode cc pc = .ok (.putfield idx, 3)) && am_okF own idx x y && decide (am_tk x y = u) && am_okN own idx ini x y
    | .newarray at_ => decide (decode cc pc = .ok (.newarray at_, 2)) && (decide (newarray.typeOf at_ = .int ∧ x = 1) || decide (newarray.typeOf at_ = .long ∧ x = 2)) && decide (Cond.arrayClass (newarray.typeOf at_) ∈ am_Ti)
    | .anewarray idx => decide (decode cc pc = .ok (.anewarray idx, 3)) && decide (x ∈ am_rc) && decide (Cond.classLink own idx (am_an x) ∈ am_Tc)
    | .new idx => decide (decode cc pc = .ok (.new idx, 3)) && (match am_cl[x]? with | some q => decide (y = q.2.2) && decide (Cond.classLink own idx q.1 ∈ am_Tc) && decide (Cond.instantiable q.1 q.2.2 ∈ am_Ti) && decide (Cond.initialized q.1 ∈ am_Ti) | none => false)
    | .checkcast idx => decide (decode cc pc = .ok (.checkcast idx, 3)) && decide (x < am_cl.length) && decide (Cond.classLink own idx (am_cn x) ∈ am_Tc)
    | .invokevirtual idx => decide (decode cc pc = .ok (.invokevirtual idx, 3)) && am_okV own idx x y z u
    | .invokespecial idx => decide (decode cc pc = .ok (.invokespecial idx, 3)) && (if x = 0 then am_okO own idx y else am_okI own idx x y u)
    | .invokestatic idx => decide (decode cc pc = .ok (.invokestatic idx, 3)) && (if x = 0 then am_okH own idx z else am_okS own idx x y u)
    | _ => false
/-! CHECKS of the methods -/
theorem am_mk_1 : ∀ (w : MethodName) (cc : ByteArray) (mL : Nat) (ret : Option FieldType), am_mi 1 = some (w, cc, mL, ret) → Cond.code w cc mL ret ∈ am_Tq := fun w cc mL ret h => by
  have e : some (((⟨"EthernetGates", "<init>", "(I)V"⟩, prog_1_method_1_code, 4, none) : MethodName × ByteArray × Nat × Option FieldType)) = some (w, cc, mL, ret) := h
  cases e
  exact List.mem_of_getElem? (i := 0) rfl
theorem am_mk_2 : ∀ (w : MethodName) (cc : ByteArray) (mL : Nat) (ret : Option FieldType), am_mi 2 = some (w, cc, mL, ret) → Cond.code w cc mL ret ∈ am_Tq := fun w cc mL ret h => by
  have e : some (((⟨"EthernetGates$Port", "<init>", "(I)V"⟩, prog_4_method_1_code, 3, none) : MethodName × ByteArray × Nat × Option FieldType)) = some (w, cc, mL, ret) := h
  cases e
  exact List.mem_of_getElem? (i := 2) rfl
theorem am_mk_3 : ∀ (w : MethodName) (cc : ByteArray) (mL : Nat) (ret : Option FieldType), am_mi 3 = some (w, cc, mL, ret) → Cond.code w cc mL ret ∈ am_Tq := fun w cc mL ret h => by
  have e : some (((⟨"EthernetGates$PortRank", "<init>", "()V"⟩, prog_5_method_1_code, 1, none) : MethodName × ByteArray × Nat × Option FieldType)) = some (w, cc, mL, ret) := h
  cases e
  exact List.mem_of_getElem? (i := 3) rfl
theorem am_mk_4 : ∀ (w : MethodName) (cc : ByteArray) (mL : Nat) (ret : Option FieldType), am_mi 4 = some (w, cc, mL, ret) → Cond.code w cc mL ret ∈ am_Tq := fun w cc mL ret h => by
  have e : some (((⟨"java/util/ArrayList", "<init>", "()V"⟩, prog_21_method_2_code, 1, none) : MethodName × ByteArray × Nat × Option FieldType)) = some (w, cc, mL, ret) := h
  cases e
  exact List.mem_of_getElem? (i := 4) rfl
theorem am_mk_5 : ∀ (w : MethodName) (cc : ByteArray) (mL : Nat) (ret : Option FieldType), am_mi 5 = some (w, cc, mL, ret) → Cond.code w cc mL ret ∈ am_Tq := fun w cc mL ret h => by
  have e : some (((⟨"java/util/AbstractList", "<init>", "()V"⟩, prog_20_method_1_code, 1, none) : MethodName × ByteArray × Nat × Option FieldType)) = some (w, cc, mL, ret) := h
  cases e
  exact List.mem_of_getElem? (i := 5) rfl
theorem am_mk_6 : ∀ (w : MethodName) (cc : ByteArray) (mL : Nat) (ret : Option FieldType), am_mi 6 = some (w, cc, mL, ret) → Cond.code w cc mL ret ∈ am_Tq := fun w cc mL ret h => by
  have e : some (((⟨"java/util/AbstractCollection", "<init>", "()V"⟩, prog_19_method_1_code, 1, none) : MethodName × ByteArray × Nat × Option FieldType)) = some (w, cc, mL, ret) := h
  cases e
  exact List.mem_of_getElem? (i := 6) rfl
theorem am_mk_7 : ∀ (w : MethodName) (cc : ByteArray) (mL : Nat) (ret : Option FieldType), am_mi 7 = some (w, cc, mL, ret) → Cond.code w cc mL ret ∈ am_Tq := fun w cc mL ret h => by
  have e : some (((⟨"EthernetGates", "link", "(IJ)I"⟩, prog_1_method_2_code, 6, (some FieldType.int)) : MethodName × ByteArray × Nat × Option FieldType)) = some (w, cc, mL, ret) := h
  cases e
  exact List.mem_of_getElem? (i := 7) rfl
theorem am_mk_8 : ∀ (w : MethodName) (cc : ByteArray) (mL : Nat) (ret : Option FieldType), am_mi 8 = some (w, cc, mL, ret) → Cond.code w cc mL ret ∈ am_Tq := fun w cc mL ret h => by
  have e : some (((⟨"EthernetGates", "findPort", "(I)LEthernetGates$Port;"⟩, prog_1_method_15_code, 2, (some (FieldType.object "EthernetGates$Port"))) : MethodName × ByteArray × Nat × Option FieldType)) = some (w, cc, mL, ret) := h
  cases e
  exact List.mem_of_getElem? (i := 8) rfl
theorem am_mk_9 : ∀ (w : MethodName) (cc : ByteArray) (mL : Nat) (ret : Option FieldType), am_mi 9 = some (w, cc, mL, ret) → Cond.code w cc mL ret ∈ am_Tq := fun w cc mL ret h => by
  have e : some (((⟨"EthernetGates$Port", "isSending", "()Z"⟩, prog_4_method_2_code, 1, (some FieldType.boolean)) : MethodName × ByteArray × Nat × Option FieldType)) = some (w, cc, mL, ret) := h
  cases e
  exact List.mem_of_getElem? (i := 9) rfl
theorem am_mk_10 : ∀ (w : MethodName) (cc : ByteArray) (mL : Nat) (ret : Option FieldType), am_mi 10 = some (w, cc, mL, ret) → Cond.code w cc mL ret ∈ am_Tq := fun w cc mL ret h => by
  have e : some (((⟨"EthernetGates$Port", "loseFrames", "()I"⟩, prog_4_method_4_code, 3, (some FieldType.int)) : MethodName × ByteArray × Nat × Option FieldType)) = some (w, cc, mL, ret) := h
  cases e
  exact List.mem_of_getElem? (i := 10) rfl
theorem am_mk_11 : ∀ (w : MethodName) (cc : ByteArray) (mL : Nat) (ret : Option FieldType), am_mi 11 = some (w, cc, mL, ret) → Cond.code w cc mL ret ∈ am_Tq := fun w cc mL ret h => by
  have e : some (((⟨"EthernetGates", "gate", "(IIJJ)I"⟩, prog_1_method_3_code, 9, (some FieldType.int)) : MethodName × ByteArray × Nat × Option FieldType)) = some (w, cc, mL, ret) := h
  cases e
  exact List.mem_of_getElem? (i := 11) rfl
theorem am_mk_12 : ∀ (w : MethodName) (cc : ByteArray) (mL : Nat) (ret : Option FieldType), am_mi 12 = some (w, cc, mL, ret) → Cond.code w cc mL ret ∈ am_Tq := fun w cc mL ret h => by
  have e : some (((⟨"EthernetGates", "isRank", "(I)Z"⟩, prog_1_method_17_code, 1, (some FieldType.boolean)) : MethodName × ByteArray × Nat × Option FieldType)) = some (w, cc, mL, ret) := h
  cases e
  exact List.mem_of_getElem? (i := 12) rfl
theorem am_mk_13 : ∀ (w : MethodName) (cc : ByteArray) (mL : Nat) (ret : Option FieldType), am_mi 13 = some (w, cc, mL, ret) → Cond.code w cc mL ret ∈ am_Tq := fun w cc mL ret h => by
  have e : some (((⟨"EthernetGates$PortRank", "addWindow", "(JJ)Z"⟩, prog_5_method_5_code, 5, (some FieldType.boolean)) : MethodName × ByteArray × Nat × Option FieldType)) = some (w, cc, mL, ret) := h
  cases e
  exact List.mem_of_getElem? (i := 13) rfl
theorem am_mk_14 : ∀ (w : MethodName) (cc : ByteArray) (mL : Nat) (ret : Option FieldType), am_mi 14 = some (w, cc, mL, ret) → Cond.code w cc mL ret ∈ am_Tq := fun w cc mL ret h => by
  have e : some (((⟨"EthernetGates", "frame", "(IIII)I"⟩, prog_1_method_5_code, 7, (some FieldType.int)) : MethodName × ByteArray × Nat × Option FieldType)) = some (w, cc, mL, ret) := h
  cases e
  exact List.mem_of_getElem? (i := 15) rfl
theorem am_mk_15 : ∀ (w : MethodName) (cc : ByteArray) (mL : Nat) (ret : Option FieldType), am_mi 15 = some (w, cc, mL, ret) → Cond.code w cc mL ret ∈ am_Tq := fun w cc mL ret h => by
  have e : some (((⟨"EthernetGates", "isAddress", "(I)Z"⟩, prog_1_method_18_code, 1, (some FieldType.boolean)) : MethodName × ByteArray × Nat × Option FieldType)) = some (w, cc, mL, ret) := h
  cases e
  exact List.mem_of_getElem? (i := 16) rfl
theorem am_mk_16 : ∀ (w : MethodName) (cc : ByteArray) (mL : Nat) (ret : Option FieldType), am_mi 16 = some (w, cc, mL, ret) → Cond.code w cc mL ret ∈ am_Tq := fun w cc mL ret h => by
  have e : some (((⟨"EthernetGates", "addressOf", "(I)LEthernetGates$Address;"⟩, prog_1_method_16_code, 3, (some (FieldType.object "EthernetGates$Address"))) : MethodName × ByteArray × Nat × Option FieldType)) = some (w, cc, mL, ret) := h
  cases e
  exact List.mem_of_getElem? (i := 17) rfl
theorem am_mk_17 : ∀ (w : MethodName) (cc : ByteArray) (mL : Nat) (ret : Option FieldType), am_mi 17 = some (w, cc, mL, ret) → Cond.code w cc mL ret ∈ am_Tq := fun w cc mL ret h => by
  have e : some (((⟨"EthernetGates$Address", "<init>", "()V"⟩, prog_2_method_1_code, 2, none) : MethodName × ByteArray × Nat × Option FieldType)) = some (w, cc, mL, ret) := h
  cases e
  exact List.mem_of_getElem? (i := 18) rfl
theorem am_mk_18 : ∀ (w : MethodName) (cc : ByteArray) (mL : Nat) (ret : Option FieldType), am_mi 18 = some (w, cc, mL, ret) → Cond.code w cc mL ret ∈ am_Tq := fun w cc mL ret h => by
  have e : some (((⟨"EthernetGates$Stream", "<init>", "()V"⟩, prog_6_method_1_code, 1, none) : MethodName × ByteArray × Nat × Option FieldType)) = some (w, cc, mL, ret) := h
  cases e
  exact List.mem_of_getElem? (i := 19) rfl
theorem am_mk_19 : ∀ (w : MethodName) (cc : ByteArray) (mL : Nat) (ret : Option FieldType), am_mi 19 = some (w, cc, mL, ret) → Cond.code w cc mL ret ∈ am_Tq := fun w cc mL ret h => by
  have e : some (((⟨"EthernetGates$Stream", "takesOne", "(J)Z"⟩, prog_6_method_3_code, 4, (some FieldType.boolean)) : MethodName × ByteArray × Nat × Option FieldType)) = some (w, cc, mL, ret) := h
  cases e
  exact List.mem_of_getElem? (i := 20) rfl
theorem am_mk_20 : ∀ (w : MethodName) (cc : ByteArray) (mL : Nat) (ret : Option FieldType), am_mi 20 = some (w, cc, mL, ret) → Cond.code w cc mL ret ∈ am_Tq := fun w cc mL ret h => by
  have e : some (((⟨"EthernetGates$Stream", "takenAt", "(J)I"⟩, prog_6_method_2_code, 3, (some FieldType.int)) : MethodName × ByteArray × Nat × Option FieldType)) = some (w, cc, mL, ret) := h
  cases e
  exact List.mem_of_getElem? (i := 21) rfl
theorem am_mk_21 : ∀ (w : MethodName) (cc : ByteArray) (mL : Nat) (ret : Option FieldType), am_mi 21 = some (w, cc, mL, ret) → Cond.code w cc mL ret ∈ am_Tq := fun w cc mL ret h => by
  have e : some (((⟨"EthernetGates$Address", "portAt", "(J)I"⟩, prog_2_method_3_code, 3, (some FieldType.int)) : MethodName × ByteArray × Nat × Option FieldType)) = some (w, cc, mL, ret) := h
  cases e
  exact List.mem_of_getElem? (i := 22) rfl
theorem am_mk_22 : ∀ (w : MethodName) (cc : ByteArray) (mL : Nat) (ret : Option FieldType), am_mi 22 = some (w, cc, mL, ret) → Cond.code w cc mL ret ∈ am_Tq := fun w cc mL ret h => by
  have e : some (((⟨"EthernetGates$Address", "isFixed", "()Z"⟩, prog_2_method_2_code, 1, (some FieldType.boolean)) : MethodName × ByteArray × Nat × Option FieldType)) = some (w, cc, mL, ret) := h
  cases e
  exact List.mem_of_getElem? (i := 23) rfl
theorem am_mk_23 : ∀ (w : MethodName) (cc : ByteArray) (mL : Nat) (ret : Option FieldType), am_mi 23 = some (w, cc, mL, ret) → Cond.code w cc mL ret ∈ am_Tq := fun w cc mL ret h => by
  have e : some (((⟨"EthernetGates", "queueCopies", "(LEthernetGates$Port;III)I"⟩, prog_1_method_20_code, 9, (some FieldType.int)) : MethodName × ByteArray × Nat × Option FieldType)) = some (w, cc, mL, ret) := h
  cases e
  exact List.mem_of_getElem? (i := 24) rfl
theorem am_mk_24 : ∀ (w : MethodName) (cc : ByteArray) (mL : Nat) (ret : Option FieldType), am_mi 24 = some (w, cc, mL, ret) → Cond.code w cc mL ret ∈ am_Tq := fun w cc mL ret h => by
  have e : some (((⟨"EthernetGates$Port", "queue", "(III)Z"⟩, prog_4_method_3_code, 4, (some FieldType.boolean)) : MethodName × ByteArray × Nat × Option FieldType)) = some (w, cc, mL, ret) := h
  cases e
  exact List.mem_of_getElem? (i := 25) rfl
theorem am_mk_25 : ∀ (w : MethodName) (cc : ByteArray) (mL : Nat) (ret : Option FieldType), am_mi 25 = some (w, cc, mL, ret) → Cond.code w cc mL ret ∈ am_Tq := fun w cc mL ret h => by
  have e : some (((⟨"EthernetGates$PortRank", "add", "(II)Z"⟩, prog_5_method_2_code, 4, (some FieldType.boolean)) : MethodName × ByteArray × Nat × Option FieldType)) = some (w, cc, mL, ret) := h
  cases e
  exact List.mem_of_getElem? (i := 26) rfl
theorem am_mk_26 : ∀ (w : MethodName) (cc : ByteArray) (mL : Nat) (ret : Option FieldType), am_mi 26 = some (w, cc, mL, ret) → Cond.code w cc mL ret ∈ am_Tq := fun w cc mL ret h => by
  have e : some (((⟨"EthernetGates", "run", "(J)I"⟩, prog_1_method_6_code, 9, (some FieldType.int)) : MethodName × ByteArray × Nat × Option FieldType)) = some (w, cc, mL, ret) := h
  cases e
  exact List.mem_of_getElem? (i := 27) rfl
theorem am_mk_27 : ∀ (w : MethodName) (cc : ByteArray) (mL : Nat) (ret : Option FieldType), am_mi 27 = some (w, cc, mL, ret) → Cond.code w cc mL ret ∈ am_Tq := fun w cc mL ret h => by
  have e : some (((⟨"EthernetGates", "endSendings", "()V"⟩, prog_1_method_21_code, 3, none) : MethodName × ByteArray × Nat × Option FieldType)) = some (w, cc, mL, ret) := h
  cases e
  exact List.mem_of_getElem? (i := 28) rfl
theorem am_mk_28 : ∀ (w : MethodName) (cc : ByteArray) (mL : Nat) (ret : Option FieldType), am_mi 28 = some (w, cc, mL, ret) → Cond.code w cc mL ret ∈ am_Tq := fun w cc mL ret h => by
  have e : some (((⟨"java/util/ArrayList", "size", "()I"⟩, prog_21_method_8_code, 1, (some FieldType.int)) : MethodName × ByteArray × Nat × Option FieldType)) = some (w, cc, mL, ret) := h
  cases e
  exact List.mem_of_getElem? (i := 29) rfl
theorem am_mk_29 : ∀ (w : MethodName) (cc : ByteArray) (mL : Nat) (ret : Option FieldType), am_mi 29 = some (w, cc, mL, ret) → Cond.code w cc mL ret ∈ am_Tq := fun w cc mL ret h => by
  have e : some (((⟨"EthernetGates$Departure", "<init>", "(IIJJ)V"⟩, prog_3_method_1_code, 7, none) : MethodName × ByteArray × Nat × Option FieldType)) = some (w, cc, mL, ret) := h
  cases e
  exact List.mem_of_getElem? (i := 30) rfl
theorem am_mk_30 : ∀ (w : MethodName) (cc : ByteArray) (mL : Nat) (ret : Option FieldType), am_mi 30 = some (w, cc, mL, ret) → Cond.code w cc mL ret ∈ am_Tq := fun w cc mL ret h => by
  have e : some (((⟨"java/util/ArrayList", "add", "(Ljava/lang/Object;)Z"⟩, prog_21_method_25_code, 2, (some FieldType.boolean)) : MethodName × ByteArray × Nat × Option FieldType)) = some (w, cc, mL, ret) := h
  cases e
  exact List.mem_of_getElem? (i := 31) rfl
theorem am_mk_31 : ∀ (w : MethodName) (cc : ByteArray) (mL : Nat) (ret : Option FieldType), am_mi 31 = some (w, cc, mL, ret) → Cond.code w cc mL ret ∈ am_Tq := fun w cc mL ret h => by
  have e : some (((⟨"java/util/ArrayList", "add", "(Ljava/lang/Object;[Ljava/lang/Object;I)V"⟩, prog_21_method_24_code, 4, none) : MethodName × ByteArray × Nat × Option FieldType)) = some (w, cc, mL, ret) := h
  cases e
  exact List.mem_of_getElem? (i := 32) rfl
theorem am_mk_32 : ∀ (w : MethodName) (cc : ByteArray) (mL : Nat) (ret : Option FieldType), am_mi 32 = some (w, cc, mL, ret) → Cond.code w cc mL ret ∈ am_Tq := fun w cc mL ret h => by
  have e : some (((⟨"java/util/ArrayList", "grow", "()[Ljava/lang/Object;"⟩, prog_21_method_7_code, 1, (some (FieldType.array (FieldType.object "java/lang/Object")))) : MethodName × ByteArray × Nat × Option FieldType)) = some (w, cc, mL, ret) := h
  cases e
  exact List.mem_of_getElem? (i := 33) rfl
theorem am_mk_33 : ∀ (w : MethodName) (cc : ByteArray) (mL : Nat) (ret : Option FieldType), am_mi 33 = some (w, cc, mL, ret) → Cond.code w cc mL ret ∈ am_Tq := fun w cc mL ret h => by
  have e : some (((⟨"java/util/ArrayList", "grow", "(I)[Ljava/lang/Object;"⟩, prog_21_method_6_code, 4, (some (FieldType.array (FieldType.object "java/lang/Object")))) : MethodName × ByteArray × Nat × Option FieldType)) = some (w, cc, mL, ret) := h
  cases e
  exact List.mem_of_getElem? (i := 34) rfl
theorem am_mk_34 : ∀ (w : MethodName) (cc : ByteArray) (mL : Nat) (ret : Option FieldType), am_mi 34 = some (w, cc, mL, ret) → Cond.code w cc mL ret ∈ am_Tq := fun w cc mL ret h => by
  have e : some (((⟨"jdk/internal/util/ArraysSupport", "newLength", "(III)I"⟩, prog_28_method_27_code, 4, (some FieldType.int)) : MethodName × ByteArray × Nat × Option FieldType)) = some (w, cc, mL, ret) := h
  cases e
  exact List.mem_of_getElem? (i := 35) rfl
theorem am_mk_35 : ∀ (w : MethodName) (cc : ByteArray) (mL : Nat) (ret : Option FieldType), am_mi 35 = some (w, cc, mL, ret) → Cond.code w cc mL ret ∈ am_Tq := fun w cc mL ret h => by
  have e : some (((⟨"jdk/internal/util/ArraysSupport", "hugeLength", "(II)I"⟩, prog_28_method_28_code, 3, (some FieldType.int)) : MethodName × ByteArray × Nat × Option FieldType)) = some (w, cc, mL, ret) := h
  cases e
  exact List.mem_of_getElem? (i := 37) rfl
theorem am_mk_36 : ∀ (w : MethodName) (cc : ByteArray) (mL : Nat) (ret : Option FieldType), am_mi 36 = some (w, cc, mL, ret) → Cond.code w cc mL ret ∈ am_Tq := fun w cc mL ret h => by
  have e : some (((⟨"java/util/Arrays", "copyOf", "([Ljava/lang/Object;I)[Ljava/lang/Object;"⟩, prog_22_method_119_code, 2, (some (FieldType.array (FieldType.object "java/lang/Object")))) : MethodName × ByteArray × Nat × Option FieldType)) = some (w, cc, mL, ret) := h
  cases e
  exact List.mem_of_getElem? (i := 38) rfl
theorem am_mk_37 : ∀ (w : MethodName) (cc : ByteArray) (mL : Nat) (ret : Option FieldType), am_mi 37 = some (w, cc, mL, ret) → Cond.code w cc mL ret ∈ am_Tq := fun w cc mL ret h => by
  have e : some (((⟨"EthernetGates", "beginSendings", "()V"⟩, prog_1_method_22_code, 2, none) : MethodName × ByteArray × Nat × Option FieldType)) = some (w, cc, mL, ret) := h
  cases e
  exact List.mem_of_getElem? (i := 41) rfl
theorem am_mk_38 : ∀ (w : MethodName) (cc : ByteArray) (mL : Nat) (ret : Option FieldType), am_mi 38 = some (w, cc, mL, ret) → Cond.code w cc mL ret ∈ am_Tq := fun w cc mL ret h => by
  have e : some (((⟨"EthernetGates$Port", "beginNext", "(JJ)V"⟩, prog_4_method_5_code, 11, none) : MethodName × ByteArray × Nat × Option FieldType)) = some (w, cc, mL, ret) := h
  cases e
  exact List.mem_of_getElem? (i := 42) rfl
theorem am_mk_39 : ∀ (w : MethodName) (cc : ByteArray) (mL : Nat) (ret : Option FieldType), am_mi 39 = some (w, cc, mL, ret) → Cond.code w cc mL ret ∈ am_Tq := fun w cc mL ret h => by
  have e : some (((⟨"EthernetGates$PortRank", "firstBits", "()I"⟩, prog_5_method_4_code, 1, (some FieldType.int)) : MethodName × ByteArray × Nat × Option FieldType)) = some (w, cc, mL, ret) := h
  cases e
  exact List.mem_of_getElem? (i := 43) rfl
theorem am_mk_40 : ∀ (w : MethodName) (cc : ByteArray) (mL : Nat) (ret : Option FieldType), am_mi 40 = some (w, cc, mL, ret) → Cond.code w cc mL ret ∈ am_Tq := fun w cc mL ret h => by
  have e : some (((⟨"EthernetGates$PortRank", "letsBegin", "(JJ)Z"⟩, prog_5_method_8_code, 5, (some FieldType.boolean)) : MethodName × ByteArray × Nat × Option FieldType)) = some (w, cc, mL, ret) := h
  cases e
  exact List.mem_of_getElem? (i := 44) rfl
theorem am_mk_41 : ∀ (w : MethodName) (cc : ByteArray) (mL : Nat) (ret : Option FieldType), am_mi 41 = some (w, cc, mL, ret) → Cond.code w cc mL ret ∈ am_Tq := fun w cc mL ret h => by
  have e : some (((⟨"EthernetGates$PortRank", "isShaped", "()Z"⟩, prog_5_method_6_code, 1, (some FieldType.boolean)) : MethodName × ByteArray × Nat × Option FieldType)) = some (w, cc, mL, ret) := h
  cases e
  exact List.mem_of_getElem? (i := 45) rfl
theorem am_mk_42 : ∀ (w : MethodName) (cc : ByteArray) (mL : Nat) (ret : Option FieldType), am_mi 42 = some (w, cc, mL, ret) → Cond.code w cc mL ret ∈ am_Tq := fun w cc mL ret h => by
  have e : some (((⟨"EthernetGates$PortRank", "isOpenFor", "(JJ)Z"⟩, prog_5_method_9_code, 6, (some FieldType.boolean)) : MethodName × ByteArray × Nat × Option FieldType)) = some (w, cc, mL, ret) := h
  cases e
  exact List.mem_of_getElem? (i := 46) rfl
theorem am_mk_43 : ∀ (w : MethodName) (cc : ByteArray) (mL : Nat) (ret : Option FieldType), am_mi 43 = some (w, cc, mL, ret) → Cond.code w cc mL ret ∈ am_Tq := fun w cc mL ret h => by
  have e : some (((⟨"EthernetGates$PortRank", "removeFirst", "()I"⟩, prog_5_method_3_code, 2, (some FieldType.int)) : MethodName × ByteArray × Nat × Option FieldType)) = some (w, cc, mL, ret) := h
  cases e
  exact List.mem_of_getElem? (i := 47) rfl
theorem am_mk_44 : ∀ (w : MethodName) (cc : ByteArray) (mL : Nat) (ret : Option FieldType), am_mi 44 = some (w, cc, mL, ret) → Cond.code w cc mL ret ∈ am_Tq := fun w cc mL ret h => by
  have e : some (((⟨"EthernetGates", "ticksUntilChange", "()J"⟩, prog_1_method_23_code, 4, (some FieldType.long)) : MethodName × ByteArray × Nat × Option FieldType)) = some (w, cc, mL, ret) := h
  cases e
  exact List.mem_of_getElem? (i := 48) rfl
theorem am_mk_45 : ∀ (w : MethodName) (cc : ByteArray) (mL : Nat) (ret : Option FieldType), am_mi 45 = some (w, cc, mL, ret) → Cond.code w cc mL ret ∈ am_Tq := fun w cc mL ret h => by
  have e : some (((⟨"EthernetGates$Port", "ticksUntilChange", "(J)J"⟩, prog_4_method_6_code, 3, (some FieldType.long)) : MethodName × ByteArray × Nat × Option FieldType)) = some (w, cc, mL, ret) := h
  cases e
  exact List.mem_of_getElem? (i := 49) rfl
theorem am_mk_46 : ∀ (w : MethodName) (cc : ByteArray) (mL : Nat) (ret : Option FieldType), am_mi 46 = some (w, cc, mL, ret) → Cond.code w cc mL ret ∈ am_Tq := fun w cc mL ret h => by
  have e : some (((⟨"EthernetGates", "moveCredits", "(J)V"⟩, prog_1_method_24_code, 4, none) : MethodName × ByteArray × Nat × Option FieldType)) = some (w, cc, mL, ret) := h
  cases e
  exact List.mem_of_getElem? (i := 51) rfl
theorem am_mk_47 : ∀ (w : MethodName) (cc : ByteArray) (mL : Nat) (ret : Option FieldType), am_mi 47 = some (w, cc, mL, ret) → Cond.code w cc mL ret ∈ am_Tq := fun w cc mL ret h => by
  have e : some (((⟨"EthernetGates$Port", "moveCredits", "(J)V"⟩, prog_4_method_7_code, 5, none) : MethodName × ByteArray × Nat × Option FieldType)) = some (w, cc, mL, ret) := h
  cases e
  exact List.mem_of_getElem? (i := 52) rfl
theorem am_mk_48 : ∀ (w : MethodName) (cc : ByteArray) (mL : Nat) (ret : Option FieldType), am_mi 48 = some (w, cc, mL, ret) → Cond.code w cc mL ret ∈ am_Tq := fun w cc mL ret h => by
  have e : some (((⟨"EthernetGates$PortRank", "moveCredit", "(JJ)V"⟩, prog_5_method_10_code, 5, none) : MethodName × ByteArray × Nat × Option FieldType)) = some (w, cc, mL, ret) := h
  cases e
  exact List.mem_of_getElem? (i := 53) rfl
theorem am_mk_49 : ∀ (w : MethodName) (cc : ByteArray) (mL : Nat) (ret : Option FieldType), am_mi 49 = some (w, cc, mL, ret) → Cond.code w cc mL ret ∈ am_Tq := fun w cc mL ret h => by
  have e : some (((⟨"EthernetGates", "left", "(II)I"⟩, prog_1_method_7_code, 4, (some FieldType.int)) : MethodName × ByteArray × Nat × Option FieldType)) = some (w, cc, mL, ret) := h
  cases e
  exact List.mem_of_getElem? (i := 54) rfl
theorem am_mk_50 : ∀ (w : MethodName) (cc : ByteArray) (mL : Nat) (ret : Option FieldType), am_mi 50 = some (w, cc, mL, ret) → Cond.code w cc mL ret ∈ am_Tq := fun w cc mL ret h => by
  have e : some (((⟨"java/util/ArrayList", "get", "(I)Ljava/lang/Object;"⟩, prog_21_method_20_code, 2, (some (FieldType.object "java/lang/Object"))) : MethodName × ByteArray × Nat × Option FieldType)) = some (w, cc, mL, ret) := h
  cases e
  exact List.mem_of_getElem? (i := 55) rfl
theorem am_mk_51 : ∀ (w : MethodName) (cc : ByteArray) (mL : Nat) (ret : Option FieldType), am_mi 51 = some (w, cc, mL, ret) → Cond.code w cc mL ret ∈ am_Tq := fun w cc mL ret h => by
  have e : some (((⟨"java/util/Objects", "checkIndex", "(II)I"⟩, prog_25_method_17_code, 2, (some FieldType.int)) : MethodName × ByteArray × Nat × Option FieldType)) = some (w, cc, mL, ret) := h
  cases e
  exact List.mem_of_getElem? (i := 56) rfl
theorem am_mk_52 : ∀ (w : MethodName) (cc : ByteArray) (mL : Nat) (ret : Option FieldType), am_mi 52 = some (w, cc, mL, ret) → Cond.code w cc mL ret ∈ am_Tq := fun w cc mL ret h => by
  have e : some (((⟨"jdk/internal/util/Preconditions", "checkIndex", "(IILjava/util/function/BiFunction;)I"⟩, prog_29_method_11_code, 3, (some FieldType.int)) : MethodName × ByteArray × Nat × Option FieldType)) = some (w, cc, mL, ret) := h
  cases e
  exact List.mem_of_getElem? (i := 57) rfl
theorem am_mk_53 : ∀ (w : MethodName) (cc : ByteArray) (mL : Nat) (ret : Option FieldType), am_mi 53 = some (w, cc, mL, ret) → Cond.code w cc mL ret ∈ am_Tq := fun w cc mL ret h => by
  have e : some (((⟨"java/util/ArrayList", "elementData", "(I)Ljava/lang/Object;"⟩, prog_21_method_18_code, 2, (some (FieldType.object "java/lang/Object"))) : MethodName × ByteArray × Nat × Option FieldType)) = some (w, cc, mL, ret) := h
  cases e
  exact List.mem_of_getElem? (i := 58) rfl
theorem am_mk_54 : ∀ (w : MethodName) (cc : ByteArray) (mL : Nat) (ret : Option FieldType), am_mi 54 = some (w, cc, mL, ret) → Cond.code w cc mL ret ∈ am_Tq := fun w cc mL ret h => by
  have e : some (((⟨"EthernetGates", "learn", "(IIJ)I"⟩, prog_1_method_8_code, 7, (some FieldType.int)) : MethodName × ByteArray × Nat × Option FieldType)) = some (w, cc, mL, ret) := h
  cases e
  exact List.mem_of_getElem? (i := 59) rfl
theorem am_mk_55 : ∀ (w : MethodName) (cc : ByteArray) (mL : Nat) (ret : Option FieldType), am_mi 55 = some (w, cc, mL, ret) → Cond.code w cc mL ret ∈ am_Tq := fun w cc mL ret h => by
  have e : some (((⟨"EthernetGates", "credit", "(IIJJ)I"⟩, prog_1_method_9_code, 8, (some FieldType.int)) : MethodName × ByteArray × Nat × Option FieldType)) = some (w, cc, mL, ret) := h
  cases e
  exact List.mem_of_getElem? (i := 60) rfl
theorem am_mk_56 : ∀ (w : MethodName) (cc : ByteArray) (mL : Nat) (ret : Option FieldType), am_mi 56 = some (w, cc, mL, ret) → Cond.code w cc mL ret ∈ am_Tq := fun w cc mL ret h => by
  have e : some (((⟨"EthernetGates$PortRank", "shape", "(JJ)V"⟩, prog_5_method_7_code, 5, none) : MethodName × ByteArray × Nat × Option FieldType)) = some (w, cc, mL, ret) := h
  cases e
  exact List.mem_of_getElem? (i := 61) rfl
theorem am_mk_57 : ∀ (w : MethodName) (cc : ByteArray) (mL : Nat) (ret : Option FieldType), am_mi 57 = some (w, cc, mL, ret) → Cond.code w cc mL ret ∈ am_Tq := fun w cc mL ret h => by
  have e : some (((⟨"EthernetGates", "filter", "(IJ)I"⟩, prog_1_method_10_code, 6, (some FieldType.int)) : MethodName × ByteArray × Nat × Option FieldType)) = some (w, cc, mL, ret) := h
  cases e
  exact List.mem_of_getElem? (i := 62) rfl
theorem am_mk_58 : ∀ (w : MethodName) (cc : ByteArray) (mL : Nat) (ret : Option FieldType), am_mi 58 = some (w, cc, mL, ret) → Cond.code w cc mL ret ∈ am_Tq := fun w cc mL ret h => by
  have e : some (((⟨"EthernetGates", "clock", "(IJ)I"⟩, prog_1_method_11_code, 7, (some FieldType.int)) : MethodName × ByteArray × Nat × Option FieldType)) = some (w, cc, mL, ret) := h
  cases e
  exact List.mem_of_getElem? (i := 63) rfl
theorem am_mk_59 : ∀ (w : MethodName) (cc : ByteArray) (mL : Nat) (ret : Option FieldType), am_mi 59 = some (w, cc, mL, ret) → Cond.code w cc mL ret ∈ am_Tq := fun w cc mL ret h => by
  have e : some (((⟨"EthernetGates", "dropped", "(I)I"⟩, prog_1_method_12_code, 2, (some FieldType.int)) : MethodName × ByteArray × Nat × Option FieldType)) = some (w, cc, mL, ret) := h
  cases e
  exact List.mem_of_getElem? (i := 64) rfl
theorem am_mk_60 : ∀ (w : MethodName) (cc : ByteArray) (mL : Nat) (ret : Option FieldType), am_mi 60 = some (w, cc, mL, ret) → Cond.code w cc mL ret ∈ am_Tq := fun w cc mL ret h => by
  have e : some (((⟨"EthernetGates", "service", "(II)I"⟩, prog_1_method_13_code, 3, (some FieldType.int)) : MethodName × ByteArray × Nat × Option FieldType)) = some (w, cc, mL, ret) := h
  cases e
  exact List.mem_of_getElem? (i := 65) rfl
theorem am_mk_61 : ∀ (w : MethodName) (cc : ByteArray) (mL : Nat) (ret : Option FieldType), am_mi 61 = some (w, cc, mL, ret) → Cond.code w cc mL ret ∈ am_Tq := fun w cc mL ret h => by
  have e : some (((⟨"EthernetGates", "offererOf", "(I)I"⟩, prog_1_method_14_code, 2, (some FieldType.int)) : MethodName × ByteArray × Nat × Option FieldType)) = some (w, cc, mL, ret) := h
  cases e
  exact List.mem_of_getElem? (i := 66) rfl
theorem am_mk_62 : ∀ (w : MethodName) (cc : ByteArray) (mL : Nat) (ret : Option FieldType), am_mi 62 = some (w, cc, mL, ret) → Cond.code w cc mL ret ∈ am_Tq := fun w cc mL ret h => by
  have e : some (((⟨"EthernetGates", "isService", "(I)Z"⟩, prog_1_method_19_code, 1, (some FieldType.boolean)) : MethodName × ByteArray × Nat × Option FieldType)) = some (w, cc, mL, ret) := h
  cases e
  exact List.mem_of_getElem? (i := 67) rfl
theorem am_mk_63 : ∀ (w : MethodName) (cc : ByteArray) (mL : Nat) (ret : Option FieldType), am_mi 63 = some (w, cc, mL, ret) → Cond.code w cc mL ret ∈ am_Tq := fun w cc mL ret h => by
  have e : some (((⟨"EthernetGatesLaw", "cell", "([II)I"⟩, method_2_code, 2, (some FieldType.int)) : MethodName × ByteArray × Nat × Option FieldType)) = some (w, cc, mL, ret) := h
  cases e
  exact List.mem_of_getElem? (i := 68) rfl
theorem am_mk_64 : ∀ (w : MethodName) (cc : ByteArray) (mL : Nat) (ret : Option FieldType), am_mi 64 = some (w, cc, mL, ret) → Cond.code w cc mL ret ∈ am_Tq := fun w cc mL ret h => by
  have e : some (((⟨"EthernetGates", "cycle", "(J)I"⟩, prog_1_method_4_code, 3, (some FieldType.int)) : MethodName × ByteArray × Nat × Option FieldType)) = some (w, cc, mL, ret) := h
  cases e
  exact List.mem_of_getElem? (i := 69) rfl
theorem am_mk_65 : ∀ (w : MethodName) (cc : ByteArray) (mL : Nat) (ret : Option FieldType), am_mi 65 = some (w, cc, mL, ret) → Cond.code w cc mL ret ∈ am_Tq := fun w cc mL ret h => by
  have e : some (((⟨"EthernetGatesModel", "<init>", "(I)V"⟩, prog_8_method_1_code, 2, none) : MethodName × ByteArray × Nat × Option FieldType)) = some (w, cc, mL, ret) := h
  cases e
  exact List.mem_of_getElem? (i := 75) rfl
theorem am_mk_66 : ∀ (w : MethodName) (cc : ByteArray) (mL : Nat) (ret : Option FieldType), am_mi 66 = some (w, cc, mL, ret) → Cond.code w cc mL ret ∈ am_Tq := fun w cc mL ret h => by
  have e : some (((⟨"EthernetGatesModel", "thrown", "()I"⟩, prog_8_method_2_code, 1, (some FieldType.int)) : MethodName × ByteArray × Nat × Option FieldType)) = some (w, cc, mL, ret) := h
  cases e
  exact List.mem_of_getElem? (i := 76) rfl
theorem am_mk_67 : ∀ (w : MethodName) (cc : ByteArray) (mL : Nat) (ret : Option FieldType), am_mi 67 = some (w, cc, mL, ret) → Cond.code w cc mL ret ∈ am_Tq := fun w cc mL ret h => by
  have e : some (((⟨"EthernetGatesModel", "link", "(IJ)I"⟩, prog_8_method_5_code, 6, (some FieldType.int)) : MethodName × ByteArray × Nat × Option FieldType)) = some (w, cc, mL, ret) := h
  cases e
  exact List.mem_of_getElem? (i := 77) rfl
theorem am_mk_68 : ∀ (w : MethodName) (cc : ByteArray) (mL : Nat) (ret : Option FieldType), am_mi 68 = some (w, cc, mL, ret) → Cond.code w cc mL ret ∈ am_Tq := fun w cc mL ret h => by
  have e : some (((⟨"EthernetGatesModel", "none", "(I)Z"⟩, prog_8_method_3_code, 2, (some FieldType.boolean)) : MethodName × ByteArray × Nat × Option FieldType)) = some (w, cc, mL, ret) := h
  cases e
  exact List.mem_of_getElem? (i := 78) rfl
theorem am_mk_69 : ∀ (w : MethodName) (cc : ByteArray) (mL : Nat) (ret : Option FieldType), am_mi 69 = some (w, cc, mL, ret) → Cond.code w cc mL ret ∈ am_Tq := fun w cc mL ret h => by
  have e : some (((⟨"EthernetGatesModel", "gate", "(IIJJ)I"⟩, prog_8_method_6_code, 8, (some FieldType.int)) : MethodName × ByteArray × Nat × Option FieldType)) = some (w, cc, mL, ret) := h
  cases e
  exact List.mem_of_getElem? (i := 79) rfl
theorem am_mk_70 : ∀ (w : MethodName) (cc : ByteArray) (mL : Nat) (ret : Option FieldType), am_mi 70 = some (w, cc, mL, ret) → Cond.code w cc mL ret ∈ am_Tq := fun w cc mL ret h => by
  have e : some (((⟨"EthernetGatesModel", "noRank", "(II)Z"⟩, prog_8_method_4_code, 3, (some FieldType.boolean)) : MethodName × ByteArray × Nat × Option FieldType)) = some (w, cc, mL, ret) := h
  cases e
  exact List.mem_of_getElem? (i := 80) rfl
theorem am_mk_71 : ∀ (w : MethodName) (cc : ByteArray) (mL : Nat) (ret : Option FieldType), am_mi 71 = some (w, cc, mL, ret) → Cond.code w cc mL ret ∈ am_Tq := fun w cc mL ret h => by
  have e : some (((⟨"EthernetGatesModel", "cycle", "(J)I"⟩, prog_8_method_7_code, 5, (some FieldType.int)) : MethodName × ByteArray × Nat × Option FieldType)) = some (w, cc, mL, ret) := h
  cases e
  exact List.mem_of_getElem? (i := 81) rfl
theorem am_mk_72 : ∀ (w : MethodName) (cc : ByteArray) (mL : Nat) (ret : Option FieldType), am_mi 72 = some (w, cc, mL, ret) → Cond.code w cc mL ret ∈ am_Tq := fun w cc mL ret h => by
  have e : some (((⟨"EthernetGatesModel", "learn", "(IIJ)I"⟩, prog_8_method_9_code, 6, (some FieldType.int)) : MethodName × ByteArray × Nat × Option FieldType)) = some (w, cc, mL, ret) := h
  cases e
  exact List.mem_of_getElem? (i := 82) rfl
theorem am_mk_73 : ∀ (w : MethodName) (cc : ByteArray) (mL : Nat) (ret : Option FieldType), am_mi 73 = some (w, cc, mL, ret) → Cond.code w cc mL ret ∈ am_Tq := fun w cc mL ret h => by
  have e : some (((⟨"EthernetGatesModel", "isAt", "(I)Z"⟩, prog_8_method_8_code, 2, (some FieldType.boolean)) : MethodName × ByteArray × Nat × Option FieldType)) = some (w, cc, mL, ret) := h
  cases e
  exact List.mem_of_getElem? (i := 83) rfl
theorem am_mk_74 : ∀ (w : MethodName) (cc : ByteArray) (mL : Nat) (ret : Option FieldType), am_mi 74 = some (w, cc, mL, ret) → Cond.code w cc mL ret ∈ am_Tq := fun w cc mL ret h => by
  have e : some (((⟨"EthernetGatesModel", "credit", "(IIJJ)I"⟩, prog_8_method_10_code, 7, (some FieldType.int)) : MethodName × ByteArray × Nat × Option FieldType)) = some (w, cc, mL, ret) := h
  cases e
  exact List.mem_of_getElem? (i := 84) rfl
theorem am_mk_75 : ∀ (w : MethodName) (cc : ByteArray) (mL : Nat) (ret : Option FieldType), am_mi 75 = some (w, cc, mL, ret) → Cond.code w cc mL ret ∈ am_Tq := fun w cc mL ret h => by
  have e : some (((⟨"EthernetGatesModel", "filter", "(IJ)I"⟩, prog_8_method_12_code, 4, (some FieldType.int)) : MethodName × ByteArray × Nat × Option FieldType)) = some (w, cc, mL, ret) := h
  cases e
  exact List.mem_of_getElem? (i := 85) rfl
theorem am_mk_76 : ∀ (w : MethodName) (cc : ByteArray) (mL : Nat) (ret : Option FieldType), am_mi 76 = some (w, cc, mL, ret) → Cond.code w cc mL ret ∈ am_Tq := fun w cc mL ret h => by
  have e : some (((⟨"EthernetGatesModel", "look", "(I)V"⟩, prog_8_method_11_code, 2, none) : MethodName × ByteArray × Nat × Option FieldType)) = some (w, cc, mL, ret) := h
  cases e
  exact List.mem_of_getElem? (i := 86) rfl
theorem am_mk_77 : ∀ (w : MethodName) (cc : ByteArray) (mL : Nat) (ret : Option FieldType), am_mi 77 = some (w, cc, mL, ret) → Cond.code w cc mL ret ∈ am_Tq := fun w cc mL ret h => by
  have e : some (((⟨"EthernetGatesModel", "clock", "(IJ)I"⟩, prog_8_method_13_code, 4, (some FieldType.int)) : MethodName × ByteArray × Nat × Option FieldType)) = some (w, cc, mL, ret) := h
  cases e
  exact List.mem_of_getElem? (i := 87) rfl
theorem am_mk_78 : ∀ (w : MethodName) (cc : ByteArray) (mL : Nat) (ret : Option FieldType), am_mi 78 = some (w, cc, mL, ret) → Cond.code w cc mL ret ∈ am_Tq := fun w cc mL ret h => by
  have e : some (((⟨"EthernetGatesModel", "service", "(II)I"⟩, prog_8_method_14_code, 3, (some FieldType.int)) : MethodName × ByteArray × Nat × Option FieldType)) = some (w, cc, mL, ret) := h
  cases e
  exact List.mem_of_getElem? (i := 88) rfl
theorem am_mk_79 : ∀ (w : MethodName) (cc : ByteArray) (mL : Nat) (ret : Option FieldType), am_mi 79 = some (w, cc, mL, ret) → Cond.code w cc mL ret ∈ am_Tq := fun w cc mL ret h => by
  have e : some (((⟨"EthernetGatesModel", "frame", "(IIII)I"⟩, prog_8_method_16_code, 10, (some FieldType.int)) : MethodName × ByteArray × Nat × Option FieldType)) = some (w, cc, mL, ret) := h
  cases e
  exact List.mem_of_getElem? (i := 89) rfl
theorem am_mk_80 : ∀ (w : MethodName) (cc : ByteArray) (mL : Nat) (ret : Option FieldType), am_mi 80 = some (w, cc, mL, ret) → Cond.code w cc mL ret ∈ am_Tq := fun w cc mL ret h => by
  have e : some (((⟨"EthernetGatesModel", "enter", "(III)I"⟩, prog_8_method_15_code, 5, (some FieldType.int)) : MethodName × ByteArray × Nat × Option FieldType)) = some (w, cc, mL, ret) := h
  cases e
  exact List.mem_of_getElem? (i := 90) rfl
theorem am_mk_81 : ∀ (w : MethodName) (cc : ByteArray) (mL : Nat) (ret : Option FieldType), am_mi 81 = some (w, cc, mL, ret) → Cond.code w cc mL ret ∈ am_Tq := fun w cc mL ret h => by
  have e : some (((⟨"EthernetGatesModel", "run", "(J)I"⟩, prog_8_method_22_code, 6, (some FieldType.int)) : MethodName × ByteArray × Nat × Option FieldType)) = some (w, cc, mL, ret) := h
  cases e
  exact List.mem_of_getElem? (i := 91) rfl
theorem am_mk_82 : ∀ (w : MethodName) (cc : ByteArray) (mL : Nat) (ret : Option FieldType), am_mi 82 = some (w, cc, mL, ret) → Cond.code w cc mL ret ∈ am_Tq := fun w cc mL ret h => by
  have e : some (((⟨"EthernetGatesModel", "tick", "()V"⟩, prog_8_method_21_code, 3, none) : MethodName × ByteArray × Nat × Option FieldType)) = some (w, cc, mL, ret) := h
  cases e
  exact List.mem_of_getElem? (i := 92) rfl
theorem am_mk_83 : ∀ (w : MethodName) (cc : ByteArray) (mL : Nat) (ret : Option FieldType), am_mi 83 = some (w, cc, mL, ret) → Cond.code w cc mL ret ∈ am_Tq := fun w cc mL ret h => by
  have e : some (((⟨"EthernetGatesModel", "may", "(II)Z"⟩, prog_8_method_19_code, 5, (some FieldType.boolean)) : MethodName × ByteArray × Nat × Option FieldType)) = some (w, cc, mL, ret) := h
  cases e
  exact List.mem_of_getElem? (i := 93) rfl
theorem am_mk_84 : ∀ (w : MethodName) (cc : ByteArray) (mL : Nat) (ret : Option FieldType), am_mi 84 = some (w, cc, mL, ret) → Cond.code w cc mL ret ∈ am_Tq := fun w cc mL ret h => by
  have e : some (((⟨"EthernetGatesModel", "time", "(II)J"⟩, prog_8_method_17_code, 5, (some FieldType.long)) : MethodName × ByteArray × Nat × Option FieldType)) = some (w, cc, mL, ret) := h
  cases e
  exact List.mem_of_getElem? (i := 94) rfl
theorem am_mk_85 : ∀ (w : MethodName) (cc : ByteArray) (mL : Nat) (ret : Option FieldType), am_mi 85 = some (w, cc, mL, ret) → Cond.code w cc mL ret ∈ am_Tq := fun w cc mL ret h => by
  have e : some (((⟨"EthernetGatesModel", "open", "(IJJ)Z"⟩, prog_8_method_18_code, 8, (some FieldType.boolean)) : MethodName × ByteArray × Nat × Option FieldType)) = some (w, cc, mL, ret) := h
  cases e
  exact List.mem_of_getElem? (i := 95) rfl
theorem am_mk_86 : ∀ (w : MethodName) (cc : ByteArray) (mL : Nat) (ret : Option FieldType), am_mi 86 = some (w, cc, mL, ret) → Cond.code w cc mL ret ∈ am_Tq := fun w cc mL ret h => by
  have e : some (((⟨"EthernetGatesModel", "begin", "(II)V"⟩, prog_8_method_20_code, 5, none) : MethodName × ByteArray × Nat × Option FieldType)) = some (w, cc, mL, ret) := h
  cases e
  exact List.mem_of_getElem? (i := 96) rfl
theorem am_mk_87 : ∀ (w : MethodName) (cc : ByteArray) (mL : Nat) (ret : Option FieldType), am_mi 87 = some (w, cc, mL, ret) → Cond.code w cc mL ret ∈ am_Tq := fun w cc mL ret h => by
  have e : some (((⟨"EthernetGatesModel", "left", "(II)I"⟩, prog_8_method_23_code, 3, (some FieldType.int)) : MethodName × ByteArray × Nat × Option FieldType)) = some (w, cc, mL, ret) := h
  cases e
  exact List.mem_of_getElem? (i := 97) rfl
theorem am_mk_88 : ∀ (w : MethodName) (cc : ByteArray) (mL : Nat) (ret : Option FieldType), am_mi 88 = some (w, cc, mL, ret) → Cond.code w cc mL ret ∈ am_Tq := fun w cc mL ret h => by
  have e : some (((⟨"EthernetGatesModel", "dropped", "(I)I"⟩, prog_8_method_24_code, 2, (some FieldType.int)) : MethodName × ByteArray × Nat × Option FieldType)) = some (w, cc, mL, ret) := h
  cases e
  exact List.mem_of_getElem? (i := 98) rfl
theorem am_mk_all : ∀ x ∈ am_mok, ∀ (w : MethodName) (cc : ByteArray) (mL : Nat) (ret : Option FieldType), am_mi x = some (w, cc, mL, ret) → Cond.code w cc mL ret ∈ am_Tq := List.forall_mem_cons.mpr ⟨am_mk_1, List.forall_mem_cons.mpr ⟨am_mk_2, List.forall_mem_cons.mpr ⟨am_mk_3, List.forall_mem_cons.mpr ⟨am_mk_4, List.forall_mem_cons.mpr ⟨am_mk_5, List.forall_mem_cons.mpr ⟨am_mk_6, List.forall_mem_cons.mpr ⟨am_mk_7, List.forall_mem_cons.mpr ⟨am_mk_8, List.forall_mem_cons.mpr ⟨am_mk_9, List.forall_mem_cons.mpr ⟨am_mk_10, List.forall_mem_cons.mpr ⟨am_mk_11, List.forall_mem_cons.mpr ⟨am_mk_12, List.forall_mem_cons.mpr ⟨am_mk_13, List.forall_mem_cons.mpr ⟨am_mk_14, List.forall_mem_cons.mpr ⟨am_mk_15, List.forall_mem_cons.mpr ⟨am_mk_16, List.forall_mem_cons.mpr ⟨am_mk_17, List.forall_mem_cons.mpr ⟨am_mk_18, List.forall_mem_cons.mpr ⟨am_mk_19, List.forall_mem_cons.mpr ⟨am_mk_20, List.forall_mem_cons.mpr ⟨am_mk_21, List.forall_mem_cons.mpr ⟨am_mk_22, List.forall_mem_cons.mpr ⟨am_mk_23, List.forall_mem_cons.mpr ⟨am_mk_24, List.forall_mem_cons.mpr ⟨am_mk_25, List.forall_mem_cons.mpr ⟨am_mk_26, List.forall_mem_cons.mpr ⟨am_mk_27, List.forall_mem_cons.mpr ⟨am_mk_28, List.forall_mem_cons.mpr ⟨am_mk_29, List.forall_mem_cons.mpr ⟨am_mk_30, List.forall_mem_cons.mpr ⟨am_mk_31, List.forall_mem_cons.mpr ⟨am_mk_32, List.forall_mem_cons.mpr ⟨am_mk_33, List.forall_mem_cons.mpr ⟨am_mk_34, List.forall_mem_cons.mpr ⟨am_mk_35, List.forall_mem_cons.mpr ⟨am_mk_36, List.forall_mem_cons.mpr ⟨am_mk_37, List.forall_mem_cons.mpr ⟨am_mk_38, List.forall_mem_cons.mpr ⟨am_mk_39, List.forall_mem_cons.mpr ⟨am_mk_40, List.forall_mem_cons.mpr ⟨am_mk_41, List.forall_mem_cons.mpr ⟨am_mk_42, List.forall_mem_cons.mpr ⟨am_mk_43, List.forall_mem_cons.mpr ⟨am_mk_44, List.forall_mem_cons.mpr ⟨am_mk_45, List.forall_mem_cons.mpr ⟨am_mk_46, List.forall_mem_cons.mpr ⟨am_mk_47, List.forall_mem_cons.mpr ⟨am_mk_48, List.forall_mem_cons.mpr ⟨am_mk_49, List.forall_mem_cons.mpr ⟨am_mk_50, List.forall_mem_cons.mpr ⟨am_mk_51, List.forall_mem_cons.mpr ⟨am_mk_52, List.forall_mem_cons.mpr ⟨am_mk_53, List.forall_mem_cons.mpr ⟨am_mk_54, List.forall_mem_cons.mpr ⟨am_mk_55, List.forall_mem_cons.mpr ⟨am_mk_56, List.forall_mem_cons.mpr ⟨am_mk_57, List.forall_mem_cons.mpr ⟨am_mk_58, List.forall_mem_cons.mpr ⟨am_mk_59, List.forall_mem_cons.mpr ⟨am_mk_60, List.forall_mem_cons.mpr ⟨am_mk_61, List.forall_mem_cons.mpr ⟨am_mk_62, List.forall_mem_cons.mpr ⟨am_mk_63, List.forall_mem_cons.mpr ⟨am_mk_64, List.forall_mem_cons.mpr ⟨am_mk_65, List.forall_mem_cons.mpr ⟨am_mk_66, List.forall_mem_cons.mpr ⟨am_mk_67, List.forall_mem_cons.mpr ⟨am_mk_68, List.forall_mem_cons.mpr ⟨am_mk_69, List.forall_mem_cons.mpr ⟨am_mk_70, List.forall_mem_cons.mpr ⟨am_mk_71, List.forall_mem_cons.mpr ⟨am_mk_72, List.forall_mem_cons.mpr ⟨am_mk_73, List.forall_mem_cons.mpr ⟨am_mk_74, List.forall_mem_cons.mpr ⟨am_mk_75, List.forall_mem_cons.mpr ⟨am_mk_76, List.forall_mem_cons.mpr ⟨am_mk_77, List.forall_mem_cons.mpr ⟨am_mk_78, List.forall_mem_cons.mpr ⟨am_mk_79, List.forall_mem_cons.mpr ⟨am_mk_80, List.forall_mem_cons.mpr ⟨am_mk_81, List.forall_mem_cons.mpr ⟨am_mk_82, List.forall_mem_cons.mpr ⟨am_mk_83, List.forall_mem_cons.mpr ⟨am_mk_84, List.forall_mem_cons.mpr ⟨am_mk_85, List.forall_mem_cons.mpr ⟨am_mk_86, List.forall_mem_cons.mpr ⟨am_mk_87, List.forall_mem_cons.mpr ⟨am_mk_88, fun _ h => absurd h List.not_mem_nil⟩⟩⟩⟩⟩⟩⟩⟩⟩⟩⟩⟩⟩⟩⟩⟩⟩⟩⟩⟩⟩⟩⟩⟩⟩⟩⟩⟩⟩⟩⟩⟩⟩⟩⟩⟩⟩⟩⟩⟩⟩⟩⟩⟩⟩⟩⟩⟩⟩⟩⟩⟩⟩⟩⟩⟩⟩⟩⟩⟩⟩⟩⟩⟩⟩⟩⟩⟩⟩⟩⟩⟩⟩⟩⟩⟩⟩⟩⟩⟩⟩⟩⟩⟩⟩⟩⟩⟩
theorem am_mok_b : am_mok.all (fun x => match am_mi x with | some (w, _, _, _) => decide (Cond.initialized w.cls ∈ am_Ti) && decide (w.cls ≠ "java/lang/invoke/MethodHandle" ∧ w.cls ≠ "java/lang/invoke/VarHandle") | none => false) = true := by decide +kernel
theorem am_mok_x {x : Nat} {w : MethodName} {cc : ByteArray} {mL : Nat} {ret : Option FieldType} (h : am_mok.contains x = true) (hq : am_mi x = some (w, cc, mL, ret)) : Cond.code w cc mL ret ∈ am_Tg ∧ Cond.initialized w.cls ∈ am_Tg ∧ (w.cls ≠ "java/lang/invoke/MethodHandle" ∧ w.cls ≠ "java/lang/invoke/VarHandle") := by
  have hm : x ∈ am_mok := List.contains_iff_mem.mp h
  have h1 := List.all_eq_true.mp am_mok_b x hm
  rw [hq] at h1
  simp only [Bool.and_eq_true, decide_eq_true_eq] at h1
  exact ⟨am_iQ (am_mk_all x hm w cc mL ret hq), am_iI h1.1, h1.2⟩
theorem am_mov_b : am_mov.all (fun x => match am_mi x with | some (w, _, _, _) => decide (Cond.instanceMethod w ∈ am_Tk) && (decide (Cond.selects w.cls w w ∈ am_Tk) || decide (Cond.selects w.cls w w ∈ am_Ts)) | none => false) = true := by decide +kernel
theorem am_mov_x {x : Nat} {w : MethodName} {cc : ByteArray} {mL : Nat} {ret : Option FieldType} (h : am_mov.contains x = true) (hq : am_mi x = some (w, cc, mL, ret)) : Cond.instanceMethod w ∈ am_Tg ∧ Cond.selects w.cls w w ∈ am_Tg := by
  have h1 := List.all_eq_true.mp am_mov_b x (List.contains_iff_mem.mp h)
  rw [hq] at h1
  simp only [Bool.and_eq_true, Bool.or_eq_true, decide_eq_true_eq] at h1
  refine ⟨am_iK h1.1, ?_⟩
  rcases h1.2 with q | q
  · exact am_iK q
  · exact am_iS q
theorem am_moi_b : am_moi.all (fun x => match am_mi x with | some (w, _, _, ret) => decide (Cond.instanceMethod w ∈ am_Tk) && decide (w.name = "<init>") && decide (ret = none) | none => false) = true := by decide +kernel
theorem am_moi_x {x : Nat} {w : MethodName} {cc : ByteArray} {mL : Nat} {ret : Option FieldType} (h : am_moi.contains x = true) (hq : am_mi x = some (w, cc, mL, ret)) : Cond.instanceMethod w ∈ am_Tg ∧ w.name = "<init>" ∧ ret = none := by
  have h1 := List.all_eq_true.mp am_moi_b x (List.contains_iff_mem.mp h)
  rw [hq] at h1
  simp only [Bool.and_eq_true, decide_eq_true_eq] at h1
  exact ⟨am_iK h1.1.1, h1.1.2, h1.2⟩
theorem am_mos_b : am_mos.all (fun x => match am_mi x with | some (w, _, _, _) => decide (Cond.static w ∈ am_Tk) | none => false) = true := by decide +kernel
theorem am_mos_x {x : Nat} {w : MethodName} {cc : ByteArray} {mL : Nat} {ret : Option FieldType} (h : am_mos.contains x = true) (hq : am_mi x = some (w, cc, mL, ret)) : Cond.static w ∈ am_Tg := by
  have h1 := List.all_eq_true.mp am_mos_b x (List.contains_iff_mem.mp h)
  rw [hq] at h1
  simp only [decide_eq_true_eq] at h1
  exact am_iK h1
theorem am_obj : Cond.instanceMethod Lib.objectInit ∈ am_Tg ∧ Cond.code Lib.objectInit ⟨#[0xb1]⟩ 1 none ∈ am_Tg := ⟨am_iK (by decide +kernel), am_iQ (List.mem_of_getElem? (i := 1) rfl)⟩
theorem am_math : Cond.initialized "java/lang/Math" ∈ am_Tg ∧ Cond.static Lib.Math.max.name ∈ am_Tg ∧ Cond.code Lib.Math.max.name Lib.Math.max.code 2 (some .int) ∈ am_Tg ∧ Cond.static Lib.Math.min.name ∈ am_Tg ∧ Cond.code Lib.Math.min.name Lib.Math.min.code 2 (some .int) ∈ am_Tg ∧ Cond.static Lib.MathLoose.max_long.x ∈ am_Tg ∧ Cond.code Lib.MathLoose.max_long.x Lib.MathLoose.max_long.code 4 (some .long) ∈ am_Tg ∧ Cond.static Lib.MathLoose.min_long.x ∈ am_Tg ∧ Cond.code Lib.MathLoose.min_long.x Lib.MathLoose.min_long.code 4 (some .long) ∈ am_Tg :=
  ⟨am_iI (by decide +kernel), am_iK (by decide +kernel), am_iQ (List.mem_of_getElem? (i := 36) rfl), am_iK (by decide +kernel), am_iQ (List.mem_of_getElem? (i := 40) rfl), am_iK (by decide +kernel), am_iQ (List.mem_of_getElem? (i := 14) rfl), am_iK (by decide +kernel), am_iQ (List.mem_of_getElem? (i := 50) rfl)⟩
theorem am_mi_b : (List.range am_mis.length).all (fun x => match am_mi x with | some (w, _, mL, _) => decide (x = 0) || (Jvm.plainName w.cls && decide (am_ml x = mL)) | none => true) = true := by decide +kernel
theorem am_mi_lt {x : Nat} {q : MethodName × ByteArray × Nat × Option FieldType} (h : am_mi x = some q) : x < am_mis.length := (List.getElem?_eq_some_iff.mp h).1
theorem am_mi_ok {x : Nat} {w : MethodName} {cc : ByteArray} {mL : Nat} {ret : Option FieldType} (h : am_mi x = some (w, cc, mL, ret)) (h0 : ¬ x = 0) : Jvm.plainName w.cls = true ∧ am_ml x = mL := by
  have h1 := List.all_eq_true.mp am_mi_b x (List.mem_range.mpr (am_mi_lt h))
  rw [h] at h1
  simpa [h0] using h1
end
section
/-! locals of the machine -/
def am_lst (l : am_Ls) : List (Nat × Value) := (List.range l.length).filterMap fun k => (l.getD k none).map fun v => (k, am_v2 v)
theorem am_lst_mem {l : am_Ls} {k : Nat} {w : Value} : (k, w) ∈ am_lst l ↔ ∃ v, l.getD k none = some v ∧ w = am_v2 v := by
  unfold am_lst
  rw [List.mem_filterMap]
  constructor
  · rintro ⟨j, -, hj⟩
    cases hv : l.getD j none with
    | none => rw [hv] at hj; cases hj
    | some v =>
      rw [hv] at hj
      cases hj
      exact ⟨v, hv, rfl⟩
  · rintro ⟨v, hv, rfl⟩
    refine ⟨k, List.mem_range.mpr ?_, by rw [hv]; rfl⟩
    rcases Nat.lt_or_ge k l.length with q | q
    · exact q
    · rw [List.getD_eq_getElem?_getD, List.getElem?_eq_none q] at hv
      cases hv
def am_Lk (ls : Array Slot) (nL : Nat) (l : am_Ls) : Prop := l.length = nL ∧ lv_has ls nL (am_lst l)
theorem am_Lk_at {ls : Array Slot} {nL k : Nat} {l : am_Ls} {v : am_V} (h : am_Lk ls nL l) (hk : l.getD k none = some v) : ls[k]? = some (.val (am_v2 v)) := h.2.2.2 (k, am_v2 v) (am_lst_mem.mpr ⟨v, hk, rfl⟩)
theorem am_cat_v2 (v : am_V) : (am_v2 v).category = am_cat v := by
  rcases v with a | a | a
  · rfl
  · rfl
  · cases a <;> rfl
theorem am_Lk_s1 {ls ls' : Array Slot} {nL i : Nat} {l : am_Ls} {v : am_V} (h : am_Lk ls nL l) (h' : lv_has ls' nL ((i, am_v2 v) :: (am_lst l).filter (fun q => !(q.1 == i) && !(q.1 + 1 == i && q.2.category == 2)))) (hi : i < nL) : am_Lk ls' nL (am_s1 l i v) := by
  refine ⟨by rw [am_s1_len]; exact h.1, h'.1, h'.2.1, fun q hq => ?_⟩
  obtain ⟨k, w⟩ := q
  obtain ⟨x, hx, rfl⟩ := am_lst_mem.mp hq
  rcases am_s1_get.mp hx with ⟨rfl, -, rfl⟩ | ⟨h1, h2, h3⟩
  · exact h'.2.2 _ List.mem_cons_self
  · refine h'.2.2 _ (List.mem_cons_of_mem _ (List.mem_filter.mpr ⟨am_lst_mem.mpr ⟨x, h2, rfl⟩, ?_⟩))
    have hki : ¬ k = i := fun z => h1 ⟨z, by rw [h.1]; exact hi⟩
    simp only [am_cat_v2, Bool.and_eq_true, Bool.not_eq_true', beq_eq_false_iff_ne, ne_eq, Bool.and_eq_false_iff]
    refine ⟨hki, ?_⟩
    by_cases hz : k + 1 = i
    · exact Or.inr (fun z => h3 ⟨hz, z⟩)
    · exact Or.inl hz
theorem am_Lk_s2 {ls ls' : Array Slot} {nL i : Nat} {l : am_Ls} {v : am_V} (h : am_Lk ls nL l) (h' : lv_has ls' nL ((i, am_v2 v) :: (am_lst l).filter (fun q => !(q.1 == i) && (!(q.1 == i + 1) && !(q.1 + 1 == i && q.2.category == 2))))) (hi : i + 1 < nL) : am_Lk ls' nL (am_s2 l i v) := by
  refine ⟨by rw [am_s2_len]; exact h.1, h'.1, h'.2.1, fun q hq => ?_⟩
  obtain ⟨k, w⟩ := q
  obtain ⟨x, hx, rfl⟩ := am_lst_mem.mp hq
  rcases (am_s2_get (by rw [h.1]; exact hi)).mp hx with ⟨rfl, rfl⟩ | ⟨h0, h1, h2, h3⟩
  · exact h'.2.2 _ List.mem_cons_self
  · refine h'.2.2 _ (List.mem_cons_of_mem _ (List.mem_filter.mpr ⟨am_lst_mem.mpr ⟨x, h2, rfl⟩, ?_⟩))
    simp only [am_cat_v2, Bool.and_eq_true, Bool.not_eq_true', beq_eq_false_iff_ne, ne_eq, Bool.and_eq_false_iff]
    refine ⟨h0, h1, ?_⟩
    by_cases hz : k + 1 = i
    · exact Or.inr (fun z => h3 ⟨hz, z⟩)
    · exact Or.inl hz
theorem am_o_inj {a b : Nat} (h : am_o a = am_o b) : a = b := by
  cases a <;> cases b
  · rfl
  · cases h
  · cases h
  · cases h; rfl
theorem am_gA {a b : am_Ls} {k : Nat} (h : k < a.length) : (a ++ b).getD k none = a.getD k none := by
  rw [List.getD_eq_getElem?_getD, List.getD_eq_getElem?_getD, List.getElem?_append_left h]
theorem am_gB {a b : am_Ls} {k : Nat} (h : a.length ≤ k) : (a ++ b).getD k none = b.getD (k - a.length) none := by
  rw [List.getD_eq_getElem?_getD, List.getD_eq_getElem?_getD, List.getElem?_append_right h]
/-- the locals with which a method begins -/
theorem am_en_get : ∀ (vs : am_Sk) (i : Nat) (pre : am_Ls), pre.length = i → ∀ (k : Nat) (v : am_V), (pre ++ vs.flatMap fun v => if am_cat v = 2 then [some v, none] else [some v]).getD k none = some v → (pre.getD k none = some v) ∨ (k, am_v2 v) ∈ lv_args i (vs.map am_v2)
  | [], i, pre, _, k, v, h => Or.inl (by simpa using h)
  | x :: vs, i, pre, hi, k, v, h => by
    have hc : (am_v2 x).category = am_cat x := am_cat_v2 x
    by_cases h2 : am_cat x = 2
    · have e : pre ++ List.flatMap (fun v => if am_cat v = 2 then [some v, none] else [some v]) (x :: vs) = (pre ++ [some x, none]) ++ List.flatMap (fun v => if am_cat v = 2 then [some v, none] else [some v]) vs := by
        simp [List.flatMap_cons, h2]
      rw [e] at h
      rcases am_en_get vs (i + 2) (pre ++ [some x, none]) (by simp [hi]) k v h with q | q
      · by_cases hk : k < pre.length
        · rw [am_gA hk] at q
          exact Or.inl q
        · rw [am_gB (by omega)] at q
          right
          have hz : k - pre.length = 0 := by
            rcases hd : k - pre.length with _ | _ | n
            · rfl
            · rw [hd] at q; cases q
            · rw [hd] at q; cases q
          rw [hz] at q
          cases q
          have hki : k = i := by omega
          subst hki
          exact List.mem_cons_self
      · right
        show _ ∈ (i, am_v2 x) :: lv_args (if (am_v2 x).category = 2 then i + 2 else i + 1) (vs.map am_v2)
        rw [hc, if_pos h2]
        exact List.mem_cons_of_mem _ q
    · have e : pre ++ List.flatMap (fun v => if am_cat v = 2 then [some v, none] else [some v]) (x :: vs) = (pre ++ [some x]) ++ List.flatMap (fun v => if am_cat v = 2 then [some v, none] else [some v]) vs := by
        simp [List.flatMap_cons, h2]
      rw [e] at h
      rcases am_en_get vs (i + 1) (pre ++ [some x]) (by simp [hi]) k v h with q | q
      · by_cases hk : k < pre.length
        · rw [am_gA hk] at q
          exact Or.inl q
        · rw [am_gB (by omega)] at q
          right
          have hz : k - pre.length = 0 := by
            rcases hd : k - pre.length with _ | n
            · rfl
            · rw [hd] at q; cases q
          rw [hz] at q
          cases q
          have hki : k = i := by omega
          subst hki
          exact List.mem_cons_self
      · right
        show _ ∈ (i, am_v2 x) :: lv_args (if (am_v2 x).category = 2 then i + 2 else i + 1) (vs.map am_v2)
        rw [hc, if_neg h2]
        exact List.mem_cons_of_mem _ q
/-! THE MACHINE DOES WHAT THE ABSTRACT MACHINE DOES -/
def am_Kw (D : va_G) (dA : Nat → ClassId) (U : State) : Prop := va_K D am_cl (am_tys dA) U ∧ (∀ w ∈ am_Tn, va_Nw w U) ∧ ∀ x ∈ am_rc, va_AO (am_an x) U
theorem am_Kw_warm {D : va_G} {dA : Nat → ClassId} {s U : State} (hW : s.WarmedH U.vm) (h : am_Kw D dA s) : am_Kw D dA U := by
  refine ⟨va_K.moved hW.alike h.1, fun w hw => ?_, fun x hx => (h.2.2 x hx).moved hW.alike⟩
  have h1 := h.2.1 w hw
  rcases am_Tn_ok w hw with ⟨a, i, b, n, d, z, rfl⟩ | ⟨a, i, b, z, rfl⟩ | ⟨a, b, rfl⟩
  · exact va_Nw.warmF hW h1
  · exact va_Nw.warmM hW h1
  · exact va_Nw.warmC hW h1
theorem am_Kw_same {D : va_G} {dA : Nat → ClassId} {s U : State} (hv : s.vm = U.vm) (h : am_Kw D dA s) : am_Kw D dA U := by
  have hal : s.vm.Alike U.vm := hv ▸ Vm.Alike.refl s.vm
  refine ⟨va_K.moved hal h.1, fun w hw => ?_, fun x hx => (h.2.2 x hx).moved hal⟩
  have h1 := h.2.1 w hw
  rcases am_Tn_ok w hw with ⟨a, i, b, n, d, z, rfl⟩ | ⟨a, i, b, z, rfl⟩ | ⟨a, b, rfl⟩
  · exact va_Nw.same rfl hv h1
  · exact va_Nw.same rfl hv h1
  · exact va_Nw.same rfl hv h1
def am_rm (d mc ms : Nat) : Room := { frames := d + 1, cells := mc, slots := ms, locals := 36 * d + 30 }
def am_Pb (D : va_G) (dA : Nat → ClassId) (B : Nat) (h : am_H) (U : State) : Prop := am_Ok D dA B h U U.heap ∧ B ≤ U.heap.size ∧ am_Kw D dA U
def am_Qb (D : va_G) (dA : Nat → ClassId) (B : Nat) (r : Option am_V) (h' : am_H) : Array Value → State → Outcome → State → Prop := fun _ st o t => o = .returned (r.map am_v2) ∧ am_Ok D dA B h' t t.heap ∧ va_F (fun q => B ≤ q) st t
/-- method 'mid', called with 'as' in h, answers r and leaves h': its contract -/
def am_MX (l : Launch) (D : va_G) (dA : Nat → ClassId) (B d mid : Nat) (as : am_Sk) (h : am_H) (r : Option am_V) (h' : am_H) : Prop := ∀ (y : MethodName) (cc : ByteArray) (mL : Nat) (ret : Option FieldType), am_mi mid = some (y, cc, mL, ret) →
  Met l y (Cond.code y cc mL ret :: am_Tg) (am_rm d (am_C h' - am_C h) (am_S h' - am_S h)) (va_Pc (as.map am_v2) (am_Pb D dA B h)) (am_Qb D dA B r h') (am_C h' - am_C h) (am_S h' - am_S h) (fun q => B ≤ q)
section AMS
variable {p : Program} {l : Launch} {e : Env} {R : Room} {s : State} {m : MethodId} {args : Array Value} {below : List Frame} {meth : Method} {c : Code} {Q : State → Prop} {D : va_G} {dA : Nat → ClassId} {B : Nat}
def am_Fx (p : Program) (s : State) (m : MethodId) (args : Array Value) (meth : Method) (c : Code) (D : va_G) (dA : Nat → ClassId) (B : Nat) (own : String) (cc : ByteArray) (mL : Nat) (ini : Bool) : Prop := p.tables.exec = Jvm.exec ∧ c.code = cc ∧ c.maxLocals = mL ∧ s.vm.findClass own = some m.cls ∧ (∀ w ∈ am_Tg, w.before args s = true) ∧ am_Kw D dA s ∧ (ini = true → meth.name = "<init>") ∧ B ≤ s.heap.size
def am_G (p : Program) (l : Launch) (e : Env) (R : Room) (s : State) (m : MethodId) (args : Array Value) (below : List Frame) (meth : Method) (c : Code) (Q : State → Prop) (D : va_G) (dA : Nat → ClassId) (B mL c0 s0 : Nat) (pc : Nat) (lc : am_Ls) (st : am_Sk) (h : am_H) : Prop :=
  ∀ (H : Heap) (locs : List Loc) (ls : Array Slot) (cells slots : Nat), am_Ok D dA B h s H → va_S (fun q => B ≤ q) s.heap H locs → am_Lk ls mL lc → cells + c0 = am_C h → slots + s0 = am_S h → W p l e R s m args below meth c H locs cells slots Q (F0 m pc ls (st.map am_v2))
/-- behind a call -/
theorem am_w_back {H : Heap} {locs : List Loc} {cells slots mc ms pc : Nat} {ls : Array Slot} {st0 rest : List Value} {rv : Option Value} {Pt : State → Prop} (hr : va_Run p l e R s m args below meth c H locs cells slots mc ms (F0 m pc ls st0) rest (fun st o t => o = .returned rv ∧ Pt t ∧ va_F (fun q => B ≤ q) st t) (fun q => B ≤ q)) (hS : va_S (fun q => B ≤ q) s.heap H locs)
    (kk : ∀ (t : State) (locs1 : List Loc), s.vm.Alike t.vm → Pt t → va_S (fun q => B ≤ q) s.heap t.heap locs1 → W p l e R s m args below meth c t.heap locs1 (cells + mc) (slots + ms) Q (F0 m (pc + 3) ls (rv.toList ++ rest))) : W p l e R s m args below meth c H locs cells slots Q (F0 m pc ls st0) := by
  intro T hT X
  obtain ⟨v, st₀, t, T', L, h0, X', hL, e1, e2, ⟨hv, hp, hz, hk⟩, st⟩ := hr T hT X
  cases hv
  rw [h0] at hz hk
  obtain ⟨t2, a1, b1⟩ := kk t (locs ++ L) (by rw [← e2]; exact X'.warmed.alike) hp
    ⟨Nat.le_trans hS.1 hz, fun q h1 h2 => by rw [hk q (Nat.lt_of_lt_of_le h1 hS.1) h2]; exact hS.2.1 q h1 h2, fun q hq => by
      rcases List.mem_append.mp hq with h | h
      · exact hS.2.2 q h
      · exact hL q h⟩ T' e1 X'
  exact ⟨t2, st t2 a1, b1⟩
theorem am_okF_x {own : String} {idx x y : Nat} (h : am_okF own idx x y = true) : ∃ q, am_cl[x]? = some q ∧ y < q.2.2 ∧ am_fl own idx q y := by
  unfold am_okF at h
  split at h
  · rename_i q hq
    simp only [Bool.and_eq_true, Bool.or_eq_true, decide_eq_true_eq] at h
    refine ⟨q, hq, h.1, ?_⟩
    rcases h.2 with (h2 | h2) | ⟨h2, h3⟩
    · exact Or.inl (am_iF h2)
    · exact Or.inr (Or.inl ⟨_, h2⟩)
    · exact Or.inr (Or.inr ⟨_, am_iF h2, am_iI h3⟩)
  · cases h
theorem am_okN_x {own : String} {idx x y : Nat} {ini : Bool} {q : vw_C} {meth : Method} (hq : am_cl[x]? = some q) (h : am_okN own idx ini x y = true) (hini : ini = true → meth.name = "<init>") : (q.2.1 y).2.2.2 = true → meth.name = "<init>" ∧ (q.2.1 y).1 = own ∧ Cond.fieldLink own idx (q.2.1 y).1 (q.2.1 y).2.1 (q.2.1 y).2.2.1 ∈ am_Tg := by
  intro hf
  unfold am_okN at h
  rw [hq] at h
  simp only [hf, Bool.not_true, Bool.false_or, Bool.and_eq_true, decide_eq_true_eq] at h
  exact ⟨hini h.1.1, h.1.2, am_iF h.2⟩
theorem am_recv {H : Heap} {h : am_H} {a x : Nat} {q : vw_C} (hK : va_K D am_cl (am_tys dA) s) (hO : am_Ok D dA B h s H) (hr : am_T h (a + 1) = 10 + x) (hq : am_cl[x]? = some q) : ∃ cell : Cell, H[a]? = some cell ∧ cell.vm.isStatics = false ∧ s.vm.findClass q.1 = some cell.cls := by
  obtain ⟨a', e9, L, k, hL, hP, hD, ha, hk⟩ := am_pos hO (r := a + 1) (by unfold am_ow; omega)
  cases e9
  rw [am_e_o hr (am_cok hq).2] at hk
  exact va_recv hK hP hq hk
theorem am_okM_x {x y u : Nat} (h : am_okM x y u = true) : ∃ w cc mL ret, am_mi x = some (w, cc, mL, ret) ∧ Cond.code w cc mL ret ∈ am_Tg ∧ Cond.initialized w.cls ∈ am_Tg ∧ (w.cls ≠ "java/lang/invoke/MethodHandle" ∧ w.cls ≠ "java/lang/invoke/VarHandle") ∧ (parseMethodDescriptor w.desc).map (fun d => d.parameters.length) = some y ∧ am_uk ret = u ∧ am_ml x = mL ∧ mL ≤ 17 := by
  unfold am_okM at h
  simp only [Bool.and_eq_true] at h
  obtain ⟨h0, h⟩ := h
  split at h
  · rename_i w cc mL ret hq
    simp only [Bool.and_eq_true, decide_eq_true_eq] at h
    obtain ⟨⟨⟨h4, h5⟩, h6⟩, h7⟩ := h
    obtain ⟨h1, h2, h3⟩ := am_mok_x h0 hq
    exact ⟨w, cc, mL, ret, hq, h1, h2, h3, h4, h5, h6, h7⟩
  · cases h
theorem am_good {y : MethodName} {cc : ByteArray} {mL : Nat} {ret : Option FieldType} (h : Cond.code y cc mL ret ∈ am_Tg) : GoodIn am_Tg (Cond.code y cc mL ret :: am_Tg) := by
  intro w hw
  rcases List.mem_cons.mp hw with rfl | hw
  · exact ⟨h, am_Tg_ok _ h⟩
  · exact ⟨hw, am_Tg_ok _ hw⟩
theorem am_v2_map (r : Option am_V) (rest : am_Sk) : (r.map am_v2).toList ++ rest.map am_v2 = (r.toList ++ rest).map am_v2 := by cases r <;> rfl
theorem am_cat_sum (st : am_Sk) : ((st.map am_v2).map fun v => v.category).sum = (st.map am_cat).sum := by
  rw [List.map_map]
  congr 1
  apply List.map_congr_left
  intro v _
  exact am_cat_v2 v
/-- the words and the room of a call -/
theorem am_cB {own : String} {idx x y u d : Nat} {w : MethodName} {cc : ByteArray} {mL : Nat} {ret : Option FieldType} {mc ms : Nat} (hts : ∀ w ∈ am_Tg, w.before args s = true) (hmi : am_mi x = some (w, cc, mL, ret)) (hcode : Cond.code w cc mL ret ∈ am_Tg) (hini : Cond.initialized w.cls ∈ am_Tg) (hmh : w.cls ≠ "java/lang/invoke/MethodHandle" ∧ w.cls ≠ "java/lang/invoke/VarHandle") (hpd : (parseMethodDescriptor w.desc).map (fun d => d.parameters.length) = some y) (hmL : mL ≤ 17) (hRf : d + 2 ≤ R.frames ∧ 36 * d + 66 ≤ R.locals) (hlk : Cond.methodLink own idx w ∈ am_Tg) :
    CallB R s args own idx w cc mL ret (Cond.code w cc mL ret :: am_Tg) (am_rm d mc ms) mc ms y :=
  callB_of y hts (am_good hcode) rfl rfl rfl (hts _ hini) (hts _ hlk) ⟨hmh.1, hmh.2, hpd⟩ ⟨by show d + 1 + 1 ≤ _; omega, by show 8 + (mL + 11) + (36 * d + 30) ≤ _; omega⟩
theorem am_cN {own : String} {idx x y u d : Nat} {w : MethodName} {cc : ByteArray} {mL : Nat} {ret : Option FieldType} {mc ms : Nat} (hts : ∀ w ∈ am_Tg, w.before args s = true) (hN : ∀ w ∈ am_Tn, va_Nw w s) (hmi : am_mi x = some (w, cc, mL, ret)) (hcode : Cond.code w cc mL ret ∈ am_Tg) (hini : Cond.initialized w.cls ∈ am_Tg) (hmh : w.cls ≠ "java/lang/invoke/MethodHandle" ∧ w.cls ≠ "java/lang/invoke/VarHandle") (hpd : (parseMethodDescriptor w.desc).map (fun d => d.parameters.length) = some y) (hmL : mL ≤ 17) (hRf : d + 2 ≤ R.frames ∧ 36 * d + 66 ≤ R.locals) (hlk : Cond.methodLinkNest own idx w am_host ∈ am_Tn) :
    va_CN R s args own idx w am_host cc mL ret (Cond.code w cc mL ret :: am_Tg) (am_rm d mc ms) mc ms y :=
  va_cnB y hts (am_good hcode) rfl rfl rfl (hN _ hlk) (hts _ hini) ⟨hmh.1, hmh.2, hpd⟩ ⟨by show d + 1 + 1 ≤ _; omega, by show 8 + (mL + 11) + (36 * d + 30) ≤ _; omega⟩
theorem am_blind {D : va_G} {dA : Nat → ClassId} {B : Nat} {as : am_Sk} {h : am_H} : FrameBlind (va_Pc (as.map am_v2) (am_Pb D dA B h)) := by
  intro a U g mk q
  obtain ⟨q0, q1, q2, q3⟩ := q
  exact ⟨q0, am_Ok_moved (u := U) (U := U.calling g mk a) (Vm.Alike.refl U.vm) q1, q2, am_Kw_same (s := U) (U := U.calling g mk a) rfl q3⟩
theorem am_pre {H : Heap} {h : am_H} {locs : List Loc} {as : am_Sk} (hKw : am_Kw D dA s) (hB : B ≤ s.heap.size) (hO : am_Ok D dA B h s H) (hS : va_S (fun q => B ≤ q) s.heap H locs) (U : State) (hU : U.heap = H) (hW : s.WarmedH U.vm) : va_Pc (as.map am_v2) (am_Pb D dA B h) (as.map am_v2).toArray U :=
  ⟨rfl, by rw [hU]; exact am_Ok_moved hW.alike hO, by rw [hU]; exact Nat.le_trans hB hS.1, am_Kw_warm hW hKw⟩
/-- what comes behind a call, whatever its kind -/
theorem am_w_after {mL c0 s0 pc u : Nat} {lc : am_Ls} {rest : am_Sk} {h h1 : am_H} {r : Option am_V} {H : Heap} {locs : List Loc} {ls : Array Slot} {cells slots : Nat} {st0 : List Value} {a9 : Array Value} (hS : va_S (fun q => B ≤ q) s.heap H locs) (hl : am_Lk ls mL lc) (hc : cells + c0 = am_C h) (hs : slots + s0 = am_S h) (hle : am_C h ≤ am_C h1 ∧ am_S h ≤ am_S h1 ∧ am_C h1 ≤ c0 + R.cells ∧ am_S h1 ≤ s0 + R.slots)
    (H9 : am_rk u rest r (fun st' => am_G p l e R s m args below meth c Q D dA B mL c0 s0 (pc + 3) lc st' h1))
    (hr : va_Run p l e R s m args below meth c H locs cells slots (am_C h1 - am_C h) (am_S h1 - am_S h) (F0 m pc ls st0) (rest.map am_v2) (am_Qb D dA B r h1 a9) (fun q => B ≤ q)) : W p l e R s m args below meth c H locs cells slots Q (F0 m pc ls st0) := by
  refine am_w_back (rv := r.map am_v2) (Pt := fun t => am_Ok D dA B h1 t t.heap) hr hS (fun t locs1 hal hO1 hS1 => ?_)
  have hG : am_G p l e R s m args below meth c Q D dA B mL c0 s0 (pc + 3) lc (r.toList ++ rest) h1 := by
    unfold am_rk at H9
    split at H9
    · obtain ⟨rfl, H9⟩ := H9; exact H9
    · obtain ⟨x, rfl, H9⟩ := H9; exact H9
    · obtain ⟨x, rfl, H9⟩ := H9; exact H9
    · obtain ⟨x, rfl, H9⟩ := H9; exact H9
  rw [am_v2_map]
  exact hG _ _ _ _ _ (am_Ok_moved hal.symm hO1) hS1 hl (by omega) (by omega)
theorem am_w_callV {own : String} {cc : ByteArray} {mL c0 s0 pc idx x y z u d a : Nat} {lc : am_Ls} {as rest : am_Sk} {h h1 : am_H} {r : Option am_V} {H : Heap} {locs : List Loc} {ls : Array Slot} {cells slots : Nat} (hx : p.tables.exec = Jvm.exec) (hb : c.code = cc) (hml : c.maxLocals = mL) (hown : s.vm.findClass own = some m.cls) (hts : ∀ w ∈ am_Tg, w.before args s = true) (hKw : am_Kw D dA s) (hB : B ≤ s.heap.size) (hO : am_Ok D dA B h s H) (hS : va_S (fun q => B ≤ q) s.heap H locs) (hl : am_Lk ls mL lc) (hc : cells + c0 = am_C h) (hs : slots + s0 = am_S h)
    (hd : decode cc pc = .ok (.invokevirtual idx, 3)) (hok : am_okV own idx x y z u = true) (hn : as.length = y) (g : am_T h a = 10 + z) (hsz : (rest.map am_cat).sum ≤ 8 ∧ 1 + ((as ++ []).map am_cat).sum ≤ am_ml x) (hM : am_MX l D dA B d x (.inr (.inr a) :: (as ++ [])) h r h1) (hRf : d + 2 ≤ R.frames ∧ 36 * d + 66 ≤ R.locals) (hle : am_C h ≤ am_C h1 ∧ am_S h ≤ am_S h1 ∧ am_C h1 ≤ c0 + R.cells ∧ am_S h1 ≤ s0 + R.slots)
    (H9 : am_rk u rest r (fun st' => am_G p l e R s m args below meth c Q D dA B mL c0 s0 (pc + 3) lc st' h1)) : W p l e R s m args below meth c H locs cells slots Q (F0 m pc ls ((as.reverse ++ .inr (.inr a) :: rest).map am_v2)) := by
  unfold am_okV at hok
  simp only [Bool.and_eq_true] at hok
  obtain ⟨⟨⟨hokM, hokL⟩, hokV⟩, hok⟩ := hok
  obtain ⟨w, cw, mw, rw_, hmi, hcode, hini, hmh, hpd, huk, hmlx, hmL⟩ := am_okM_x hokM
  simp only [am_okL, hmi, Bool.or_eq_true, decide_eq_true_eq] at hokL
  simp only [hmi, Bool.and_eq_true, decide_eq_true_eq] at hok
  obtain ⟨hin, hsel⟩ := am_mov_x hokV hmi
  obtain ⟨hz, hcn⟩ := hok
  have hq : am_cl[z]? = some am_cl[z] := List.getElem?_eq_getElem hz
  rw [am_cn_of hq] at hcn
  cases a with
  | zero => rw [hO.1] at g; omega
  | succ a =>
    rw [List.append_nil] at hM hsz
    refine am_w_after (rest := rest) hS hl hc hs hle H9 (a9 := (Value.ref a :: as.map am_v2).toArray) ?_
    have hstk : ((as.reverse ++ .inr (.inr (a + 1)) :: rest).map am_v2) = (as.map am_v2).reverse ++ .ref a :: rest.map am_v2 := by
      rw [List.map_append, List.map_cons, List.map_reverse]; rfl
    have hpre : PreV s H w.cls a (va_Pc ((Sum.inr (Sum.inr (a + 1)) :: as : am_Sk).map am_v2) (am_Pb D dA B h)) (as.map am_v2) := by
      refine ⟨am_blind, ?_, fun U hU hW => am_pre hKw hB hO hS U hU hW⟩
      rw [← hcn]
      exact am_recv hKw.1 hO g hq
    rcases hokL with hlk | hlk
    · have hlk := am_iM hlk
      exact va_runV (Ts := am_Tg) ⟨hx, hb, hml, hown, hts⟩ (hM w cw mw rw_ hmi) ⟨am_cB (u := u) hts hmi hcode hini hmh hpd hmL hRf hlk, hts _ hin, hts _ hsel⟩ hpre rfl (by rw [List.length_map]; exact hn) hl.2.1 hstk (lv_room (by rw [am_cat_sum]; exact hsz.1)) hd ⟨by omega, by omega⟩
    · exact va_runVN (Ts := am_Tg) ⟨hx, hb, hml, hown, hts⟩ (hM w cw mw rw_ hmi) ⟨am_cN (u := u) hts hKw.2.1 hmi hcode hini hmh hpd hmL hRf hlk, hts _ hin, hts _ hsel⟩ hpre rfl (by rw [List.length_map]; exact hn) hl.2.1 hstk (lv_room (by rw [am_cat_sum]; exact hsz.1)) hd ⟨by omega, by omega⟩
theorem am_w_callI {own : String} {cc : ByteArray} {mL c0 s0 pc idx x y u d a : Nat} {lc : am_Ls} {as rest : am_Sk} {h h1 : am_H} {r : Option am_V} {H : Heap} {locs : List Loc} {ls : Array Slot} {cells slots : Nat} (hx : p.tables.exec = Jvm.exec) (hb : c.code = cc) (hml : c.maxLocals = mL) (hown : s.vm.findClass own = some m.cls) (hts : ∀ w ∈ am_Tg, w.before args s = true) (hKw : am_Kw D dA s) (hB : B ≤ s.heap.size) (hO : am_Ok D dA B h s H) (hS : va_S (fun q => B ≤ q) s.heap H locs) (hl : am_Lk ls mL lc) (hc : cells + c0 = am_C h) (hs : slots + s0 = am_S h)
    (hd : decode cc pc = .ok (.invokespecial idx, 3)) (hok : am_okI own idx x y u = true) (hn : as.length = y) (g : ¬ a = 0) (hsz : (rest.map am_cat).sum ≤ 8 ∧ 1 + ((as ++ []).map am_cat).sum ≤ am_ml x) (hM : am_MX l D dA B d x (.inr (.inr a) :: (as ++ [])) h r h1) (hRf : d + 2 ≤ R.frames ∧ 36 * d + 66 ≤ R.locals) (hle : am_C h ≤ am_C h1 ∧ am_S h ≤ am_S h1 ∧ am_C h1 ≤ c0 + R.cells ∧ am_S h1 ≤ s0 + R.slots)
    (H9 : am_rk u rest r (fun st' => am_G p l e R s m args below meth c Q D dA B mL c0 s0 (pc + 3) lc st' h1)) : W p l e R s m args below meth c H locs cells slots Q (F0 m pc ls ((as.reverse ++ .inr (.inr a) :: rest).map am_v2)) := by
  unfold am_okI at hok
  simp only [Bool.and_eq_true] at hok
  obtain ⟨⟨hokM, hokL⟩, hok⟩ := hok
  obtain ⟨w, cw, mw, rw_, hmi, hcode, hini, hmh, hpd, huk, hmlx, hmL⟩ := am_okM_x hokM
  simp only [am_okL, hmi, Bool.or_eq_true, decide_eq_true_eq] at hokL
  obtain ⟨hin, hnm, rfl⟩ := am_moi_x hok hmi
  cases a with
  | zero => exact absurd rfl g
  | succ a =>
    rw [List.append_nil] at hM hsz
    refine am_w_after (rest := rest) hS hl hc hs hle H9 (a9 := (Value.ref a :: as.map am_v2).toArray) ?_
    have hstk : ((as.reverse ++ .inr (.inr (a + 1)) :: rest).map am_v2) = (as.map am_v2).reverse ++ .ref a :: rest.map am_v2 := by
      rw [List.map_append, List.map_cons, List.map_reverse]; rfl
    have hpre : PreS s H (va_Pc ((Sum.inr (Sum.inr (a + 1)) :: as : am_Sk).map am_v2) (am_Pb D dA B h)) (.ref a :: as.map am_v2) := ⟨am_blind, fun U hU hW => am_pre hKw hB hO hS U hU hW⟩
    rcases hokL with hlk | hlk
    · have hlk := am_iM hlk
      exact va_runI (Ts := am_Tg) ⟨hx, hb, hml, hown, hts⟩ (hM w cw mw none hmi) ⟨am_cB (u := u) hts hmi hcode hini hmh hpd hmL hRf hlk, hnm, hts _ hin⟩ hpre rfl (by rw [List.length_map]; exact hn) hl.2.1 hstk (lv_room (by rw [am_cat_sum]; exact hsz.1)) hd ⟨by omega, by omega⟩
    · exact va_runIN (Ts := am_Tg) ⟨hx, hb, hml, hown, hts⟩ (hM w cw mw none hmi) ⟨am_cN (u := u) hts hKw.2.1 hmi hcode hini hmh hpd hmL hRf hlk, hnm, hts _ hin⟩ hpre rfl (by rw [List.length_map]; exact hn) hl.2.1 hstk (lv_room (by rw [am_cat_sum]; exact hsz.1)) hd ⟨by omega, by omega⟩
theorem am_w_callS {own : String} {cc : ByteArray} {mL c0 s0 pc idx x y u d : Nat} {lc : am_Ls} {as rest : am_Sk} {h h1 : am_H} {r : Option am_V} {H : Heap} {locs : List Loc} {ls : Array Slot} {cells slots : Nat} (hx : p.tables.exec = Jvm.exec) (hb : c.code = cc) (hml : c.maxLocals = mL) (hown : s.vm.findClass own = some m.cls) (hts : ∀ w ∈ am_Tg, w.before args s = true) (hKw : am_Kw D dA s) (hB : B ≤ s.heap.size) (hO : am_Ok D dA B h s H) (hS : va_S (fun q => B ≤ q) s.heap H locs) (hl : am_Lk ls mL lc) (hc : cells + c0 = am_C h) (hs : slots + s0 = am_S h)
    (hd : decode cc pc = .ok (.invokestatic idx, 3)) (hok : am_okS own idx x y u = true) (hn : as.length = y) (hsz : (rest.map am_cat).sum ≤ 8 ∧ ((as ++ []).map am_cat).sum ≤ am_ml x) (hM : am_MX l D dA B d x (as ++ []) h r h1) (hRf : d + 2 ≤ R.frames ∧ 36 * d + 66 ≤ R.locals) (hle : am_C h ≤ am_C h1 ∧ am_S h ≤ am_S h1 ∧ am_C h1 ≤ c0 + R.cells ∧ am_S h1 ≤ s0 + R.slots)
    (H9 : am_rk u rest r (fun st' => am_G p l e R s m args below meth c Q D dA B mL c0 s0 (pc + 3) lc st' h1)) : W p l e R s m args below meth c H locs cells slots Q (F0 m pc ls ((as.reverse ++ rest).map am_v2)) := by
  unfold am_okS at hok
  simp only [Bool.and_eq_true] at hok
  obtain ⟨⟨hokM, hokL⟩, hok⟩ := hok
  obtain ⟨w, cw, mw, rw_, hmi, hcode, hini, hmh, hpd, huk, hmlx, hmL⟩ := am_okM_x hokM
  simp only [am_okL, hmi, Bool.or_eq_true, decide_eq_true_eq] at hokL
  have hok := am_mos_x hok hmi
  rw [List.append_nil] at hM hsz
  refine am_w_after (rest := rest) hS hl hc hs hle H9 (a9 := (as.map am_v2).toArray) ?_
  have hstk : ((as.reverse ++ rest).map am_v2) = (as.map am_v2).reverse ++ rest.map am_v2 := by
    rw [List.map_append, List.map_reverse]
  have hpre : PreS s H (va_Pc (as.map am_v2) (am_Pb D dA B h)) (as.map am_v2) := ⟨am_blind, fun U hU hW => am_pre hKw hB hO hS U hU hW⟩
  rcases hokL with hlk | hlk
  · have hlk := am_iM hlk
    exact va_runS (Ts := am_Tg) ⟨hx, hb, hml, hown, hts⟩ (hM w cw mw rw_ hmi) ⟨am_cB (u := u) hts hmi hcode hini hmh hpd hmL hRf hlk, hts _ hok⟩ hpre rfl (by rw [List.length_map]; exact hn) hl.2.1 hstk (lv_room (by rw [am_cat_sum]; exact hsz.1)) hd ⟨by omega, by omega⟩
  · exact va_runSN (Ts := am_Tg) ⟨hx, hb, hml, hown, hts⟩ (hM w cw mw rw_ hmi) ⟨am_cN (u := u) hts hKw.2.1 hmi hcode hini hmh hpd hmL hRf hlk, hts _ hok, trivial⟩ hpre rfl (by rw [List.length_map]; exact hn) hl.2.1 hstk (lv_room (by rw [am_cat_sum]; exact hsz.1)) hd ⟨by omega, by omega⟩
theorem am_w_objInit {own : String} {cc : ByteArray} {mL pc idx y a : Nat} {lc : am_Ls} {as rest : am_Sk} {H : Heap} {locs : List Loc} {ls : Array Slot} {cells slots : Nat} (hx : p.tables.exec = Jvm.exec) (hb : c.code = cc) (hml : c.maxLocals = mL) (hown : s.vm.findClass own = some m.cls) (hts : ∀ w ∈ am_Tg, w.before args s = true) (hl : am_Lk ls mL lc) (hd : decode cc pc = .ok (.invokespecial idx, 3)) (hok : am_okO own idx y = true) (hn : as.length = y) (g : ¬ a = 0) (hsz : (rest.map am_cat).sum ≤ 8) (hRm : 1 ≤ R.frames ∧ 23 ≤ R.locals)
    (kk : W p l e R s m args below meth c H locs cells slots Q (F0 m (pc + 3) ls (rest.map am_v2))) : W p l e R s m args below meth c H locs cells slots Q (F0 m pc ls ((as.reverse ++ .inr (.inr a) :: rest).map am_v2)) := by
  simp only [am_okO, Bool.and_eq_true, decide_eq_true_eq] at hok
  obtain ⟨rfl, w1⟩ := hok
  have w1 := am_iM w1
  have w2 := am_obj.1
  have w3 := am_obj.2
  have has : as = [] := List.eq_nil_of_length_eq_zero hn
  subst has
  cases a with
  | zero => exact absurd rfl g
  | succ a =>
    refine W.objInit hx hb hown (hts _ w1) (hts _ w2) (hts _ w3) rfl (by rw [hml]; exact hl.2.1) rfl hd hRm.1 ?_ kk
    have h8 := lv_room (m := m) (pc := pc) (ls := ls) (rest := rest.map am_v2) (st := rest.map am_v2) (by rw [am_cat_sum]; exact hsz)
    exact Nat.le_trans (Nat.add_le_add_right h8 12) (Nat.le_trans (by omega) hRm.2)
theorem am_w_mth {own : String} {cc : ByteArray} {mL pc idx z : Nat} {lc : am_Ls} {st : am_Sk} {H : Heap} {locs : List Loc} {ls : Array Slot} {cells slots : Nat} {k : am_Sk → Prop} (hx : p.tables.exec = Jvm.exec) (hb : c.code = cc) (hml : c.maxLocals = mL) (hown : s.vm.findClass own = some m.cls) (hts : ∀ w ∈ am_Tg, w.before args s = true) (hl : am_Lk ls mL lc) (hd : decode cc pc = .ok (.invokestatic idx, 3)) (hok : am_okH own idx z = true) (hRm : 1 ≤ R.frames ∧ 23 ≤ R.locals) (H9 : am_mth z st k)
    (kk : ∀ st', k st' → cells ≤ R.cells ∧ slots ≤ R.slots ∧ W p l e R s m args below meth c H locs cells slots Q (F0 m (pc + 3) ls (st'.map am_v2))) : W p l e R s m args below meth c H locs cells slots Q (F0 m pc ls (st.map am_v2)) := by
  simp only [am_okH, decide_eq_true_eq] at hok
  have hlk := hts _ (am_iM hok)
  have hmx : c.maxLocals = ls.size := by rw [hml]; exact hl.2.1.symm
  have hin := hts _ am_math.1
  unfold am_mth at H9
  split at H9
  · obtain ⟨a, b, st', hst, H2⟩ := am_p2I_x H9
    subst hst
    split at H2
    · rename_i hs
      obtain ⟨h1, h2, h3⟩ := kk _ H2
      exact va_mmax hx hb hmx hown hlk (hts _ am_math.2.1) hin (hts _ am_math.2.2.1) hRm.1 (by rw [am_cat_sum]; omega) h1 h2 hd h3
    · exact H2.elim
  · obtain ⟨a, b, st', hst, H2⟩ := am_p2I_x H9
    subst hst
    split at H2
    · rename_i hs
      obtain ⟨h1, h2, h3⟩ := kk _ H2
      exact va_mmin hx hb hmx hown hlk (hts _ am_math.2.2.2.1) hin (hts _ am_math.2.2.2.2.1) hRm.1 (by rw [am_cat_sum]; omega) h1 h2 hd h3
    · exact H2.elim
  · obtain ⟨a, b, st', hst, H2⟩ := am_p2J_x H9
    subst hst
    split at H2
    · rename_i hs
      obtain ⟨h1, h2, h3⟩ := kk _ H2
      exact va_mmax_long hx hb hmx hown hlk (hts _ am_math.2.2.2.2.2.1) hin (hts _ am_math.2.2.2.2.2.2.1) hRm.1 (by rw [am_cat_sum]; omega) h1 h2 hd h3
    · exact H2.elim
  · obtain ⟨a, b, st', hst, H2⟩ := am_p2J_x H9
    subst hst
    split at H2
    · rename_i hs
      obtain ⟨h1, h2, h3⟩ := kk _ H2
      exact va_mmin_long hx hb hmx hown hlk (hts _ am_math.2.2.2.2.2.2.2.1) hin (hts _ am_math.2.2.2.2.2.2.2.2) hRm.1 (by rw [am_cat_sum]; omega) h1 h2 hd h3
    · exact H2.elim
  · exact H9.elim
set_option maxHeartbeats 16000000 in
theorem am_step {own : String} {cc : ByteArray} {mL : Nat} {ini : Bool} {ret : Option FieldType} {c0 s0 pc : Nat} {q : am_E} {lc : am_Ls} {st : am_Sk} {h : am_H} (F : am_Fx p s m args meth c D dA B own cc mL ini) (hRm : 1 ≤ R.frames ∧ 23 ≤ R.locals) (hok : am_okE own cc mL ini ret pc q = true)
    (H : am_cps pc q lc st h (fun pc lc st h => am_C h ≤ c0 + R.cells ∧ am_S h ≤ s0 + R.slots ∧ am_G p l e R s m args below meth c Q D dA B mL c0 s0 pc lc st h) (fun _ => False)
      (fun m' as rest => ∃ d r h1, am_MX l D dA B d m' as h r h1 ∧ (d + 2 ≤ R.frames ∧ 36 * d + 66 ≤ R.locals) ∧ (am_C h ≤ am_C h1 ∧ am_S h ≤ am_S h1 ∧ am_C h1 ≤ c0 + R.cells ∧ am_S h1 ≤ s0 + R.slots) ∧ am_rk q.2.2.2.2.1 rest r (fun st' => am_G p l e R s m args below meth c Q D dA B mL c0 s0 (pc + 3) lc st' h1))) :
    am_G p l e R s m args below meth c Q D dA B mL c0 s0 pc lc st h := by
  obtain ⟨hx, hb, hml, hown, hts, hKw, hini, hB⟩ := F
  obtain ⟨i, x, y, z, u, cI, cJ, ts⟩ := q
  intro HH locs ls cells slots hO hS hl hc hs
  cases i <;> simp only [am_cps] at H <;> simp only [am_okE, Bool.and_eq_true, decide_eq_true_eq] at hok
  case aconst_null =>
    obtain ⟨-, -, kG⟩ := H
    exact lv_null hx hb hok (kG _ _ _ _ _ hO hS hl hc hs)
  case iconst n =>
    obtain ⟨-, -, kG⟩ := H
    exact lv_iconst hx hb hok.1 hok.2 (kG _ _ _ _ _ hO hS hl hc hs)
  case bipush n =>
    obtain ⟨-, -, kG⟩ := H
    exact lv_bipush hx hb hok.1 hok.2 (kG _ _ _ _ _ hO hS hl hc hs)
  case sipush n =>
    obtain ⟨-, -, kG⟩ := H
    exact lv_sipush hx hb hok.1 hok.2 (kG _ _ _ _ _ hO hS hl hc hs)
  case lconst n =>
    obtain ⟨-, -, kG⟩ := H
    exact lv_lconst hx hb hok.1 hok.2 (kG _ _ _ _ _ hO hS hl hc hs)
  case ldc n =>
    obtain ⟨-, -, kG⟩ := H
    exact lv_ldc hx hb hown (hts _ (am_iC hok.2)) hok.1 (kG _ _ _ _ _ hO hS hl hc hs)
  case ldc2_w n =>
    obtain ⟨-, -, kG⟩ := H
    exact lv_ldc2 hx hb hown (hts _ (am_iC hok.2)) hok.1 (kG _ _ _ _ _ hO hS hl hc hs)
  case iload_n n =>
    obtain ⟨v, e9, -, -, kG⟩ := am_lI_x H
    exact lv_iload_n hx hb hok.1 hok.2 (am_Lk_at hl e9) (kG _ _ _ _ _ hO hS hl hc hs)
  case iload n =>
    obtain ⟨v, e9, -, -, kG⟩ := am_lI_x H
    obtain ⟨hd, rfl⟩ := hok
    exact lv_iload hx hb hd (am_Lk_at hl e9) (kG _ _ _ _ _ hO hS hl hc hs)
  case lload_n n =>
    obtain ⟨v, e9, -, -, kG⟩ := am_lJ_x H
    exact lv_lload_n hx hb hok.1 hok.2 (am_Lk_at hl e9) (kG _ _ _ _ _ hO hS hl hc hs)
  case lload n =>
    obtain ⟨v, e9, -, -, kG⟩ := am_lJ_x H
    obtain ⟨hd, rfl⟩ := hok
    exact lv_lload hx hb hd (am_Lk_at hl e9) (kG _ _ _ _ _ hO hS hl hc hs)
  case aload_n n =>
    obtain ⟨v, e9, -, -, kG⟩ := am_lR_x H
    have e8 := am_Lk_at hl e9
    cases v with
    | zero => exact lv_aload_nN hx hb hok.1 hok.2 e8 (kG _ _ _ _ _ hO hS hl hc hs)
    | succ a => exact lv_aload_n hx hb hok.1 hok.2 e8 (kG _ _ _ _ _ hO hS hl hc hs)
  case aload n =>
    obtain ⟨v, e9, -, -, kG⟩ := am_lR_x H
    obtain ⟨hd, rfl⟩ := hok
    have e8 := am_Lk_at hl e9
    cases v with
    | zero => exact lv_aloadN hx hb hd e8 (kG _ _ _ _ _ hO hS hl hc hs)
    | succ a => exact lv_aload hx hb hd e8 (kG _ _ _ _ _ hO hS hl hc hs)
  case istore_n n =>
    obtain ⟨a, st', rfl, -, -, kG⟩ := am_p1I_x H
    obtain ⟨⟨hd, rfl⟩, hlt⟩ := hok
    exact lv_istore_n hx hb hd rfl hl.2 hlt rfl (fun ls' h' => kG _ _ _ _ _ hO hS (am_Lk_s1 (v := .inl a) hl h' hlt) hc hs)
  case istore n =>
    obtain ⟨a, st', rfl, -, -, kG⟩ := am_p1I_x H
    obtain ⟨⟨hd, rfl⟩, hlt⟩ := hok
    exact lv_istore hx hb hd hl.2 hlt rfl (fun ls' h' => kG _ _ _ _ _ hO hS (am_Lk_s1 (v := .inl a) hl h' hlt) hc hs)
  case lstore_n n =>
    obtain ⟨a, st', rfl, -, -, kG⟩ := am_p1J_x H
    obtain ⟨⟨hd, rfl⟩, hlt⟩ := hok
    exact lv_lstore_n hx hb hd rfl hl.2 hlt rfl (fun ls' h' => kG _ _ _ _ _ hO hS (am_Lk_s2 (v := .inr (.inl a)) hl h' hlt) hc hs)
  case lstore n =>
    obtain ⟨a, st', rfl, -, -, kG⟩ := am_p1J_x H
    obtain ⟨⟨hd, rfl⟩, hlt⟩ := hok
    exact lv_lstore hx hb hd hl.2 hlt rfl (fun ls' h' => kG _ _ _ _ _ hO hS (am_Lk_s2 (v := .inr (.inl a)) hl h' hlt) hc hs)
  case astore_n n =>
    obtain ⟨a, st', rfl, -, -, kG⟩ := am_p1R_x H
    obtain ⟨⟨hd, rfl⟩, hlt⟩ := hok
    cases a with
    | zero => exact lv_astore_nN hx hb hd rfl hl.2 hlt rfl (fun ls' h' => kG _ _ _ _ _ hO hS (am_Lk_s1 (v := .inr (.inr 0)) hl h' hlt) hc hs)
    | succ a => exact lv_astore_n hx hb hd rfl hl.2 hlt rfl (fun ls' h' => kG _ _ _ _ _ hO hS (am_Lk_s1 (v := .inr (.inr (a + 1))) hl h' hlt) hc hs)
  case astore n =>
    obtain ⟨a, st', rfl, -, -, kG⟩ := am_p1R_x H
    obtain ⟨⟨hd, rfl⟩, hlt⟩ := hok
    cases a with
    | zero => exact lv_astoreN hx hb hd hl.2 hlt rfl (fun ls' h' => kG _ _ _ _ _ hO hS (am_Lk_s1 (v := .inr (.inr 0)) hl h' hlt) hc hs)
    | succ a => exact lv_astore hx hb hd hl.2 hlt rfl (fun ls' h' => kG _ _ _ _ _ hO hS (am_Lk_s1 (v := .inr (.inr (a + 1))) hl h' hlt) hc hs)
  case iinc n k =>
    obtain ⟨v, e9, -, -, kG⟩ := am_lI_x H
    obtain ⟨⟨⟨hd, rfl⟩, hv⟩, hlt⟩ := hok
    obtain ⟨j, hj⟩ := List.getElem?_of_mem (am_lst_mem.mpr ⟨_, e9, rfl⟩)
    exact lv_iinc hx hb hd hl.2 hj (by rw [hv]) hlt rfl (fun ls' h' => kG _ _ _ _ _ hO hS (am_Lk_s1 (v := .inl (v + cI)) hl h' hlt) hc hs)
  case iadd =>
    obtain ⟨a, b, st', rfl, -, -, kG⟩ := am_p2I_x H
    exact lv_iadd hx hb hok (kG _ _ _ _ _ hO hS hl hc hs)
  case isub =>
    obtain ⟨a, b, st', rfl, -, -, kG⟩ := am_p2I_x H
    exact lv_isub hx hb hok (kG _ _ _ _ _ hO hS hl hc hs)
  case imul =>
    obtain ⟨a, b, st', rfl, -, -, kG⟩ := am_p2I_x H
    exact lv_imul hx hb hok (kG _ _ _ _ _ hO hS hl hc hs)
  case ishr =>
    obtain ⟨a, b, st', rfl, -, -, kG⟩ := am_p2I_x H
    exact lv_ishr hx hb hok (kG _ _ _ _ _ hO hS hl hc hs)
  case iand =>
    obtain ⟨a, b, st', rfl, -, -, kG⟩ := am_p2I_x H
    exact lv_iand hx hb hok (kG _ _ _ _ _ hO hS hl hc hs)
  case idiv =>
    obtain ⟨a, b, st', rfl, g, -, -, kG⟩ := am_p2I_x H
    exact lv_idiv hx hb hok g (kG _ _ _ _ _ hO hS hl hc hs)
  case irem =>
    obtain ⟨a, b, st', rfl, g, -, -, kG⟩ := am_p2I_x H
    exact lv_irem hx hb hok g (kG _ _ _ _ _ hO hS hl hc hs)
  case ladd =>
    obtain ⟨a, b, st', rfl, -, -, kG⟩ := am_p2J_x H
    exact lv_ladd hx hb hok (kG _ _ _ _ _ hO hS hl hc hs)
  case lsub =>
    obtain ⟨a, b, st', rfl, -, -, kG⟩ := am_p2J_x H
    exact lv_lsub hx hb hok (kG _ _ _ _ _ hO hS hl hc hs)
  case lmul =>
    obtain ⟨a, b, st', rfl, -, -, kG⟩ := am_p2J_x H
    exact lv_lmul hx hb hok (kG _ _ _ _ _ hO hS hl hc hs)
  case land =>
    obtain ⟨a, b, st', rfl, -, -, kG⟩ := am_p2J_x H
    exact lv_land hx hb hok (kG _ _ _ _ _ hO hS hl hc hs)
  case lor =>
    obtain ⟨a, b, st', rfl, -, -, kG⟩ := am_p2J_x H
    exact lv_lor hx hb hok (kG _ _ _ _ _ hO hS hl hc hs)
  case ldiv =>
    obtain ⟨a, b, st', rfl, g, -, -, kG⟩ := am_p2J_x H
    exact lv_ldiv hx hb hok g (kG _ _ _ _ _ hO hS hl hc hs)
  case lrem =>
    obtain ⟨a, b, st', rfl, g, -, -, kG⟩ := am_p2J_x H
    exact lv_lrem hx hb hok g (kG _ _ _ _ _ hO hS hl hc hs)
  case lcmp =>
    obtain ⟨a, b, st', rfl, -, -, kG⟩ := am_p2J_x H
    exact W.lcmp hx hb hok (kG _ _ _ _ _ hO hS hl hc hs)
  case lneg =>
    obtain ⟨a, st', rfl, -, -, kG⟩ := am_p1J_x H
    exact lv_lneg hx hb hok (kG _ _ _ _ _ hO hS hl hc hs)
  case lshl =>
    obtain ⟨a, b, st', rfl, -, -, kG⟩ := am_pJI_x H
    exact lv_lshl hx hb hok rfl (kG _ _ _ _ _ hO hS hl hc hs)
  case i2l =>
    obtain ⟨a, st', rfl, -, -, kG⟩ := am_p1I_x H
    exact lv_i2l hx hb hok rfl (kG _ _ _ _ _ hO hS hl hc hs)
  case l2i =>
    obtain ⟨a, st', rfl, -, -, kG⟩ := am_p1J_x H
    exact lv_l2i hx hb hok rfl (kG _ _ _ _ _ hO hS hl hc hs)
  case dup =>
    obtain ⟨a, st', rfl, g, -, -, kG⟩ := am_w1_x H
    exact lv_dup hx hb hok (by rw [am_cat_v2]; exact g) (kG _ _ _ _ _ hO hS hl hc hs)
  case pop =>
    obtain ⟨a, st', rfl, g, -, -, kG⟩ := am_w1_x H
    exact lv_pop hx hb hok (by rw [am_cat_v2]; exact g) (kG _ _ _ _ _ hO hS hl hc hs)
  case dup_x1 =>
    obtain ⟨a, b, st', rfl, g1, g2, -, -, kG⟩ := am_w2_x H
    exact lv_dup_x1 hx hb hok (by rw [am_cat_v2]; exact g1) (by rw [am_cat_v2]; exact g2) (kG _ _ _ _ _ hO hS hl hc hs)
  case dup2 =>
    split at H
    · obtain ⟨-, -, kG⟩ := H
      exact lv_dup2_2 hx hb hok rfl (kG _ _ _ _ _ hO hS hl hc hs)
    · obtain ⟨a, b, st', rfl, g1, g2, -, -, kG⟩ := am_w2_x H
      exact lv_dup2_11 hx hb hok (by rw [am_cat_v2]; exact g1) (by rw [am_cat_v2]; exact g2) (kG _ _ _ _ _ hO hS hl hc hs)
  case ifCond cd off =>
    obtain ⟨a, st', rfl, H⟩ := am_p1I_x H
    cases cd with
    | eq => exact lv_if_eq hx hb hok.1 hok.2 (fun q => by obtain ⟨-, -, kG⟩ := H.1 q; exact kG _ _ _ _ _ hO hS hl hc hs) (fun q => by obtain ⟨-, -, kG⟩ := H.2 q; exact kG _ _ _ _ _ hO hS hl hc hs)
    | ne => exact lv_if_ne hx hb hok.1 hok.2 (fun q => by obtain ⟨-, -, kG⟩ := H.2 q; exact kG _ _ _ _ _ hO hS hl hc hs) (fun q => by obtain ⟨-, -, kG⟩ := H.1 q; exact kG _ _ _ _ _ hO hS hl hc hs)
    | lt => exact lv_if_lt hx hb hok.1 hok.2 (fun q => by obtain ⟨-, -, kG⟩ := H.1 q; exact kG _ _ _ _ _ hO hS hl hc hs) (fun q => by obtain ⟨-, -, kG⟩ := H.2 q; exact kG _ _ _ _ _ hO hS hl hc hs)
    | ge => exact lv_if_ge hx hb hok.1 hok.2 (fun q => by obtain ⟨-, -, kG⟩ := H.1 q; exact kG _ _ _ _ _ hO hS hl hc hs) (fun q => by obtain ⟨-, -, kG⟩ := H.2 q; exact kG _ _ _ _ _ hO hS hl hc hs)
    | gt => exact lv_if_gt hx hb hok.1 hok.2 (fun q => by obtain ⟨-, -, kG⟩ := H.1 q; exact kG _ _ _ _ _ hO hS hl hc hs) (fun q => by obtain ⟨-, -, kG⟩ := H.2 q; exact kG _ _ _ _ _ hO hS hl hc hs)
    | le => exact lv_if_le hx hb hok.1 hok.2 (fun q => by obtain ⟨-, -, kG⟩ := H.1 q; exact kG _ _ _ _ _ hO hS hl hc hs) (fun q => by obtain ⟨-, -, kG⟩ := H.2 q; exact kG _ _ _ _ _ hO hS hl hc hs)
  case if_icmp cd off =>
    obtain ⟨a, b, st', rfl, H⟩ := am_p2I_x H
    cases cd with
    | eq => exact lv_icmp_eq hx hb hok.1 hok.2 (fun q => by obtain ⟨-, -, kG⟩ := H.1 q; exact kG _ _ _ _ _ hO hS hl hc hs) (fun q => by obtain ⟨-, -, kG⟩ := H.2 q; exact kG _ _ _ _ _ hO hS hl hc hs)
    | ne => exact lv_icmp_ne hx hb hok.1 hok.2 (fun q => by obtain ⟨-, -, kG⟩ := H.2 q; exact kG _ _ _ _ _ hO hS hl hc hs) (fun q => by obtain ⟨-, -, kG⟩ := H.1 q; exact kG _ _ _ _ _ hO hS hl hc hs)
    | lt => exact lv_icmp_lt hx hb hok.1 hok.2 (fun q => by obtain ⟨-, -, kG⟩ := H.1 q; exact kG _ _ _ _ _ hO hS hl hc hs) (fun q => by obtain ⟨-, -, kG⟩ := H.2 q; exact kG _ _ _ _ _ hO hS hl hc hs)
    | ge => exact lv_icmp_ge hx hb hok.1 hok.2 (fun q => by obtain ⟨-, -, kG⟩ := H.1 q; exact kG _ _ _ _ _ hO hS hl hc hs) (fun q => by obtain ⟨-, -, kG⟩ := H.2 q; exact kG _ _ _ _ _ hO hS hl hc hs)
    | gt => exact lv_icmp_gt hx hb hok.1 hok.2 (fun q => by obtain ⟨-, -, kG⟩ := H.1 q; exact kG _ _ _ _ _ hO hS hl hc hs) (fun q => by obtain ⟨-, -, kG⟩ := H.2 q; exact kG _ _ _ _ _ hO hS hl hc hs)
    | le => exact lv_icmp_le hx hb hok.1 hok.2 (fun q => by obtain ⟨-, -, kG⟩ := H.1 q; exact kG _ _ _ _ _ hO hS hl hc hs) (fun q => by obtain ⟨-, -, kG⟩ := H.2 q; exact kG _ _ _ _ _ hO hS hl hc hs)
  case if_acmp cd off =>
    obtain ⟨a, b, st', rfl, H⟩ := am_p2R_x H
    cases cd with
    | eq => exact lv_acmp_eq hx hb hok.1 hok.2 (fun q => by obtain ⟨-, -, kG⟩ := H.1 (am_o_inj q); exact kG _ _ _ _ _ hO hS hl hc hs) (fun q => by obtain ⟨-, -, kG⟩ := H.2 (fun z => q (by rw [z])); exact kG _ _ _ _ _ hO hS hl hc hs)
    | ne => exact lv_acmp_ne hx hb hok.1 hok.2 (fun q => by obtain ⟨-, -, kG⟩ := H.2 (fun z => q (by rw [z])); exact kG _ _ _ _ _ hO hS hl hc hs) (fun q => by obtain ⟨-, -, kG⟩ := H.1 (am_o_inj q); exact kG _ _ _ _ _ hO hS hl hc hs)
  case ifnull off =>
    obtain ⟨a, st', rfl, H⟩ := am_p1R_x H
    cases a with
    | zero =>
      obtain ⟨-, -, kG⟩ := H.1 rfl
      exact lv_ifnullN hx hb hok.1 hok.2 (kG _ _ _ _ _ hO hS hl hc hs)
    | succ a =>
      obtain ⟨-, -, kG⟩ := H.2 (Nat.succ_ne_zero a)
      exact lv_ifnull hx hb hok.1 (kG _ _ _ _ _ hO hS hl hc hs)
  case ifnonnull off =>
    obtain ⟨a, st', rfl, H⟩ := am_p1R_x H
    cases a with
    | zero =>
      obtain ⟨-, -, kG⟩ := H.1 rfl
      exact lv_ifnonnullN hx hb hok.1 (kG _ _ _ _ _ hO hS hl hc hs)
    | succ a =>
      obtain ⟨-, -, kG⟩ := H.2 (Nat.succ_ne_zero a)
      exact lv_ifnonnull hx hb hok.1 hok.2 (kG _ _ _ _ _ hO hS hl hc hs)
  case goto off =>
    obtain ⟨-, -, kG⟩ := H
    exact lv_goto hx hb hok.1 hok.2 (kG _ _ _ _ _ hO hS hl hc hs)
  case tableswitch df lo hi offs =>
    obtain ⟨a, st', rfl, H⟩ := am_p1I_x H
    obtain ⟨⟨⟨⟨hd, hx0⟩, hhi⟩, hlen⟩, hall⟩ := hok
    obtain ⟨len, hd⟩ : ∃ len, decode cc pc = .ok (.tableswitch df lo hi offs, len) := by
      split at hd
      · rename_i j len e9
        exact ⟨len, by rw [e9, of_decide_eq_true hd]⟩
      · cases hd
    have hrow : ∀ j, j < ts.length → (ts.getD j (0, 0)).1.toInt = lo + j ∧ (pc : Int) + offs.getD j 0 = ((ts.getD j (0, 0)).2 : Int) := by
      intro j hj
      have h9 := List.all_eq_true.mp hall j (List.mem_range.mpr hj)
      simpa using h9
    rcases am_tsw_x H with ⟨t, hm, ⟨-, -, kG⟩, -⟩ | ⟨hno, ⟨-, -, kG⟩, -⟩
    · obtain ⟨j, hj⟩ := List.getElem?_of_mem hm
      have hjl : j < ts.length := (List.getElem?_eq_some_iff.mp hj).1
      have hg : ts.getD j (0, 0) = (a, t) := by rw [List.getD_eq_getElem?_getD, hj]; rfl
      obtain ⟨r1, r2⟩ := hrow j hjl
      rw [hg] at r1 r2
      dsimp only at r1 r2
      have hjo : j < offs.size := by omega
      refine lv_tableIn (off := offs.getD j 0) (tgt := t) hx hb hd (by omega) (by omega) ?_ r2 (kG _ _ _ _ _ hO hS hl hc hs)
      rw [show (a.toInt - lo).toNat = j by omega]
      simp [Array.getD, hjo]
    · refine lv_tableOut hx hb hd ?_ hx0 (kG _ _ _ _ _ hO hS hl hc hs)
      by_cases h1 : a.toInt < lo
      · exact Or.inl h1
      · right
        rcases Int.lt_or_le hi a.toInt with h2 | h2
        · exact h2
        · exfalso
          have hjl : (a.toInt - lo).toNat < ts.length := by omega
          have hm : ts.getD (a.toInt - lo).toNat (0, 0) ∈ ts := by
            rw [List.getD_eq_getElem?_getD, List.getElem?_eq_getElem hjl]
            exact List.getElem_mem hjl
          obtain ⟨r1, -⟩ := hrow _ hjl
          refine hno _ hm (Int32.toInt_inj.mp ?_)
          rw [r1]
          omega
  case getstatic idx =>
    obtain ⟨-, -, kG⟩ := H
    exact am_w_gets hx hb hts hown hB hO hS (am_iF hok.2) hok.1 (kG _ _ _ _ _ hO hS hl hc hs)
  case getfield idx =>
    obtain ⟨a, st', rfl, g, -, -, kG⟩ := am_p1R_x H
    obtain ⟨⟨hd, hf⟩, hu⟩ := hok
    obtain ⟨q, hq, hy, hl9⟩ := am_okF_x hf
    obtain ⟨hg, hx9⟩ := am_cok hq
    subst hu
    exact am_w_get hx hb hts hown hKw.1 hKw.2.1 hO g hq hg hx9 hy hl9 hd (kG _ _ _ _ _ hO hS hl hc hs)
  case putfield idx =>
    obtain ⟨⟨⟨hd, hf⟩, hu⟩, hn9⟩ := hok
    obtain ⟨q, hq, hy, hl9⟩ := am_okF_x hf
    obtain ⟨hg, hx9⟩ := am_cok hq
    rcases am_pRv_x H with ⟨rfl, a, v, st', rfl, g, H9⟩ | ⟨rfl, a, v, st', rfl, g, H9⟩ | ⟨rfl, a, v, st', rfl, g, H9⟩
    · obtain ⟨-, -, kG⟩ := H9 _ rfl
      exact am_w_put hx hb hts hown hKw.1 hKw.2.1 hO hS g hq hg hx9 hy hl9 (am_okN_x hq hn9 hini) hd (v := .inl v) (h' := am_sI h (32 * x + y) a v) rfl rfl rfl rfl rfl rfl (fun u f b hb => am_gt_sI u h _ _ v hb) (by rw [hu]; show Sum.inl (am_u2 (am_I h) _ _ _ _ _) = _; rw [am_u2, if_pos ⟨rfl, rfl⟩]) rfl (fun H1 locs1 hO1 hS1 => kG _ _ _ _ _ hO1 hS1 hl hc hs)
    · obtain ⟨-, -, kG⟩ := H9 _ rfl
      exact am_w_put hx hb hts hown hKw.1 hKw.2.1 hO hS g hq hg hx9 hy hl9 (am_okN_x hq hn9 hini) hd (v := .inr (.inl v)) (h' := am_sJ h (32 * x + y) a v) rfl rfl rfl rfl rfl rfl (fun u f b hb => am_gt_sJ u h _ _ v hb) (by rw [hu]; show Sum.inr (Sum.inl (am_u2 (am_J h) _ _ _ _ _)) = _; rw [am_u2, if_pos ⟨rfl, rfl⟩]) rfl (fun H1 locs1 hO1 hS1 => kG _ _ _ _ _ hO1 hS1 hl hc hs)
    · obtain ⟨-, -, kG⟩ := H9 _ rfl
      exact am_w_put hx hb hts hown hKw.1 hKw.2.1 hO hS g hq hg hx9 hy hl9 (am_okN_x hq hn9 hini) hd (v := .inr (.inr v)) (h' := am_sR h (32 * x + y) a v) rfl rfl rfl rfl rfl rfl (fun u f b hb => am_gt_sR u h _ _ v hb) (by rw [hu]; show Sum.inr (Sum.inr (am_u2 (am_R h) _ _ _ _ _)) = _; rw [am_u2, if_pos ⟨rfl, rfl⟩]) (by show am_u2 (am_R h) (32 * x + y) a v 9000 0 = _; rw [am_u2, if_neg (fun q => by rw [← q.2, hO.1] at g; omega)]) (fun H1 locs1 hO1 hS1 => kG _ _ _ _ _ hO1 hS1 hl hc hs)
  case iaload =>
    obtain ⟨a, b, st', rfl, g1, g2, -, -, kG⟩ := am_pRI_x H
    exact am_w_iald hx hb hKw.1 hO g1 g2 hok (kG _ _ _ _ _ hO hS hl hc hs)
  case laload =>
    obtain ⟨a, b, st', rfl, g1, g2, -, -, kG⟩ := am_pRI_x H
    exact am_w_lald hx hb hKw.1 hO g1 g2 hok (kG _ _ _ _ _ hO hS hl hc hs)
  case aaload =>
    obtain ⟨a, b, st', rfl, g1, g2, -, -, kG⟩ := am_pRI_x H
    exact am_w_aald hx hb hKw.1 hO g1 g2 hok (kG _ _ _ _ _ hO hS hl hc hs)
  case iastore =>
    obtain ⟨a, b, v, st', rfl, g1, g2, H9⟩ := am_pRII_x H
    obtain ⟨-, -, kG⟩ := H9 _ rfl
    exact am_w_iast hx hb hKw.1 hO hS g1 g2 hok (fun H1 locs1 hO1 hS1 => kG _ _ _ _ _ hO1 hS1 hl hc hs)
  case lastore =>
    obtain ⟨a, b, v, st', rfl, g1, g2, H9⟩ := am_pRIJ_x H
    obtain ⟨-, -, kG⟩ := H9 _ rfl
    exact am_w_last hx hb hKw.1 hO hS g1 g2 hok (fun H1 locs1 hO1 hS1 => kG _ _ _ _ _ hO1 hS1 hl hc hs)
  case aastore =>
    obtain ⟨a, b, v, st', rfl, g1, g2, g3, H9⟩ := am_pRIR_x H
    obtain ⟨-, -, kG⟩ := H9 _ rfl
    exact am_w_aast hx hb hKw.1 hKw.2.1 hO hS g1 g2 g3 hok (fun H1 locs1 hO1 hS1 => kG _ _ _ _ _ hO1 hS1 hl hc hs)
  case arraylength =>
    obtain ⟨a, st', rfl, g, -, -, kG⟩ := am_p1R_x H
    exact am_w_alen hx hb hKw.1 hO g hok (kG _ _ _ _ _ hO hS hl hc hs)
  case newarray at_ =>
    obtain ⟨a, st', rfl, g1, g2, H9⟩ := am_p1I_x H
    obtain ⟨k1, k2, kG⟩ := H9 _ rfl
    obtain ⟨⟨hd, hat⟩, hw⟩ := hok
    have k1 : am_C h + 1 ≤ c0 + R.cells := k1
    have k2 : am_S h + a.toNatClampNeg ≤ s0 + R.slots := k2
    exact am_w_newa hx hb hKw.1 hO (Nat.le_trans hB hS.1) hS (by simpa using hat) (hts _ (am_iI hw)) g1 g2 (by omega) (by omega) hd (fun H1 hO1 hS1 => kG _ _ _ _ _ hO1 hS1 hl (by show _ = am_C h + 1; omega) (by show _ = am_S h + a.toNatClampNeg; omega))
  case anewarray idx =>
    obtain ⟨a, st', rfl, g1, g2, H9⟩ := am_p1I_x H
    obtain ⟨k1, k2, kG⟩ := H9 _ rfl
    obtain ⟨⟨hd, hxr⟩, hw⟩ := hok
    have k1 : am_C h + 1 ≤ c0 + R.cells := k1
    have k2 : am_S h + a.toNatClampNeg ≤ s0 + R.slots := k2
    exact am_w_newq hx hb hts hown hKw.1 hO (Nat.le_trans hB hS.1) hS hxr (am_iC hw) (hKw.2.2 _ hxr) g1 g2 (by omega) (by omega) hd (fun H1 hO1 hS1 => kG _ _ _ _ _ hO1 hS1 hl (by show _ = am_C h + 1; omega) (by show _ = am_S h + a.toNatClampNeg; omega))
  case new idx =>
    obtain ⟨k1, k2, kG⟩ := H _ rfl
    obtain ⟨hd, hw⟩ := hok
    split at hw
    · rename_i q hq
      simp only [Bool.and_eq_true, decide_eq_true_eq] at hw
      obtain ⟨⟨⟨rfl, w1⟩, w2⟩, w3⟩ := hw
      obtain ⟨hg, hx9⟩ := am_cok hq
      have k1 : am_C h + 1 ≤ c0 + R.cells := k1
      have k2 : am_S h + q.2.2 ≤ s0 + R.slots := k2
      exact am_w_new hx hb hts hown hKw.1 hO (Nat.le_trans hB hS.1) hS hq hg hx9 ⟨am_iC w1, am_iI w2, am_iI w3⟩ (by omega) (by omega) hd (fun H1 hO1 hS1 => kG _ _ _ _ _ hO1 hS1 hl (by show _ = am_C h + 1; omega) (by show _ = am_S h + q.2.2; omega))
    · cases hw
  case checkcast idx =>
    obtain ⟨a, st', rfl, g, -, -, kG⟩ := am_p1R_x H
    obtain ⟨⟨hd, hx9⟩, hw⟩ := hok
    have hq : am_cl[x]? = some am_cl[x] := List.getElem?_eq_getElem hx9
    cases a with
    | zero => exact lv_castN hx hb hd (kG _ _ _ _ _ hO hS hl hc hs)
    | succ a =>
      have g : am_T h (a + 1) = 10 + x := by rcases g with q | q; cases q; exact q
      rw [am_cn_of hq] at hw
      exact va_castS hx hb hown (hts _ (am_iC hw)) (hKw.1.1 x _ hq).2 (am_recv hKw.1 hO g hq) hd (kG _ _ _ _ _ hO hS hl hc hs)
  case invokevirtual idx =>
    obtain ⟨as, rest, hn, hst, H2⟩ := am_pn_x H
    subst hst
    obtain ⟨a, st', hst, g, H3⟩ := am_p1R_x H2
    subst hst
    clear H H2
    have H := H3
    clear H3
    split at H
    · rename_i hsz
      obtain ⟨d, r, h1, hM, hRf, hle, H⟩ := H
      exact am_w_callV hx hb hml hown hts hKw hB hO hS hl hc hs hok.1 hok.2 hn g hsz hM hRf hle H
    · exact H.elim
  case invokespecial idx =>
    obtain ⟨as, rest, hn, hst, H2⟩ := am_pn_x H
    subst hst
    obtain ⟨a, st', hst, g, H3⟩ := am_p1R_x H2
    subst hst
    clear H H2
    have H := H3
    clear H3
    split at H
    · rename_i hsz
      split at H
      · rename_i hx0
        obtain ⟨-, -, kG⟩ := H
        obtain ⟨hd, hw⟩ := hok
        rw [if_pos hx0] at hw
        exact am_w_objInit hx hb hml hown hts hl hd hw hn g hsz.1 hRm (kG _ _ _ _ _ hO hS hl hc hs)
      · rename_i hx0
        obtain ⟨d, r, h1, hM, hRf, hle, H⟩ := H
        obtain ⟨hd, hw⟩ := hok
        rw [if_neg hx0] at hw
        exact am_w_callI hx hb hml hown hts hKw hB hO hS hl hc hs hd hw hn g hsz hM hRf hle H
    · exact H.elim
  case invokestatic idx =>
    obtain ⟨hd, hw⟩ := hok
    by_cases hx0 : x = 0
    · simp only [if_pos hx0] at H hw
      exact am_w_mth hx hb hml hown hts hl hd hw hRm H (fun st' h9 => by obtain ⟨k1, k2, kG⟩ := h9; exact ⟨by omega, by omega, kG _ _ _ _ _ hO hS hl hc hs⟩)
    · simp only [if_neg hx0] at H hw
      obtain ⟨as, rest, hn, hst, H2⟩ := am_pn_x H
      clear H
      have H := H2
      clear H2
      subst hst
      split at H
      · rename_i hsz
        obtain ⟨d, r, h1, hM, hRf, hle, H⟩ := H
        exact am_w_callS hx hb hml hown hts hKw hB hO hS hl hc hs hd hw hn hsz hM hRf hle H
      · exact H.elim
  case ireturn =>
    split at H
    · split at H
      · exact H.elim
      · exact H.2.elim
    · exact H.elim
  case lreturn =>
    split at H
    · exact H.elim
    · exact H.elim
  case areturn =>
    split at H
    · exact H.elim
    · exact H.elim
  case return_ =>
    split at H
    · exact H.elim
    · exact H.elim
end AMS
end
section
/-! CHECKS of the programs: every entry is what the class file says -/
theorem am_all_split {α : Type} {l : List α} {f : α → Bool} (n : Nat) (h1 : (l.take n).all f = true) (h2 : (l.drop n).all f = true) : l.all f = true := by
  rw [← List.take_append_drop n l, List.all_append, h1, h2]
  rfl
def am_chk (x : Nat) : Bool := match am_mi x with
  | some (w, cc, mL, ret) => (am_pg x).all (fun e => am_okE w.cls cc mL (decide (w.name = "<init>")) ret e.1 e.2)
  | none => true
theorem am_chk_0 : am_chk 0 = true := by decide +kernel
theorem am_chk_1 : am_chk 1 = true := by decide +kernel
theorem am_chk_2 : am_chk 2 = true := by decide +kernel
theorem am_chk_3 : am_chk 3 = true := by decide +kernel
theorem am_chk_4 : am_chk 4 = true := by decide +kernel
theorem am_chk_5 : am_chk 5 = true := by decide +kernel
theorem am_chk_6 : am_chk 6 = true := by decide +kernel
theorem am_chk_7 : am_chk 7 = true := by decide +kernel
theorem am_chk_8 : am_chk 8 = true := by decide +kernel
theorem am_chk_9 : am_chk 9 = true := by decide +kernel
theorem am_chk_10 : am_chk 10 = true := by decide +kernel
theorem am_chk_11 : am_chk 11 = true := by decide +kernel
theorem am_chk_12 : am_chk 12 = true := by decide +kernel
theorem am_chk_13 : am_chk 13 = true := by decide +kernel
theorem am_pk_14_0 : (((pg_X_frame.drop 0)).take 60).all (fun e => am_okE "EthernetGates" prog_1_method_5_code 7 false ((some FieldType.int)) e.1 e.2) = true := by decide +kernel
theorem am_pk_14_1 : (((pg_X_frame.drop 60)).take 60).all (fun e => am_okE "EthernetGates" prog_1_method_5_code 7 false ((some FieldType.int)) e.1 e.2) = true := by decide +kernel
set_option maxRecDepth 20000 in
theorem am_pk_14 : pg_X_frame.all (fun e => am_okE "EthernetGates" prog_1_method_5_code 7 false ((some FieldType.int)) e.1 e.2) = true := by
  refine am_all_split 60 am_pk_14_0 ?_
  try rw [List.drop_drop]
  rw [← List.take_of_length_le (l := pg_X_frame.drop 60) (i := 60) (by decide)]
  exact am_pk_14_1
theorem am_chk_14 : am_chk 14 = true := am_pk_14
theorem am_chk_15 : am_chk 15 = true := by decide +kernel
theorem am_chk_16 : am_chk 16 = true := by decide +kernel
theorem am_chk_17 : am_chk 17 = true := by decide +kernel
theorem am_chk_18 : am_chk 18 = true := by decide +kernel
theorem am_chk_19 : am_chk 19 = true := by decide +kernel
theorem am_chk_20 : am_chk 20 = true := by decide +kernel
theorem am_chk_21 : am_chk 21 = true := by decide +kernel
theorem am_chk_22 : am_chk 22 = true := by decide +kernel
theorem am_pk_23_0 : (((pg_X_queueCopies.drop 0)).take 60).all (fun e => am_okE "EthernetGates" prog_1_method_20_code 9 false ((some FieldType.int)) e.1 e.2) = true := by decide +kernel
theorem am_pk_23_1 : (((pg_X_queueCopies.drop 60)).take 60).all (fun e => am_okE "EthernetGates" prog_1_method_20_code 9 false ((some FieldType.int)) e.1 e.2) = true := by decide +kernel
set_option maxRecDepth 20000 in
theorem am_pk_23 : pg_X_queueCopies.all (fun e => am_okE "EthernetGates" prog_1_method_20_code 9 false ((some FieldType.int)) e.1 e.2) = true := by
  refine am_all_split 60 am_pk_23_0 ?_
  try rw [List.drop_drop]
  rw [← List.take_of_length_le (l := pg_X_queueCopies.drop 60) (i := 60) (by decide)]
  exact am_pk_23_1
theorem am_chk_23 : am_chk 23 = true := am_pk_23
theorem am_chk_24 : am_chk 24 = true := by decide +kernel
theorem am_chk_25 : am_chk 25 = true := by decide +kernel
theorem am_chk_26 : am_chk 26 = true := by decide +kernel
theorem am_chk_27 : am_chk 27 = true := by decide +kernel
theorem am_chk_28 : am_chk 28 = true := by decide +kernel
theorem am_chk_29 : am_chk 29 = true := by decide +kernel
theorem am_chk_30 : am_chk 30 = true := by decide +kernel
theorem am_chk_31 : am_chk 31 = true := by decide +kernel
theorem am_chk_32 : am_chk 32 = true := by decide +kernel
theorem am_chk_33 : am_chk 33 = true := by decide +kernel
theorem am_chk_34 : am_chk 34 = true := by decide +kernel
theorem am_chk_35 : am_chk 35 = true := by decide +kernel
theorem am_chk_36 : am_chk 36 = true := by decide +kernel
theorem am_chk_37 : am_chk 37 = true := by decide +kernel
theorem am_pk_38_0 : (((pg_P_beginNext.drop 0)).take 60).all (fun e => am_okE "EthernetGates$Port" prog_4_method_5_code 11 false (none) e.1 e.2) = true := by decide +kernel
theorem am_pk_38_1 : (((pg_P_beginNext.drop 60)).take 60).all (fun e => am_okE "EthernetGates$Port" prog_4_method_5_code 11 false (none) e.1 e.2) = true := by decide +kernel
set_option maxRecDepth 20000 in
theorem am_pk_38 : pg_P_beginNext.all (fun e => am_okE "EthernetGates$Port" prog_4_method_5_code 11 false (none) e.1 e.2) = true := by
  refine am_all_split 60 am_pk_38_0 ?_
  try rw [List.drop_drop]
  rw [← List.take_of_length_le (l := pg_P_beginNext.drop 60) (i := 60) (by decide)]
  exact am_pk_38_1
theorem am_chk_38 : am_chk 38 = true := am_pk_38
theorem am_chk_39 : am_chk 39 = true := by decide +kernel
theorem am_chk_40 : am_chk 40 = true := by decide +kernel
theorem am_chk_41 : am_chk 41 = true := by decide +kernel
theorem am_chk_42 : am_chk 42 = true := by decide +kernel
theorem am_chk_43 : am_chk 43 = true := by decide +kernel
theorem am_chk_44 : am_chk 44 = true := by decide +kernel
theorem am_chk_45 : am_chk 45 = true := by decide +kernel
theorem am_chk_46 : am_chk 46 = true := by decide +kernel
theorem am_chk_47 : am_chk 47 = true := by decide +kernel
theorem am_chk_48 : am_chk 48 = true := by decide +kernel
theorem am_chk_49 : am_chk 49 = true := by decide +kernel
theorem am_chk_50 : am_chk 50 = true := by decide +kernel
theorem am_chk_51 : am_chk 51 = true := by decide +kernel
theorem am_chk_52 : am_chk 52 = true := by decide +kernel
theorem am_chk_53 : am_chk 53 = true := by decide +kernel
theorem am_chk_54 : am_chk 54 = true := by decide +kernel
theorem am_chk_55 : am_chk 55 = true := by decide +kernel
theorem am_chk_56 : am_chk 56 = true := by decide +kernel
theorem am_chk_57 : am_chk 57 = true := by decide +kernel
theorem am_chk_58 : am_chk 58 = true := by decide +kernel
theorem am_chk_59 : am_chk 59 = true := by decide +kernel
theorem am_chk_60 : am_chk 60 = true := by decide +kernel
theorem am_chk_61 : am_chk 61 = true := by decide +kernel
theorem am_chk_62 : am_chk 62 = true := by decide +kernel
theorem am_chk_63 : am_chk 63 = true := by decide +kernel
theorem am_chk_64 : am_chk 64 = true := by decide +kernel
theorem am_pk_65_0 : (((pg_M_init.drop 0)).take 60).all (fun e => am_okE "EthernetGatesModel" prog_8_method_1_code 2 true (none) e.1 e.2) = true := by decide +kernel
theorem am_pk_65_1 : (((pg_M_init.drop 60)).take 60).all (fun e => am_okE "EthernetGatesModel" prog_8_method_1_code 2 true (none) e.1 e.2) = true := by decide +kernel
set_option maxRecDepth 20000 in
theorem am_pk_65 : pg_M_init.all (fun e => am_okE "EthernetGatesModel" prog_8_method_1_code 2 true (none) e.1 e.2) = true := by
  refine am_all_split 60 am_pk_65_0 ?_
  try rw [List.drop_drop]
  rw [← List.take_of_length_le (l := pg_M_init.drop 60) (i := 60) (by decide)]
  exact am_pk_65_1
theorem am_chk_65 : am_chk 65 = true := am_pk_65
theorem am_chk_66 : am_chk 66 = true := by decide +kernel
theorem am_pk_67_0 : (((pg_M_link.drop 0)).take 60).all (fun e => am_okE "EthernetGatesModel" prog_8_method_5_code 6 false ((some FieldType.int)) e.1 e.2) = true := by decide +kernel
theorem am_pk_67_1 : (((pg_M_link.drop 60)).take 60).all (fun e => am_okE "EthernetGatesModel" prog_8_method_5_code 6 false ((some FieldType.int)) e.1 e.2) = true := by decide +kernel
set_option maxRecDepth 20000 in
theorem am_pk_67 : pg_M_link.all (fun e => am_okE "EthernetGatesModel" prog_8_method_5_code 6 false ((some FieldType.int)) e.1 e.2) = true := by
  refine am_all_split 60 am_pk_67_0 ?_
  try rw [List.drop_drop]
  rw [← List.take_of_length_le (l := pg_M_link.drop 60) (i := 60) (by decide)]
  exact am_pk_67_1
theorem am_chk_67 : am_chk 67 = true := am_pk_67
theorem am_chk_68 : am_chk 68 = true := by decide +kernel
theorem am_pk_69_0 : (((pg_M_gate.drop 0)).take 60).all (fun e => am_okE "EthernetGatesModel" prog_8_method_6_code 8 false ((some FieldType.int)) e.1 e.2) = true := by decide +kernel
theorem am_pk_69_1 : (((pg_M_gate.drop 60)).take 60).all (fun e => am_okE "EthernetGatesModel" prog_8_method_6_code 8 false ((some FieldType.int)) e.1 e.2) = true := by decide +kernel
set_option maxRecDepth 20000 in
theorem am_pk_69 : pg_M_gate.all (fun e => am_okE "EthernetGatesModel" prog_8_method_6_code 8 false ((some FieldType.int)) e.1 e.2) = true := by
  refine am_all_split 60 am_pk_69_0 ?_
  try rw [List.drop_drop]
  rw [← List.take_of_length_le (l := pg_M_gate.drop 60) (i := 60) (by decide)]
  exact am_pk_69_1
theorem am_chk_69 : am_chk 69 = true := am_pk_69
theorem am_chk_70 : am_chk 70 = true := by decide +kernel
theorem am_pk_71_0 : (((pg_M_cycle.drop 0)).take 60).all (fun e => am_okE "EthernetGatesModel" prog_8_method_7_code 5 false ((some FieldType.int)) e.1 e.2) = true := by decide +kernel
theorem am_pk_71_1 : (((pg_M_cycle.drop 60)).take 60).all (fun e => am_okE "EthernetGatesModel" prog_8_method_7_code 5 false ((some FieldType.int)) e.1 e.2) = true := by decide +kernel
set_option maxRecDepth 20000 in
theorem am_pk_71 : pg_M_cycle.all (fun e => am_okE "EthernetGatesModel" prog_8_method_7_code 5 false ((some FieldType.int)) e.1 e.2) = true := by
  refine am_all_split 60 am_pk_71_0 ?_
  try rw [List.drop_drop]
  rw [← List.take_of_length_le (l := pg_M_cycle.drop 60) (i := 60) (by decide)]
  exact am_pk_71_1
theorem am_chk_71 : am_chk 71 = true := am_pk_71
theorem am_pk_72_0 : (((pg_M_learn.drop 0)).take 60).all (fun e => am_okE "EthernetGatesModel" prog_8_method_9_code 6 false ((some FieldType.int)) e.1 e.2) = true := by decide +kernel
theorem am_pk_72_1 : (((pg_M_learn.drop 60)).take 60).all (fun e => am_okE "EthernetGatesModel" prog_8_method_9_code 6 false ((some FieldType.int)) e.1 e.2) = true := by decide +kernel
set_option maxRecDepth 20000 in
theorem am_pk_72 : pg_M_learn.all (fun e => am_okE "EthernetGatesModel" prog_8_method_9_code 6 false ((some FieldType.int)) e.1 e.2) = true := by
  refine am_all_split 60 am_pk_72_0 ?_
  try rw [List.drop_drop]
  rw [← List.take_of_length_le (l := pg_M_learn.drop 60) (i := 60) (by decide)]
  exact am_pk_72_1
theorem am_chk_72 : am_chk 72 = true := am_pk_72
theorem am_chk_73 : am_chk 73 = true := by decide +kernel
theorem am_chk_74 : am_chk 74 = true := by decide +kernel
theorem am_chk_75 : am_chk 75 = true := by decide +kernel
theorem am_chk_76 : am_chk 76 = true := by decide +kernel
theorem am_pk_77_0 : (((pg_M_clock.drop 0)).take 60).all (fun e => am_okE "EthernetGatesModel" prog_8_method_13_code 4 false ((some FieldType.int)) e.1 e.2) = true := by decide +kernel
theorem am_pk_77_1 : (((pg_M_clock.drop 60)).take 60).all (fun e => am_okE "EthernetGatesModel" prog_8_method_13_code 4 false ((some FieldType.int)) e.1 e.2) = true := by decide +kernel
set_option maxRecDepth 20000 in
theorem am_pk_77 : pg_M_clock.all (fun e => am_okE "EthernetGatesModel" prog_8_method_13_code 4 false ((some FieldType.int)) e.1 e.2) = true := by
  refine am_all_split 60 am_pk_77_0 ?_
  try rw [List.drop_drop]
  rw [← List.take_of_length_le (l := pg_M_clock.drop 60) (i := 60) (by decide)]
  exact am_pk_77_1
theorem am_chk_77 : am_chk 77 = true := am_pk_77
theorem am_pk_78_0 : (((pg_M_service.drop 0)).take 60).all (fun e => am_okE "EthernetGatesModel" prog_8_method_14_code 3 false ((some FieldType.int)) e.1 e.2) = true := by decide +kernel
theorem am_pk_78_1 : (((pg_M_service.drop 60)).take 60).all (fun e => am_okE "EthernetGatesModel" prog_8_method_14_code 3 false ((some FieldType.int)) e.1 e.2) = true := by decide +kernel
set_option maxRecDepth 20000 in
theorem am_pk_78 : pg_M_service.all (fun e => am_okE "EthernetGatesModel" prog_8_method_14_code 3 false ((some FieldType.int)) e.1 e.2) = true := by
  refine am_all_split 60 am_pk_78_0 ?_
  try rw [List.drop_drop]
  rw [← List.take_of_length_le (l := pg_M_service.drop 60) (i := 60) (by decide)]
  exact am_pk_78_1
theorem am_chk_78 : am_chk 78 = true := am_pk_78
theorem am_pk_79_0 : (((pg_M_frame.drop 0)).take 60).all (fun e => am_okE "EthernetGatesModel" prog_8_method_16_code 10 false ((some FieldType.int)) e.1 e.2) = true := by decide +kernel
theorem am_pk_79_1 : (((pg_M_frame.drop 60)).take 60).all (fun e => am_okE "EthernetGatesModel" prog_8_method_16_code 10 false ((some FieldType.int)) e.1 e.2) = true := by decide +kernel
theorem am_pk_79_2 : (((pg_M_frame.drop 120)).take 60).all (fun e => am_okE "EthernetGatesModel" prog_8_method_16_code 10 false ((some FieldType.int)) e.1 e.2) = true := by decide +kernel
set_option maxRecDepth 20000 in
theorem am_pk_79 : pg_M_frame.all (fun e => am_okE "EthernetGatesModel" prog_8_method_16_code 10 false ((some FieldType.int)) e.1 e.2) = true := by
  refine am_all_split 60 am_pk_79_0 ?_
  try rw [List.drop_drop]
  refine am_all_split 60 am_pk_79_1 ?_
  try rw [List.drop_drop]
  rw [← List.take_of_length_le (l := pg_M_frame.drop 120) (i := 60) (by decide)]
  exact am_pk_79_2
theorem am_chk_79 : am_chk 79 = true := am_pk_79
theorem am_chk_80 : am_chk 80 = true := by decide +kernel
theorem am_chk_81 : am_chk 81 = true := by decide +kernel
theorem am_pk_82_0 : (((pg_M_tick.drop 0)).take 60).all (fun e => am_okE "EthernetGatesModel" prog_8_method_21_code 3 false (none) e.1 e.2) = true := by decide +kernel
theorem am_pk_82_1 : (((pg_M_tick.drop 60)).take 60).all (fun e => am_okE "EthernetGatesModel" prog_8_method_21_code 3 false (none) e.1 e.2) = true := by decide +kernel
theorem am_pk_82_2 : (((pg_M_tick.drop 120)).take 60).all (fun e => am_okE "EthernetGatesModel" prog_8_method_21_code 3 false (none) e.1 e.2) = true := by decide +kernel
theorem am_pk_82_3 : (((pg_M_tick.drop 180)).take 60).all (fun e => am_okE "EthernetGatesModel" prog_8_method_21_code 3 false (none) e.1 e.2) = true := by decide +kernel
set_option maxRecDepth 20000 in
theorem am_pk_82 : pg_M_tick.all (fun e => am_okE "EthernetGatesModel" prog_8_method_21_code 3 false (none) e.1 e.2) = true := by
  refine am_all_split 60 am_pk_82_0 ?_
  try rw [List.drop_drop]
  refine am_all_split 60 am_pk_82_1 ?_
  try rw [List.drop_drop]
  refine am_all_split 60 am_pk_82_2 ?_
  try rw [List.drop_drop]
  rw [← List.take_of_length_le (l := pg_M_tick.drop 180) (i := 60) (by decide)]
  exact am_pk_82_3
theorem am_chk_82 : am_chk 82 = true := am_pk_82
theorem am_chk_83 : am_chk 83 = true := by decide +kernel
theorem am_chk_84 : am_chk 84 = true := by decide +kernel
theorem am_pk_85_0 : (((pg_M_open.drop 0)).take 60).all (fun e => am_okE "EthernetGatesModel" prog_8_method_18_code 8 false ((some FieldType.boolean)) e.1 e.2) = true := by decide +kernel
theorem am_pk_85_1 : (((pg_M_open.drop 60)).take 60).all (fun e => am_okE "EthernetGatesModel" prog_8_method_18_code 8 false ((some FieldType.boolean)) e.1 e.2) = true := by decide +kernel
set_option maxRecDepth 20000 in
theorem am_pk_85 : pg_M_open.all (fun e => am_okE "EthernetGatesModel" prog_8_method_18_code 8 false ((some FieldType.boolean)) e.1 e.2) = true := by
  refine am_all_split 60 am_pk_85_0 ?_
  try rw [List.drop_drop]
  rw [← List.take_of_length_le (l := pg_M_open.drop 60) (i := 60) (by decide)]
  exact am_pk_85_1
theorem am_chk_85 : am_chk 85 = true := am_pk_85
theorem am_pk_86_0 : (((pg_M_begin.drop 0)).take 60).all (fun e => am_okE "EthernetGatesModel" prog_8_method_20_code 5 false (none) e.1 e.2) = true := by decide +kernel
theorem am_pk_86_1 : (((pg_M_begin.drop 60)).take 60).all (fun e => am_okE "EthernetGatesModel" prog_8_method_20_code 5 false (none) e.1 e.2) = true := by decide +kernel
set_option maxRecDepth 20000 in
theorem am_pk_86 : pg_M_begin.all (fun e => am_okE "EthernetGatesModel" prog_8_method_20_code 5 false (none) e.1 e.2) = true := by
  refine am_all_split 60 am_pk_86_0 ?_
  try rw [List.drop_drop]
  rw [← List.take_of_length_le (l := pg_M_begin.drop 60) (i := 60) (by decide)]
  exact am_pk_86_1
theorem am_chk_86 : am_chk 86 = true := am_pk_86
theorem am_chk_87 : am_chk 87 = true := by decide +kernel
theorem am_chk_88 : am_chk 88 = true := by decide +kernel
theorem am_pk_89_0 : (((pg_W_law.drop 0)).take 60).all (fun e => am_okE "EthernetGatesLaw" code 7 false ((some FieldType.boolean)) e.1 e.2) = true := by decide +kernel
theorem am_pk_89_1 : (((pg_W_law.drop 60)).take 60).all (fun e => am_okE "EthernetGatesLaw" code 7 false ((some FieldType.boolean)) e.1 e.2) = true := by decide +kernel
theorem am_pk_89_2 : (((pg_W_law.drop 120)).take 60).all (fun e => am_okE "EthernetGatesLaw" code 7 false ((some FieldType.boolean)) e.1 e.2) = true := by decide +kernel
theorem am_pk_89_3 : (((pg_W_law.drop 180)).take 60).all (fun e => am_okE "EthernetGatesLaw" code 7 false ((some FieldType.boolean)) e.1 e.2) = true := by decide +kernel
theorem am_pk_89_4 : (((pg_W_law.drop 240)).take 60).all (fun e => am_okE "EthernetGatesLaw" code 7 false ((some FieldType.boolean)) e.1 e.2) = true := by decide +kernel
theorem am_pk_89_5 : (((pg_W_law.drop 300)).take 60).all (fun e => am_okE "EthernetGatesLaw" code 7 false ((some FieldType.boolean)) e.1 e.2) = true := by decide +kernel
theorem am_pk_89_6 : (((pg_W_law.drop 360)).take 60).all (fun e => am_okE "EthernetGatesLaw" code 7 false ((some FieldType.boolean)) e.1 e.2) = true := by decide +kernel
theorem am_pk_89_7 : (((pg_W_law.drop 420)).take 60).all (fun e => am_okE "EthernetGatesLaw" code 7 false ((some FieldType.boolean)) e.1 e.2) = true := by decide +kernel
theorem am_pk_89_8 : (((pg_W_law.drop 480)).take 60).all (fun e => am_okE "EthernetGatesLaw" code 7 false ((some FieldType.boolean)) e.1 e.2) = true := by decide +kernel
theorem am_pk_89_9 : (((pg_W_law.drop 540)).take 60).all (fun e => am_okE "EthernetGatesLaw" code 7 false ((some FieldType.boolean)) e.1 e.2) = true := by decide +kernel
theorem am_pk_89_10 : (((pg_W_law.drop 600)).take 60).all (fun e => am_okE "EthernetGatesLaw" code 7 false ((some FieldType.boolean)) e.1 e.2) = true := by decide +kernel
set_option maxRecDepth 20000 in
theorem am_pk_89 : pg_W_law.all (fun e => am_okE "EthernetGatesLaw" code 7 false ((some FieldType.boolean)) e.1 e.2) = true := by
  refine am_all_split 60 am_pk_89_0 ?_
  try rw [List.drop_drop]
  refine am_all_split 60 am_pk_89_1 ?_
  try rw [List.drop_drop]
  refine am_all_split 60 am_pk_89_2 ?_
  try rw [List.drop_drop]
  refine am_all_split 60 am_pk_89_3 ?_
  try rw [List.drop_drop]
  refine am_all_split 60 am_pk_89_4 ?_
  try rw [List.drop_drop]
  refine am_all_split 60 am_pk_89_5 ?_
  try rw [List.drop_drop]
  refine am_all_split 60 am_pk_89_6 ?_
  try rw [List.drop_drop]
  refine am_all_split 60 am_pk_89_7 ?_
  try rw [List.drop_drop]
  refine am_all_split 60 am_pk_89_8 ?_
  try rw [List.drop_drop]
  refine am_all_split 60 am_pk_89_9 ?_
  try rw [List.drop_drop]
  rw [← List.take_of_length_le (l := pg_W_law.drop 600) (i := 60) (by decide)]
  exact am_pk_89_10
theorem am_chk_89 : am_chk 89 = true := am_pk_89
theorem am_chk_90 : am_chk 90 = true := by decide +kernel
theorem am_chk_all : ∀ x ∈ ([0, 1, 2, 3, 4, 5, 6, 7, 8, 9, 10, 11, 12, 13, 14, 15, 16, 17, 18, 19, 20, 21, 22, 23, 24, 25, 26, 27, 28, 29, 30, 31, 32, 33, 34, 35, 36, 37, 38, 39, 40, 41, 42, 43, 44, 45, 46, 47, 48, 49, 50, 51, 52, 53, 54, 55, 56, 57, 58, 59, 60, 61, 62, 63, 64, 65, 66, 67, 68, 69, 70, 71, 72, 73, 74, 75, 76, 77, 78, 79, 80, 81, 82, 83, 84, 85, 86, 87, 88, 89, 90] : List Nat), am_chk x = true := List.forall_mem_cons.mpr ⟨am_chk_0, List.forall_mem_cons.mpr ⟨am_chk_1, List.forall_mem_cons.mpr ⟨am_chk_2, List.forall_mem_cons.mpr ⟨am_chk_3, List.forall_mem_cons.mpr ⟨am_chk_4, List.forall_mem_cons.mpr ⟨am_chk_5, List.forall_mem_cons.mpr ⟨am_chk_6, List.forall_mem_cons.mpr ⟨am_chk_7, List.forall_mem_cons.mpr ⟨am_chk_8, List.forall_mem_cons.mpr ⟨am_chk_9, List.forall_mem_cons.mpr ⟨am_chk_10, List.forall_mem_cons.mpr ⟨am_chk_11, List.forall_mem_cons.mpr ⟨am_chk_12, List.forall_mem_cons.mpr ⟨am_chk_13, List.forall_mem_cons.mpr ⟨am_chk_14, List.forall_mem_cons.mpr ⟨am_chk_15, List.forall_mem_cons.mpr ⟨am_chk_16, List.forall_mem_cons.mpr ⟨am_chk_17, List.forall_mem_cons.mpr ⟨am_chk_18, List.forall_mem_cons.mpr ⟨am_chk_19, List.forall_mem_cons.mpr ⟨am_chk_20, List.forall_mem_cons.mpr ⟨am_chk_21, List.forall_mem_cons.mpr ⟨am_chk_22, List.forall_mem_cons.mpr ⟨am_chk_23, List.forall_mem_cons.mpr ⟨am_chk_24, List.forall_mem_cons.mpr ⟨am_chk_25, List.forall_mem_cons.mpr ⟨am_chk_26, List.forall_mem_cons.mpr ⟨am_chk_27, List.forall_mem_cons.mpr ⟨am_chk_28, List.forall_mem_cons.mpr ⟨am_chk_29, List.forall_mem_cons.mpr ⟨am_chk_30, List.forall_mem_cons.mpr ⟨am_chk_31, List.forall_mem_cons.mpr ⟨am_chk_32, List.forall_mem_cons.mpr ⟨am_chk_33, List.forall_mem_cons.mpr ⟨am_chk_34, List.forall_mem_cons.mpr ⟨am_chk_35, List.forall_mem_cons.mpr ⟨am_chk_36, List.forall_mem_cons.mpr ⟨am_chk_37, List.forall_mem_cons.mpr ⟨am_chk_38, List.forall_mem_cons.mpr ⟨am_chk_39, List.forall_mem_cons.mpr ⟨am_chk_40, List.forall_mem_cons.mpr ⟨am_chk_41, List.forall_mem_cons.mpr ⟨am_chk_42, List.forall_mem_cons.mpr ⟨am_chk_43, List.forall_mem_cons.mpr ⟨am_chk_44, List.forall_mem_cons.mpr ⟨am_chk_45, List.forall_mem_cons.mpr ⟨am_chk_46, List.forall_mem_cons.mpr ⟨am_chk_47, List.forall_mem_cons.mpr ⟨am_chk_48, List.forall_mem_cons.mpr ⟨am_chk_49, List.forall_mem_cons.mpr ⟨am_chk_50, List.forall_mem_cons.mpr ⟨am_chk_51, List.forall_mem_cons.mpr ⟨am_chk_52, List.forall_mem_cons.mpr ⟨am_chk_53, List.forall_mem_cons.mpr ⟨am_chk_54, List.forall_mem_cons.mpr ⟨am_chk_55, List.forall_mem_cons.mpr ⟨am_chk_56, List.forall_mem_cons.mpr ⟨am_chk_57, List.forall_mem_cons.mpr ⟨am_chk_58, List.forall_mem_cons.mpr ⟨am_chk_59, List.forall_mem_cons.mpr ⟨am_chk_60, List.forall_mem_cons.mpr ⟨am_chk_61, List.forall_mem_cons.mpr ⟨am_chk_62, List.forall_mem_cons.mpr ⟨am_chk_63, List.forall_mem_cons.mpr ⟨am_chk_64, List.forall_mem_cons.mpr ⟨am_chk_65, List.forall_mem_cons.mpr ⟨am_chk_66, List.forall_mem_cons.mpr ⟨am_chk_67, List.forall_mem_cons.mpr ⟨am_chk_68, List.forall_mem_cons.mpr ⟨am_chk_69, List.forall_mem_cons.mpr ⟨am_chk_70, List.forall_mem_cons.mpr ⟨am_chk_71, List.forall_mem_cons.mpr ⟨am_chk_72, List.forall_mem_cons.mpr ⟨am_chk_73, List.forall_mem_cons.mpr ⟨am_chk_74, List.forall_mem_cons.mpr ⟨am_chk_75, List.forall_mem_cons.mpr ⟨am_chk_76, List.forall_mem_cons.mpr ⟨am_chk_77, List.forall_mem_cons.mpr ⟨am_chk_78, List.forall_mem_cons.mpr ⟨am_chk_79, List.forall_mem_cons.mpr ⟨am_chk_80, List.forall_mem_cons.mpr ⟨am_chk_81, List.forall_mem_cons.mpr ⟨am_chk_82, List.forall_mem_cons.mpr ⟨am_chk_83, List.forall_mem_cons.mpr ⟨am_chk_84, List.forall_mem_cons.mpr ⟨am_chk_85, List.forall_mem_cons.mpr ⟨am_chk_86, List.forall_mem_cons.mpr ⟨am_chk_87, List.forall_mem_cons.mpr ⟨am_chk_88, List.forall_mem_cons.mpr ⟨am_chk_89, List.forall_mem_cons.mpr ⟨am_chk_90, fun _ h => absurd h List.not_mem_nil⟩⟩⟩⟩⟩⟩⟩⟩⟩⟩⟩⟩⟩⟩⟩⟩⟩⟩⟩⟩⟩⟩⟩⟩⟩⟩⟩⟩⟩⟩⟩⟩⟩⟩⟩⟩⟩⟩⟩⟩⟩⟩⟩⟩⟩⟩⟩⟩⟩⟩⟩⟩⟩⟩⟩⟩⟩⟩⟩⟩⟩⟩⟩⟩⟩⟩⟩⟩⟩⟩⟩⟩⟩⟩⟩⟩⟩⟩⟩⟩⟩⟩⟩⟩⟩⟩⟩⟩⟩⟩⟩
theorem am_pg_ok {x : Nat} {w : MethodName} {cc : ByteArray} {mL : Nat} {ret : Option FieldType} (h : am_mi x = some (w, cc, mL, ret)) {pc : Nat} {q : am_E} (hm : (pc, q) ∈ am_pg x) : am_okE w.cls cc mL (decide (w.name = "<init>")) ret pc q = true := by
  have hx : x ∈ ([0, 1, 2, 3, 4, 5, 6, 7, 8, 9, 10, 11, 12, 13, 14, 15, 16, 17, 18, 19, 20, 21, 22, 23, 24, 25, 26, 27, 28, 29, 30, 31, 32, 33, 34, 35, 36, 37, 38, 39, 40, 41, 42, 43, 44, 45, 46, 47, 48, 49, 50, 51, 52, 53, 54, 55, 56, 57, 58, 59, 60, 61, 62, 63, 64, 65, 66, 67, 68, 69, 70, 71, 72, 73, 74, 75, 76, 77, 78, 79, 80, 81, 82, 83, 84, 85, 86, 87, 88, 89, 90] : List Nat) := by
    have hlt := am_mi_lt h
    have h9 : x ∈ List.range 91 := List.mem_range.mpr hlt
    exact h9
  have h1 := am_chk_all x hx
  unfold am_chk at h1
  rw [h] at h1
  exact List.all_eq_true.mp h1 _ hm
end
section
/-! SOUND: a run of the abstract machine is a run of the machine -/
section AMT
variable {l : Launch} {D : va_G} {dA : Nat → ClassId} {B : Nat}
theorem am_lookup_mem {α : Type} : ∀ {xs : List (Nat × α)} {k : Nat} {v : α}, xs.lookup k = some v → (k, v) ∈ xs
  | [], k, v, h => by cases h
  | (a, b) :: xs, k, v, h => by
    rw [List.lookup_cons] at h
    cases hk : k == a with
    | true =>
      rw [hk] at h
      cases h
      rw [eq_of_beq hk]
      exact List.mem_cons_self
    | false =>
      rw [hk] at h
      exact List.mem_cons_of_mem _ (am_lookup_mem h)
theorem am_W_hf {n d mid pc : Nat} {lc : am_Ls} {st : am_Sk} {h hf : am_H} {rf : Option am_V} (H : am_W n d mid pc lc st h (fun r h' => r = rf ∧ h' = hf)) : am_C h ≤ am_C hf ∧ am_S h ≤ am_S hf := by
  obtain ⟨r, h', ⟨-, rfl⟩, q, -⟩ := am_W_ex H
  exact q
theorem am_en_ok {mid mL : Nat} {as : am_Sk} (hml : am_ml mid = mL) (hsz : (as.map am_cat).sum ≤ mL) : ∃ ls : Array Slot, (∀ m : MethodId, entryFrame m (as.map am_v2).toArray mL = F0 m 0 ls []) ∧ am_Lk ls mL (am_en mid as) := by
  have hlen : ∀ vs : am_Sk, (vs.flatMap fun v => if am_cat v = 2 then [some v, none] else [some v]).length = (vs.map am_cat).sum := by
    intro vs
    induction vs with
    | nil => rfl
    | cons v vs ih =>
      rw [List.flatMap_cons, List.length_append, ih, List.map_cons, List.sum_cons]
      congr 1
      rcases v with a | a | a <;> rfl
  have hsl : ∀ vs : am_Sk, (lg_sl (vs.map am_v2)).length = (vs.map am_cat).sum := by
    intro vs
    induction vs with
    | nil => rfl
    | cons v vs ih =>
      have e1 : lg_sl ((v :: vs).map am_v2) = (if (am_v2 v).category = 2 then [Slot.val (am_v2 v), .second] else [.val (am_v2 v)]) ++ lg_sl (vs.map am_v2) := by
        simp [lg_sl, List.flatMap_cons]
      rw [e1, List.length_append, ih, List.map_cons, List.sum_cons, am_cat_v2]
      congr 1
      rcases v with a | a | a <;> rfl
  refine ⟨_, fun m => lg_entry_eq m _ _, ?_, ?_⟩
  · unfold am_en
    rw [List.length_append, List.length_replicate, hlen, hml]
    omega
  · have hh := lv_entry (as.map am_v2) (n := mL) (by rw [hsl]; exact hsz)
    refine ⟨hh.1, hh.2.1, fun q hq => ?_⟩
    obtain ⟨k, w⟩ := q
    obtain ⟨v, hv, rfl⟩ := am_lst_mem.mp hq
    refine hh.2.2 _ ?_
    unfold am_en at hv
    rcases Nat.lt_or_ge k (as.flatMap fun v => if am_cat v = 2 then [some v, none] else [some v]).length with hk | hk
    · rw [am_gA hk] at hv
      rcases am_en_get as 0 [] rfl k v (by simpa using hv) with q | q
      · simp at q
      · exact q
    · rw [am_gB hk] at hv
      rw [List.getD_eq_getElem?_getD, List.getElem?_replicate] at hv
      split at hv <;> cases hv
def am_Snd (l : Launch) (D : va_G) (dA : Nat → ClassId) (B n : Nat) : Prop :=
  ∀ {d mid : Nat} {y : MethodName} {cc : ByteArray} {mL : Nat} {ret : Option FieldType} (_ : am_mi mid = some (y, cc, mL, ret)) {p : Program} {e : Env} {s : State} {m : MethodId} {args : Array Value} {below : List Frame} {meth : Method} {c : Code} (_ : am_Fx p s m args meth c D dA B y.cls cc mL (decide (y.name = "<init>"))) (_ : meth.sig.returnType = ret) (_ : meth.locks = false) {c0 s0 : Nat} {rf : Option am_V} {hf : am_H} {pc : Nat} {lc : am_Ls} {st : am_Sk} {h : am_H},
    am_W n d mid pc lc st h (fun r h' => r = rf ∧ h' = hf) → c0 ≤ am_C h → s0 ≤ am_S h → am_G p l e (am_rm d (am_C hf - c0) (am_S hf - s0)) s m args below meth c (MQ below (am_Qb D dA B rf hf) args s (am_C hf - c0) (am_S hf - s0) (fun q => B ≤ q)) D dA B mL c0 s0 pc lc st h
theorem am_MX_of {n : Nat} (hS : am_Snd l D dA B n) {d mid : Nat} {as : am_Sk} {h hf : am_H} {rf : Option am_V} (hsz : (as.map am_cat).sum ≤ am_ml mid) (hm0 : ¬ mid = 0) (H : am_W n d mid 0 (am_en mid as) [] h (fun r h' => r = rf ∧ h' = hf)) : am_MX l D dA B d mid as h rf hf := by
  intro y cc mL ret hmi
  obtain ⟨hpl, hml⟩ := am_mi_ok hmi hm0
  refine Met.ofW (cc := cc) (maxL := mL) (ret := ret) hpl rfl ?_
  intro p e s m args below meth c s₁ B9 hml9 hv
  obtain ⟨rfl, hO, hB, hKw⟩ := hv
  have hts := atoms_spec (ws := Cond.code y cc mL ret :: am_Tg) B9.pre
  obtain ⟨ls, hen, hl⟩ := am_en_ok (mid := mid) (mL := mL) (as := as) hml (by rw [← hml]; exact hsz)
  rw [hen m]
  exact hS hmi (p := p) (e := e) (below := below) ⟨B9.exec, B9.bytes, hml9, findClass_of_methodNamed B9.named, fun w hw => hts w (List.mem_cons_of_mem _ hw), hKw, fun hi => (name_of_methodNamed B9.named B9.method).1.trans (of_decide_eq_true hi), hB⟩ B9.returns B9.notSynchronized H (Nat.le_refl _) (Nat.le_refl _) _ _ _ _ _ hO va_S.rf hl (Nat.zero_add _) (Nat.zero_add _)
theorem am_W0 {n d pc : Nat} {lc : am_Ls} {st : am_Sk} {h : am_H} {Q : Option am_V → am_H → Prop} (H : am_W n d 0 pc lc st h Q) : False := by
  cases n with
  | zero => exact H
  | succ n =>
    simp only [am_W] at H
    have e : am_at 0 pc = none := rfl
    rw [e] at H
    exact H
/-- what is left to the contract of Arrays.copyOf -/
def am_X9 (l : Launch) (D : va_G) (dA : Nat → ClassId) (B : Nat) : Prop := ∀ (d m : Nat) (as : am_Sk) (h : am_H) (r : Option am_V) (h1 : am_H), am_isX m = true → am_ext d as h (fun r' h' => r' = r ∧ h' = h1) → am_MX l D dA B d m as h r h1
theorem am_sound (hX9 : am_X9 l D dA B) : ∀ n, am_Snd l D dA B n := by
  intro n
  induction n with
  | zero => intro d mid y cc mL ret hmi p e s m args below meth c F hr hlk c0 s0 rf hf pc lc st h H; exact H.elim
  | succ n ih =>
    intro d mid y cc mL ret hmi p e s m args below meth c F hr hlk c0 s0 rf hf pc lc st h H hc0 hs0
    have hCf := am_W_hf H
    simp only [am_W] at H
    cases hq : am_at mid pc with
    | none => rw [hq] at H; exact H.elim
    | some q =>
      rw [hq] at H
      dsimp only at H
      have hok := am_pg_ok hmi (am_lookup_mem hq)
      rcases am_det H with ⟨pc', l', st', h', H1, hc, k⟩ | ⟨r, ⟨rfl, rfl⟩, hiR, -⟩ | ⟨m', as, rest, H1, hsz, k⟩
      · refine am_step F ⟨by show 1 ≤ d + 1; omega, by show 23 ≤ 36 * d + 30; omega⟩ hok (k _ _ _ ?_)
        have hb := am_W_hf H1
        refine ⟨?_, ?_, ih hmi F hr hlk H1 (Nat.le_trans hc0 hc.1) (Nat.le_trans hs0 hc.2)⟩
        · show _ ≤ c0 + (am_C hf - c0); omega
        · show _ ≤ s0 + (am_S hf - s0); omega
      · obtain ⟨hx, hb, hml, hown, hts, hKw, hini, hB⟩ := F
        intro HH locs ls cells slots hO hS hl hc hs
        obtain rfl : cells = am_C h - c0 := by omega
        obtain rfl : slots = am_S h - s0 := by omega
        obtain ⟨i, x, y9, z, u, cI, cJ, ts⟩ := q
        have hQ : ∀ t : State, t.heap = HH → s.WarmedH t.vm → am_Qb D dA B r h args s (.returned (r.map am_v2)) t := fun t ht hW => ⟨rfl, by rw [ht]; exact am_Ok_moved hW.alike hO, hS.F ht⟩
        rcases hiR with ⟨rfl, v, rfl, rfl, hu⟩ | ⟨rfl, v, rfl, rfl⟩ | ⟨rfl, v, rfl, rfl⟩ | ⟨rfl, rfl, rfl⟩
        · simp only [am_okE, Bool.and_eq_true, decide_eq_true_eq] at hok
          obtain ⟨hd, ⟨hu1, hrt⟩ | ⟨hu1, hrt⟩⟩ := hok
          · have hv : v = 0 ∨ v = 1 := by
              rcases hu with q | q
              · rw [show u = 0 from q] at hu1; cases hu1
              · exact q
            refine W.zret (ty := .boolean) hx hb (hr.trans hrt) ?_ hQ hS.2.2 hd
            rcases hv with rfl | rfl <;> rfl
          · exact W.iret hx hb (hr.trans hrt) hQ hS.2.2 hd
        · simp only [am_okE, Bool.and_eq_true, decide_eq_true_eq] at hok
          exact W.lret hx hb (hr.trans hok.2) hQ hS.2.2 hok.1
        · simp only [am_okE, Bool.and_eq_true, decide_eq_true_eq] at hok
          obtain ⟨hd, hrt⟩ := hok
          obtain ⟨rt, hrt1, hrt2⟩ : ∃ rt, ret = some rt ∧ ((∃ n, rt = .object n) ∨ ∃ t, rt = .array t) := by
            unfold am_uk at hrt
            split at hrt
            · cases hrt
            · cases hrt
            · exact ⟨_, rfl, Or.inl ⟨_, rfl⟩⟩
            · exact ⟨_, rfl, Or.inr ⟨_, rfl⟩⟩
            · cases hrt
          refine W.aret hx hb (hr.trans hrt1) hrt2 ?_ hQ hS.2.2 hd
          show va_rf (am_o v) = .null ∨ ∃ a, va_rf (am_o v) = .ref a
          cases v with
          | zero => exact Or.inl rfl
          | succ a => exact Or.inr ⟨a, rfl⟩
        · simp only [am_okE, Bool.and_eq_true, decide_eq_true_eq] at hok
          exact W.vret hx hb (hr.trans hok.2) hQ hS.2.2 hok.1
      · refine am_step F ⟨by show 1 ≤ d + 1; omega, by show 23 ≤ 36 * d + 30; omega⟩ hok (k _ _ _ ?_)
        cases d with
        | zero => exact H1.elim
        | succ d =>
          cases hX : am_isX m' with
          | true =>
            simp only [hX] at H1
            obtain ⟨r1, h1, q1, q2, k2⟩ := am_ext_x H1
            obtain ⟨st', a1, a2⟩ := am_rk_x q1
            have hb := am_W_hf a1
            refine ⟨d, r1, h1, hX9 d m' as h r1 h1 hX (k2 _ _ (Nat.le_refl _) ⟨rfl, rfl⟩), ⟨by show _ ≤ d + 1 + 1; omega, by show _ ≤ 36 * (d + 1) + 30; omega⟩, ⟨q2.1, q2.2, ?_, ?_⟩, a2 _ (ih hmi F hr hlk a1 (Nat.le_trans hc0 q2.1) (Nat.le_trans hs0 q2.2))⟩
            · show _ ≤ c0 + (am_C hf - c0); omega
            · show _ ≤ s0 + (am_S hf - s0); omega
          | false =>
            simp only [hX] at H1
            obtain ⟨r1, h1, q1, q2, q3⟩ := am_W_ex H1
            obtain ⟨st', a1, a2⟩ := am_rk_x q1
            have hb := am_W_hf a1
            have hm0 : ¬ m' = 0 := fun q => by subst q; exact am_W0 q3
            refine ⟨d, r1, h1, am_MX_of ih hsz hm0 q3, ⟨by show _ ≤ d + 1 + 1; omega, by show _ ≤ 36 * (d + 1) + 30; omega⟩, ⟨q2.1, q2.2, ?_, ?_⟩, a2 _ (ih hmi F hr hlk a1 (Nat.le_trans hc0 q2.1) (Nat.le_trans hs0 q2.2))⟩
            · show _ ≤ c0 + (am_C hf - c0); omega
            · show _ ≤ s0 + (am_S hf - s0); omega
end AMT
end
section
/-! READING a heap behind a write -/
theorem hp_T_sI (h : am_H) (f a : Nat) (v : Int32) : am_T (am_sI h f a v) = am_T h := rfl
theorem hp_N_sI (h : am_H) (f a : Nat) (v : Int32) : am_N (am_sI h f a v) = am_N h := rfl
theorem hp_I_sI (h : am_H) (f a : Nat) (v : Int32) (g b : Nat) : am_I (am_sI h f a v) g b = if g = f ∧ b = a then v else am_I h g b := rfl
theorem hp_J_sI (h : am_H) (f a : Nat) (v : Int32) : am_J (am_sI h f a v) = am_J h := rfl
theorem hp_R_sI (h : am_H) (f a : Nat) (v : Int32) : am_R (am_sI h f a v) = am_R h := rfl
theorem hp_aI_sI (h : am_H) (f a : Nat) (v : Int32) : am_aI (am_sI h f a v) = am_aI h := rfl
theorem hp_aJ_sI (h : am_H) (f a : Nat) (v : Int32) : am_aJ (am_sI h f a v) = am_aJ h := rfl
theorem hp_aR_sI (h : am_H) (f a : Nat) (v : Int32) : am_aR (am_sI h f a v) = am_aR h := rfl
theorem hp_Z_sI (h : am_H) (f a : Nat) (v : Int32) : am_Z (am_sI h f a v) = am_Z h := rfl
theorem hp_C_sI (h : am_H) (f a : Nat) (v : Int32) : am_C (am_sI h f a v) = am_C h := rfl
theorem hp_S_sI (h : am_H) (f a : Nat) (v : Int32) : am_S (am_sI h f a v) = am_S h := rfl
theorem hp_T_sJ (h : am_H) (f a : Nat) (v : Int64) : am_T (am_sJ h f a v) = am_T h := rfl
theorem hp_N_sJ (h : am_H) (f a : Nat) (v : Int64) : am_N (am_sJ h f a v) = am_N h := rfl
theorem hp_I_sJ (h : am_H) (f a : Nat) (v : Int64) : am_I (am_sJ h f a v) = am_I h := rfl
theorem hp_J_sJ (h : am_H) (f a : Nat) (v : Int64) (g b : Nat) : am_J (am_sJ h f a v) g b = if g = f ∧ b = a then v else am_J h g b := rfl
theorem hp_R_sJ (h : am_H) (f a : Nat) (v : Int64) : am_R (am_sJ h f a v) = am_R h := rfl
theorem hp_aI_sJ (h : am_H) (f a : Nat) (v : Int64) : am_aI (am_sJ h f a v) = am_aI h := rfl
theorem hp_aJ_sJ (h : am_H) (f a : Nat) (v : Int64) : am_aJ (am_sJ h f a v) = am_aJ h := rfl
theorem hp_aR_sJ (h : am_H) (f a : Nat) (v : Int64) : am_aR (am_sJ h f a v) = am_aR h := rfl
theorem hp_Z_sJ (h : am_H) (f a : Nat) (v : Int64) : am_Z (am_sJ h f a v) = am_Z h := rfl
theorem hp_C_sJ (h : am_H) (f a : Nat) (v : Int64) : am_C (am_sJ h f a v) = am_C h := rfl
theorem hp_S_sJ (h : am_H) (f a : Nat) (v : Int64) : am_S (am_sJ h f a v) = am_S h := rfl
theorem hp_T_sR (h : am_H) (f a v : Nat) : am_T (am_sR h f a v) = am_T h := rfl
theorem hp_N_sR (h : am_H) (f a v : Nat) : am_N (am_sR h f a v) = am_N h := rfl
theorem hp_I_sR (h : am_H) (f a v : Nat) : am_I (am_sR h f a v) = am_I h := rfl
theorem hp_J_sR (h : am_H) (f a v : Nat) : am_J (am_sR h f a v) = am_J h := rfl
theorem hp_R_sR (h : am_H) (f a v : Nat) (g b : Nat) : am_R (am_sR h f a v) g b = if g = f ∧ b = a then v else am_R h g b := rfl
theorem hp_aI_sR (h : am_H) (f a v : Nat) : am_aI (am_sR h f a v) = am_aI h := rfl
theorem hp_aJ_sR (h : am_H) (f a v : Nat) : am_aJ (am_sR h f a v) = am_aJ h := rfl
theorem hp_aR_sR (h : am_H) (f a v : Nat) : am_aR (am_sR h f a v) = am_aR h := rfl
theorem hp_Z_sR (h : am_H) (f a v : Nat) : am_Z (am_sR h f a v) = am_Z h := rfl
theorem hp_C_sR (h : am_H) (f a v : Nat) : am_C (am_sR h f a v) = am_C h := rfl
theorem hp_S_sR (h : am_H) (f a v : Nat) : am_S (am_sR h f a v) = am_S h := rfl
theorem hp_T_xI (h : am_H) (f a : Nat) (v : Int32) : am_T (am_xI h f a v) = am_T h := rfl
theorem hp_N_xI (h : am_H) (f a : Nat) (v : Int32) : am_N (am_xI h f a v) = am_N h := rfl
theorem hp_I_xI (h : am_H) (f a : Nat) (v : Int32) : am_I (am_xI h f a v) = am_I h := rfl
theorem hp_J_xI (h : am_H) (f a : Nat) (v : Int32) : am_J (am_xI h f a v) = am_J h := rfl
theorem hp_R_xI (h : am_H) (f a : Nat) (v : Int32) : am_R (am_xI h f a v) = am_R h := rfl
theorem hp_aI_xI (h : am_H) (f a : Nat) (v : Int32) (g b : Nat) : am_aI (am_xI h f a v) g b = if g = f ∧ b = a then v else am_aI h g b := rfl
theorem hp_aJ_xI (h : am_H) (f a : Nat) (v : Int32) : am_aJ (am_xI h f a v) = am_aJ h := rfl
theorem hp_aR_xI (h : am_H) (f a : Nat) (v : Int32) : am_aR (am_xI h f a v) = am_aR h := rfl
theorem hp_Z_xI (h : am_H) (f a : Nat) (v : Int32) : am_Z (am_xI h f a v) = am_Z h := rfl
theorem hp_C_xI (h : am_H) (f a : Nat) (v : Int32) : am_C (am_xI h f a v) = am_C h := rfl
theorem hp_S_xI (h : am_H) (f a : Nat) (v : Int32) : am_S (am_xI h f a v) = am_S h := rfl
theorem hp_T_xJ (h : am_H) (f a : Nat) (v : Int64) : am_T (am_xJ h f a v) = am_T h := rfl
theorem hp_N_xJ (h : am_H) (f a : Nat) (v : Int64) : am_N (am_xJ h f a v) = am_N h := rfl
theorem hp_I_xJ (h : am_H) (f a : Nat) (v : Int64) : am_I (am_xJ h f a v) = am_I h := rfl
theorem hp_J_xJ (h : am_H) (f a : Nat) (v : Int64) : am_J (am_xJ h f a v) = am_J h := rfl
theorem hp_R_xJ (h : am_H) (f a : Nat) (v : Int64) : am_R (am_xJ h f a v) = am_R h := rfl
theorem hp_aI_xJ (h : am_H) (f a : Nat) (v : Int64) : am_aI (am_xJ h f a v) = am_aI h := rfl
theorem hp_aJ_xJ (h : am_H) (f a : Nat) (v : Int64) (g b : Nat) : am_aJ (am_xJ h f a v) g b = if g = f ∧ b = a then v else am_aJ h g b := rfl
theorem hp_aR_xJ (h : am_H) (f a : Nat) (v : Int64) : am_aR (am_xJ h f a v) = am_aR h := rfl
theorem hp_Z_xJ (h : am_H) (f a : Nat) (v : Int64) : am_Z (am_xJ h f a v) = am_Z h := rfl
theorem hp_C_xJ (h : am_H) (f a : Nat) (v : Int64) : am_C (am_xJ h f a v) = am_C h := rfl
theorem hp_S_xJ (h : am_H) (f a : Nat) (v : Int64) : am_S (am_xJ h f a v) = am_S h := rfl
theorem hp_T_xR (h : am_H) (f a v : Nat) : am_T (am_xR h f a v) = am_T h := rfl
theorem hp_N_xR (h : am_H) (f a v : Nat) : am_N (am_xR h f a v) = am_N h := rfl
theorem hp_I_xR (h : am_H) (f a v : Nat) : am_I (am_xR h f a v) = am_I h := rfl
theorem hp_J_xR (h : am_H) (f a v : Nat) : am_J (am_xR h f a v) = am_J h := rfl
theorem hp_R_xR (h : am_H) (f a v : Nat) : am_R (am_xR h f a v) = am_R h := rfl
theorem hp_aI_xR (h : am_H) (f a v : Nat) : am_aI (am_xR h f a v) = am_aI h := rfl
theorem hp_aJ_xR (h : am_H) (f a v : Nat) : am_aJ (am_xR h f a v) = am_aJ h := rfl
theorem hp_aR_xR (h : am_H) (f a v : Nat) (g b : Nat) : am_aR (am_xR h f a v) g b = if g = f ∧ b = a then v else am_aR h g b := rfl
theorem hp_Z_xR (h : am_H) (f a v : Nat) : am_Z (am_xR h f a v) = am_Z h := rfl
theorem hp_C_xR (h : am_H) (f a v : Nat) : am_C (am_xR h f a v) = am_C h := rfl
theorem hp_S_xR (h : am_H) (f a v : Nat) : am_S (am_xR h f a v) = am_S h := rfl
theorem hp_T_nO (h : am_H) (c n : Nat) (b : Nat) : am_T (am_nO h c n) b = if b = am_Z h + 1 then 10 + c else am_T h b := rfl
theorem hp_N_nO (h : am_H) (c n : Nat) : am_N (am_nO h c n) = am_N h := rfl
theorem hp_I_nO (h : am_H) (c n : Nat) (g b : Nat) : am_I (am_nO h c n) g b = if b = am_Z h + 1 then 0 else am_I h g b := rfl
theorem hp_J_nO (h : am_H) (c n : Nat) (g b : Nat) : am_J (am_nO h c n) g b = if b = am_Z h + 1 then 0 else am_J h g b := rfl
theorem hp_R_nO (h : am_H) (c n : Nat) (g b : Nat) : am_R (am_nO h c n) g b = if b = am_Z h + 1 then 0 else am_R h g b := rfl
theorem hp_aI_nO (h : am_H) (c n : Nat) : am_aI (am_nO h c n) = am_aI h := rfl
theorem hp_aJ_nO (h : am_H) (c n : Nat) : am_aJ (am_nO h c n) = am_aJ h := rfl
theorem hp_aR_nO (h : am_H) (c n : Nat) : am_aR (am_nO h c n) = am_aR h := rfl
theorem hp_Z_nO (h : am_H) (c n : Nat) : am_Z (am_nO h c n) = am_Z h + 1 := rfl
theorem hp_C_nO (h : am_H) (c n : Nat) : am_C (am_nO h c n) = am_C h + 1 := rfl
theorem hp_S_nO (h : am_H) (c n : Nat) : am_S (am_nO h c n) = am_S h + n := rfl
theorem hp_T_nA (h : am_H) (c n : Nat) (b : Nat) : am_T (am_nA h c n) b = if b = am_Z h + 1 then c else am_T h b := rfl
theorem hp_N_nA (h : am_H) (c n : Nat) (b : Nat) : am_N (am_nA h c n) b = if b = am_Z h + 1 then n else am_N h b := rfl
theorem hp_I_nA (h : am_H) (c n : Nat) : am_I (am_nA h c n) = am_I h := rfl
theorem hp_J_nA (h : am_H) (c n : Nat) : am_J (am_nA h c n) = am_J h := rfl
theorem hp_R_nA (h : am_H) (c n : Nat) : am_R (am_nA h c n) = am_R h := rfl
theorem hp_aI_nA (h : am_H) (c n : Nat) (b j : Nat) : am_aI (am_nA h c n) b j = if b = am_Z h + 1 then 0 else am_aI h b j := rfl
theorem hp_aJ_nA (h : am_H) (c n : Nat) (b j : Nat) : am_aJ (am_nA h c n) b j = if b = am_Z h + 1 then 0 else am_aJ h b j := rfl
theorem hp_aR_nA (h : am_H) (c n : Nat) (b j : Nat) : am_aR (am_nA h c n) b j = if b = am_Z h + 1 then 0 else am_aR h b j := rfl
theorem hp_Z_nA (h : am_H) (c n : Nat) : am_Z (am_nA h c n) = am_Z h + 1 := rfl
theorem hp_C_nA (h : am_H) (c n : Nat) : am_C (am_nA h c n) = am_C h + 1 := rfl
theorem hp_S_nA (h : am_H) (c n : Nat) : am_S (am_nA h c n) = am_S h + n := rfl
end
section
/-! BLOCKS, written by program: the run from a place comes to Q if this formula holds -/
set_option maxRecDepth 100000 in
theorem bk_X_init {d : Nat} {l0 : Nat} {l1 : Int32} {h : am_H} {Q : Option am_V → am_H → Prop} (H : ¬ l0 = 0 ∧ ((l1 < (1 : Int32)) → am_P d mi_X_init 20 [some (.inr (.inr l0)), some (.inl l1), none, none] [.inl (4 : Int32)] h Q) ∧ (¬ (l1 < (1 : Int32)) → (((16 : Int32) < l1) → am_P d mi_X_init 20 [some (.inr (.inr l0)), some (.inl l1), none, none] [.inl (4 : Int32)] h Q) ∧ (¬ ((16 : Int32) < l1) → am_P d mi_X_init 20 [some (.inr (.inr l0)), some (.inl l1), none, none] [.inl l1] h Q))) : am_PC (d + 1) mi_X_init [.inr (.inr l0), .inl l1] h Q := am_B_P (k := 12) (stops := [20, 31]) (d := d) (mid := mi_X_init) (pc := 0) (l := [some (.inr (.inr l0)), some (.inl l1), none, none]) (st := []) (h := h) (Q := Q) H
set_option maxRecDepth 100000 in
theorem bk_X_init_20 {d : Nat} {l0 : Nat} {s0 : Int32} {y1 y2 y3 : Option am_V} {h : am_H} {Q : Option am_V → am_H → Prop} (H : (¬ s0 < 0) ∧ s0.toNatClampNeg ≤ 1000000 ∧ (∀ h1 : am_H, h1 = am_nA h 100 s0.toNatClampNeg → am_T h1 l0 = 10 ∧ (∀ h2 : am_H, h2 = am_sR h1 0 l0 (am_Z h + 1) → am_P d mi_X_init 31 [some (.inr (.inr l0)), none, some (.inl s0), some (.inl (0 : Int32))] [] h2 Q))) : am_P d mi_X_init 20 [some (.inr (.inr l0)), y1, y2, y3] [.inl s0] h Q := am_P_le (l := [some (.inr (.inr l0)), none, none, none]) ⟨Or.inr rfl, Or.inl rfl, Or.inl rfl, Or.inl rfl, trivial⟩ (am_B_P (k := 9) (stops := [20, 31]) H)
set_option maxRecDepth 100000 in
theorem bk_X_init_31 {d : Nat} {l0 : Nat} {l2 : Int32} {l3 : Int32} {y1 : Option am_V} {h : am_H} {Q : Option am_V → am_H → Prop} (H : ((l2 ≤ l3) → (¬ (1001 : Int32) < 0) ∧ (1001 : Int32).toNatClampNeg ≤ 1000000 ∧ (∀ h1 : am_H, h1 = am_nA h 102 (1001 : Int32).toNatClampNeg → am_T h1 l0 = 10 ∧ (∀ h2 : am_H, h2 = am_sR h1 1 l0 (am_Z h + 1) → (∀ h3 : am_H, h3 = am_nO h2 6 3 → 1 = 1 ∧ ¬ (am_Z h2 + 1) = 0 ∧ am_PC d mi_L_init [.inr (.inr (am_Z h2 + 1))] h3 (fun r4 h5 => r4 = none ∧ am_T h5 l0 = 10 ∧ (∀ h6 : am_H, h6 = am_sR h5 2 l0 (am_Z h2 + 1) → (¬ (4 : Int32) < 0) ∧ (4 : Int32).toNatClampNeg ≤ 1000000 ∧ (∀ h7 : am_H, h7 = am_nA h6 1 (4 : Int32).toNatClampNeg → am_T h7 l0 = 10 ∧ (∀ h8 : am_H, h8 = am_sR h7 3 l0 (am_Z h6 + 1) → (¬ (101 : Int32) < 0) ∧ (101 : Int32).toNatClampNeg ≤ 1000000 ∧ (∀ h9 : am_H, h9 = am_nA h8 1 (101 : Int32).toNatClampNeg → am_T h9 l0 = 10 ∧ (∀ h10 : am_H, h10 = am_sR h9 4 l0 (am_Z h8 + 1) → (¬ (101 : Int32) < 0) ∧ (101 : Int32).toNatClampNeg ≤ 1000000 ∧ (∀ h11 : am_H, h11 = am_nA h10 2 (101 : Int32).toNatClampNeg → am_T h11 l0 = 10 ∧ (∀ h12 : am_H, h12 = am_sR h11 5 l0 (am_Z h10 + 1) → am_T h12 l0 = 10 ∧ (∀ h13 : am_H, h13 = am_sJ h12 7 l0 (1000 : Int64) → Q none h13))))))))))))) ∧ (¬ (l2 ≤ l3) → am_T h l0 = 10 ∧ (∀ h14 : am_H, h14 = am_nO h 1 9 → 1 = 1 ∧ ¬ (am_Z h + 1) = 0 ∧ am_PC d mi_P_init [.inr (.inr (am_Z h + 1)), .inl (l3 + (1 : Int32))] h14 (fun r15 h16 => r15 = none ∧ 100 ≤ am_T h16 (am_R h 0 l0) ∧ vp_in l3 (am_N h16 (am_R h 0 l0)) ∧ ((am_Z h + 1) = 0 ∨ (10 ≤ am_T h16 (am_Z h + 1) ∧ am_asg (am_T h16 (am_R h 0 l0) - 100) (am_T h16 (am_Z h + 1) - 10) = true)) ∧ (∀ h17 : am_H, h17 = am_xR h16 (am_R h 0 l0) l3.toNatClampNeg (am_Z h + 1) → am_P d mi_X_init 31 [some (.inr (.inr l0)), none, some (.inl l2), some (.inl (l3 + (1 : Int32)))] [] h17 Q))))) : am_P d mi_X_init 31 [some (.inr (.inr l0)), y1, some (.inl l2), some (.inl l3)] [] h Q := am_P_le (l := [some (.inr (.inr l0)), none, some (.inl l2), some (.inl l3)]) ⟨Or.inr rfl, Or.inl rfl, Or.inr rfl, Or.inr rfl, trivial⟩ (am_B_P (k := 29) (stops := [20, 31]) H)
set_option maxRecDepth 100000 in
theorem bk_P_init {d : Nat} {l0 : Nat} {l1 : Int32} {h : am_H} {Q : Option am_V → am_H → Prop} (H : ¬ l0 = 0 ∧ am_T h l0 = 11 ∧ (∀ h1 : am_H, h1 = am_sI h 32 l0 l1 → (¬ (8 : Int32) < 0) ∧ (8 : Int32).toNatClampNeg ≤ 1000000 ∧ (∀ h2 : am_H, h2 = am_nA h1 101 (8 : Int32).toNatClampNeg → am_T h2 l0 = 11 ∧ (∀ h3 : am_H, h3 = am_sR h2 33 l0 (am_Z h1 + 1) → am_P d mi_P_init 20 [some (.inr (.inr l0)), some (.inl l1), some (.inl (0 : Int32))] [] h3 Q)))) : am_PC (d + 1) mi_P_init [.inr (.inr l0), .inl l1] h Q := am_B_P (k := 13) (stops := [20]) (d := d) (mid := mi_P_init) (pc := 0) (l := [some (.inr (.inr l0)), some (.inl l1), none]) (st := []) (h := h) (Q := Q) H
set_option maxRecDepth 100000 in
theorem bk_P_init_20 {d : Nat} {l0 : Nat} {l2 : Int32} {y1 : Option am_V} {h : am_H} {Q : Option am_V → am_H → Prop} (H : (((8 : Int32) ≤ l2) → Q none h) ∧ (¬ ((8 : Int32) ≤ l2) → am_T h l0 = 11 ∧ (∀ h1 : am_H, h1 = am_nO h 2 10 → 1 = 1 ∧ ¬ (am_Z h + 1) = 0 ∧ am_PC d mi_K_init [.inr (.inr (am_Z h + 1))] h1 (fun r2 h3 => r2 = none ∧ 100 ≤ am_T h3 (am_R h 33 l0) ∧ vp_in l2 (am_N h3 (am_R h 33 l0)) ∧ ((am_Z h + 1) = 0 ∨ (10 ≤ am_T h3 (am_Z h + 1) ∧ am_asg (am_T h3 (am_R h 33 l0) - 100) (am_T h3 (am_Z h + 1) - 10) = true)) ∧ (∀ h4 : am_H, h4 = am_xR h3 (am_R h 33 l0) l2.toNatClampNeg (am_Z h + 1) → am_P d mi_P_init 20 [some (.inr (.inr l0)), none, some (.inl (l2 + (1 : Int32)))] [] h4 Q))))) : am_P d mi_P_init 20 [some (.inr (.inr l0)), y1, some (.inl l2)] [] h Q := am_P_le (l := [some (.inr (.inr l0)), none, some (.inl l2)]) ⟨Or.inr rfl, Or.inl rfl, Or.inr rfl, trivial⟩ (am_B_P (k := 14) (stops := [20]) H)
set_option maxRecDepth 100000 in
theorem bk_K_init {d : Nat} {l0 : Nat} {h : am_H} {Q : Option am_V → am_H → Prop} (H : ¬ l0 = 0 ∧ (¬ (16 : Int32) < 0) ∧ (16 : Int32).toNatClampNeg ≤ 1000000 ∧ (∀ h1 : am_H, h1 = am_nA h 1 (16 : Int32).toNatClampNeg → am_T h1 l0 = 12 ∧ (∀ h2 : am_H, h2 = am_sR h1 64 l0 (am_Z h + 1) → (¬ (16 : Int32) < 0) ∧ (16 : Int32).toNatClampNeg ≤ 1000000 ∧ (∀ h3 : am_H, h3 = am_nA h2 1 (16 : Int32).toNatClampNeg → am_T h3 l0 = 12 ∧ (∀ h4 : am_H, h4 = am_sR h3 65 l0 (am_Z h2 + 1) → (¬ (8 : Int32) < 0) ∧ (8 : Int32).toNatClampNeg ≤ 1000000 ∧ (∀ h5 : am_H, h5 = am_nA h4 2 (8 : Int32).toNatClampNeg → am_T h5 l0 = 12 ∧ (∀ h6 : am_H, h6 = am_sR h5 68 l0 (am_Z h4 + 1) → (¬ (8 : Int32) < 0) ∧ (8 : Int32).toNatClampNeg ≤ 1000000 ∧ (∀ h7 : am_H, h7 = am_nA h6 2 (8 : Int32).toNatClampNeg → am_T h7 l0 = 12 ∧ (∀ h8 : am_H, h8 = am_sR h7 69 l0 (am_Z h6 + 1) → Q none h8))))))))) : am_PC (d + 1) mi_K_init [.inr (.inr l0)] h Q := am_B_P (k := 20) (stops := []) (d := d) (mid := mi_K_init) (pc := 0) (l := [some (.inr (.inr l0))]) (st := []) (h := h) (Q := Q) H
set_option maxRecDepth 100000 in
theorem bk_X_link {d : Nat} {l0 : Nat} {l1 : Int32} {l2 : Int64} {h : am_H} {Q : Option am_V → am_H → Prop} (H : am_T h l0 = 10 ∧ am_PC d mi_X_findPort [.inr (.inr l0), .inl l1] h (fun r1 h2 => ∃ x3 : Nat, r1 = some (.inr (.inr x3)) ∧ ((x3 = 0) → Q (some (.inl (-1 : Int32))) h2) ∧ (¬ (x3 = 0) → (((lg_cmp l2 (0 : Int64)) < 0) → Q (some (.inl (-2 : Int32))) h2) ∧ (¬ ((lg_cmp l2 (0 : Int64)) < 0) → (((lg_cmp l2 (10000 : Int64)) ≤ 0) → (((lg_cmp l2 (0 : Int64)) ≤ 0) → am_P d mi_X_link 58 [some (.inr (.inr l0)), some (.inl l1), some (.inr (.inl l2)), none, some (.inr (.inr x3)), none] [] h2 Q) ∧ (¬ ((lg_cmp l2 (0 : Int64)) ≤ 0) → am_T h2 x3 = 11 ∧ (((lg_cmp l2 (am_J h2 34 x3)) = 0) → am_P d mi_X_link 58 [some (.inr (.inr l0)), some (.inl l1), some (.inr (.inl l2)), none, some (.inr (.inr x3)), none] [] h2 Q) ∧ (¬ ((lg_cmp l2 (am_J h2 34 x3)) = 0) → am_T h2 x3 = 11 ∧ am_PC d mi_P_isSending [.inr (.inr x3)] h2 (fun r4 h5 => ∃ x6 : Int32, r4 = some (.inl x6) ∧ ((x6 = 0) → am_P d mi_X_link 58 [some (.inr (.inr l0)), some (.inl l1), some (.inr (.inl l2)), none, some (.inr (.inr x3)), none] [] h5 Q) ∧ (¬ (x6 = 0) → Q (some (.inl (-3 : Int32))) h5))))) ∧ (¬ ((lg_cmp l2 (10000 : Int64)) ≤ 0) → Q (some (.inl (-2 : Int32))) h2))))) : am_PC (d + 1) mi_X_link [.inr (.inr l0), .inl l1, .inr (.inl l2)] h Q := am_B_P (k := 29) (stops := [58]) (d := d) (mid := mi_X_link) (pc := 0) (l := [some (.inr (.inr l0)), some (.inl l1), some (.inr (.inl l2)), none, none, none]) (st := []) (h := h) (Q := Q) H
set_option maxRecDepth 100000 in
theorem bk_X_link_58 {d : Nat} {l0 : Nat} {l2 : Int64} {l4 : Nat} {y1 y3 y5 : Option am_V} {h : am_H} {Q : Option am_V → am_H → Prop} (H : am_T h l4 = 11 ∧ (∀ h1 : am_H, h1 = am_sJ h 34 l4 l2 → (((lg_cmp l2 (0 : Int64)) ≤ 0) → am_T h1 l4 = 11 ∧ am_PC d mi_P_loseFrames [.inr (.inr l4)] h1 (fun r2 h3 => ∃ x4 : Int32, r2 = some (.inl x4) ∧ am_T h3 l0 = 10 ∧ 1 = 1 ∧ 1 = 1 ∧ (am_T h3 (am_R h3 3 l0) = 1 ∨ am_T h3 (am_R h3 3 l0) = 3) ∧ vp_in (3 : Int32) (am_N h3 (am_R h3 3 l0)) ∧ am_T h3 (am_R h3 3 l0) = 1 ∧ vp_in (3 : Int32) (am_N h3 (am_R h3 3 l0)) ∧ (∀ h5 : am_H, h5 = am_xI h3 (am_R h3 3 l0) (3 : Int32).toNatClampNeg ((am_aI h3 (am_R h3 3 l0) (3 : Int32).toNatClampNeg) + x4) → Q (some (.inl x4)) h5))) ∧ (¬ ((lg_cmp l2 (0 : Int64)) ≤ 0) → Q (some (.inl (0 : Int32))) h1))) : am_P d mi_X_link 58 [some (.inr (.inr l0)), y1, some (.inr (.inl l2)), y3, some (.inr (.inr l4)), y5] [] h Q := am_P_le (l := [some (.inr (.inr l0)), none, some (.inr (.inl l2)), none, some (.inr (.inr l4)), none]) ⟨Or.inr rfl, Or.inl rfl, Or.inr rfl, Or.inl rfl, Or.inr rfl, Or.inl rfl, trivial⟩ (am_B_P (k := 21) (stops := [58]) H)
set_option maxRecDepth 100000 in
theorem bk_X_findPort {d : Nat} {l0 : Nat} {l1 : Int32} {h : am_H} {Q : Option am_V → am_H → Prop} (H : ((l1 < (1 : Int32)) → Q (some (.inr (.inr 0))) h) ∧ (¬ (l1 < (1 : Int32)) → am_T h l0 = 10 ∧ (am_T h (am_R h 0 l0) = 1 ∨ am_T h (am_R h 0 l0) = 2 ∨ am_T h (am_R h 0 l0) = 3 ∨ am_T h (am_R h 0 l0) = 4 ∨ 100 ≤ am_T h (am_R h 0 l0)) ∧ (((Int32.ofNat (am_N h (am_R h 0 l0))) < l1) → Q (some (.inr (.inr 0))) h) ∧ (¬ ((Int32.ofNat (am_N h (am_R h 0 l0))) < l1) → am_T h l0 = 10 ∧ 100 ≤ am_T h (am_R h 0 l0) ∧ vp_in (l1 - (1 : Int32)) (am_N h (am_R h 0 l0)) ∧ Q (some (.inr (.inr (am_aR h (am_R h 0 l0) (l1 - (1 : Int32)).toNatClampNeg)))) h))) : am_PC (d + 1) mi_X_findPort [.inr (.inr l0), .inl l1] h Q := am_B_P (k := 17) (stops := []) (d := d) (mid := mi_X_findPort) (pc := 0) (l := [some (.inr (.inr l0)), some (.inl l1)]) (st := []) (h := h) (Q := Q) H
set_option maxRecDepth 100000 in
theorem bk_P_isSending {d : Nat} {l0 : Nat} {h : am_H} {Q : Option am_V → am_H → Prop} (H : am_T h l0 = 11 ∧ (((am_I h 37 l0) = 0) → ((0 : Int32) = 0 ∨ (0 : Int32) = 1) ∧ Q (some (.inl (0 : Int32))) h) ∧ (¬ ((am_I h 37 l0) = 0) → ((1 : Int32) = 0 ∨ (1 : Int32) = 1) ∧ Q (some (.inl (1 : Int32))) h)) : am_PC (d + 1) mi_P_isSending [.inr (.inr l0)] h Q := am_B_P (k := 7) (stops := []) (d := d) (mid := mi_P_isSending) (pc := 0) (l := [some (.inr (.inr l0))]) (st := []) (h := h) (Q := Q) H
set_option maxRecDepth 100000 in
theorem bk_P_loseFrames {d : Nat} {l0 : Nat} {h : am_H} {Q : Option am_V → am_H → Prop} (H : am_T h l0 = 11 ∧ am_T h l0 = 11 ∧ am_PC d mi_P_isSending [.inr (.inr l0)] h (fun r1 h2 => ∃ x3 : Int32, r1 = some (.inl x3) ∧ ((x3 = 0) → am_P d mi_P_loseFrames 20 [some (.inr (.inr l0)), some (.inl ((am_I h 36 l0) + (0 : Int32))), some (.inl (0 : Int32))] [] h2 Q) ∧ (¬ (x3 = 0) → am_P d mi_P_loseFrames 20 [some (.inr (.inr l0)), some (.inl ((am_I h 36 l0) + (1 : Int32))), some (.inl (0 : Int32))] [] h2 Q))) : am_PC (d + 1) mi_P_loseFrames [.inr (.inr l0)] h Q := am_B_P (k := 13) (stops := [20]) (d := d) (mid := mi_P_loseFrames) (pc := 0) (l := [some (.inr (.inr l0)), none, none]) (st := []) (h := h) (Q := Q) H
set_option maxRecDepth 100000 in
theorem bk_P_loseFrames_20 {d : Nat} {l0 : Nat} {l1 : Int32} {l2 : Int32} {h : am_H} {Q : Option am_V → am_H → Prop} (H : (((8 : Int32) ≤ l2) → am_T h l0 = 11 ∧ (∀ h1 : am_H, h1 = am_sI h 36 l0 (0 : Int32) → am_T h1 l0 = 11 ∧ (∀ h2 : am_H, h2 = am_sI h1 37 l0 (0 : Int32) → Q (some (.inl l1)) h2))) ∧ (¬ ((8 : Int32) ≤ l2) → am_T h l0 = 11 ∧ 100 ≤ am_T h (am_R h 33 l0) ∧ vp_in l2 (am_N h (am_R h 33 l0)) ∧ am_T h (am_aR h (am_R h 33 l0) l2.toNatClampNeg) = 12 ∧ (∀ h3 : am_H, h3 = am_sI h 67 (am_aR h (am_R h 33 l0) l2.toNatClampNeg) (0 : Int32) → am_P d mi_P_loseFrames 20 [some (.inr (.inr l0)), some (.inl l1), some (.inl (l2 + (1 : Int32)))] [] h3 Q))) : am_P d mi_P_loseFrames 20 [some (.inr (.inr l0)), some (.inl l1), some (.inl l2)] [] h Q := am_P_le (l := [some (.inr (.inr l0)), some (.inl l1), some (.inl l2)]) ⟨Or.inr rfl, Or.inr rfl, Or.inr rfl, trivial⟩ (am_B_P (k := 13) (stops := [20]) H)
set_option maxRecDepth 100000 in
theorem bk_X_gate {d : Nat} {l0 : Nat} {l1 : Int32} {l2 : Int32} {l3 : Int64} {l5 : Int64} {h : am_H} {Q : Option am_V → am_H → Prop} (H : am_T h l0 = 10 ∧ am_PC d mi_X_findPort [.inr (.inr l0), .inl l1] h (fun r1 h2 => ∃ x3 : Nat, r1 = some (.inr (.inr x3)) ∧ ((x3 = 0) → Q (some (.inl (-1 : Int32))) h2) ∧ (¬ (x3 = 0) → am_PC d mi_X_isRank [.inl l2] h2 (fun r4 h5 => ∃ x6 : Int32, r4 = some (.inl x6) ∧ ((x6 = 0) → Q (some (.inl (-1 : Int32))) h5) ∧ (¬ (x6 = 0) → (((lg_cmp l3 (0 : Int64)) < 0) → Q (some (.inl (-2 : Int32))) h5) ∧ (¬ ((lg_cmp l3 (0 : Int64)) < 0) → ((0 ≤ (lg_cmp l3 l5)) → Q (some (.inl (-2 : Int32))) h5) ∧ (¬ (0 ≤ (lg_cmp l3 l5)) → am_T h5 l0 = 10 ∧ (((lg_cmp l5 (am_J h5 7 l0)) ≤ 0) → am_T h5 x3 = 11 ∧ 100 ≤ am_T h5 (am_R h5 33 x3) ∧ vp_in l2 (am_N h5 (am_R h5 33 x3)) ∧ am_T h5 (am_aR h5 (am_R h5 33 x3) l2.toNatClampNeg) = 12 ∧ am_PC d mi_K_addWindow [.inr (.inr (am_aR h5 (am_R h5 33 x3) l2.toNatClampNeg)), .inr (.inl l3), .inr (.inl l5)] h5 (fun r7 h8 => ∃ x9 : Int32, r7 = some (.inl x9) ∧ ((x9 = 0) → Q (some (.inl (-4 : Int32))) h8) ∧ (¬ (x9 = 0) → am_T h8 l0 = 10 ∧ am_T h8 l0 = 10 ∧ (∀ h10 : am_H, h10 = am_sJ h8 8 l0 (if l5 < (am_J h8 8 l0) then (am_J h8 8 l0) else l5) → am_T h10 (am_aR h5 (am_R h5 33 x3) l2.toNatClampNeg) = 12 ∧ Q (some (.inl (am_I h10 70 (am_aR h5 (am_R h5 33 x3) l2.toNatClampNeg)))) h10)))) ∧ (¬ ((lg_cmp l5 (am_J h5 7 l0)) ≤ 0) → Q (some (.inl (-2 : Int32))) h5)))))))) : am_PC (d + 1) mi_X_gate [.inr (.inr l0), .inl l1, .inl l2, .inr (.inl l3), .inr (.inl l5)] h Q := am_B_P (k := 42) (stops := []) (d := d) (mid := mi_X_gate) (pc := 0) (l := [some (.inr (.inr l0)), some (.inl l1), some (.inl l2), some (.inr (.inl l3)), none, some (.inr (.inl l5)), none, none, none]) (st := []) (h := h) (Q := Q) H
set_option maxRecDepth 100000 in
theorem bk_X_isRank {d : Nat} {l0 : Int32} {h : am_H} {Q : Option am_V → am_H → Prop} (H : ((l0 < 0) → ((0 : Int32) = 0 ∨ (0 : Int32) = 1) ∧ Q (some (.inl (0 : Int32))) h) ∧ (¬ (l0 < 0) → (((8 : Int32) ≤ l0) → ((0 : Int32) = 0 ∨ (0 : Int32) = 1) ∧ Q (some (.inl (0 : Int32))) h) ∧ (¬ ((8 : Int32) ≤ l0) → ((1 : Int32) = 0 ∨ (1 : Int32) = 1) ∧ Q (some (.inl (1 : Int32))) h))) : am_PC (d + 1) mi_X_isRank [.inl l0] h Q := am_B_P (k := 9) (stops := []) (d := d) (mid := mi_X_isRank) (pc := 0) (l := [some (.inl l0)]) (st := []) (h := h) (Q := Q) H
set_option maxRecDepth 100000 in
theorem bk_K_addWindow {d : Nat} {l0 : Nat} {l1 : Int64} {l3 : Int64} {h : am_H} {Q : Option am_V → am_H → Prop} (H : am_T h l0 = 12 ∧ (((am_I h 70 l0) < (8 : Int32)) → am_T h l0 = 12 ∧ am_T h l0 = 12 ∧ am_T h (am_R h 68 l0) = 2 ∧ vp_in (am_I h 70 l0) (am_N h (am_R h 68 l0)) ∧ (∀ h1 : am_H, h1 = am_xJ h (am_R h 68 l0) (am_I h 70 l0).toNatClampNeg l1 → am_T h1 l0 = 12 ∧ am_T h1 l0 = 12 ∧ am_T h1 (am_R h1 69 l0) = 2 ∧ vp_in (am_I h1 70 l0) (am_N h1 (am_R h1 69 l0)) ∧ (∀ h2 : am_H, h2 = am_xJ h1 (am_R h1 69 l0) (am_I h1 70 l0).toNatClampNeg l3 → 1 = 1 ∧ am_T h2 l0 = 12 ∧ am_T h2 l0 = 12 ∧ (∀ h3 : am_H, h3 = am_sI h2 70 l0 ((am_I h2 70 l0) + (1 : Int32)) → ((1 : Int32) = 0 ∨ (1 : Int32) = 1) ∧ Q (some (.inl (1 : Int32))) h3)))) ∧ (¬ ((am_I h 70 l0) < (8 : Int32)) → ((0 : Int32) = 0 ∨ (0 : Int32) = 1) ∧ Q (some (.inl (0 : Int32))) h)) : am_PC (d + 1) mi_K_addWindow [.inr (.inr l0), .inr (.inl l1), .inr (.inl l3)] h Q := am_B_P (k := 25) (stops := []) (d := d) (mid := mi_K_addWindow) (pc := 0) (l := [some (.inr (.inr l0)), some (.inr (.inl l1)), none, some (.inr (.inl l3)), none]) (st := []) (h := h) (Q := Q) H
set_option maxRecDepth 100000 in
theorem bk_X_frame {d : Nat} {l0 : Nat} {l1 : Int32} {l2 : Int32} {l3 : Int32} {l4 : Int32} {h : am_H} {Q : Option am_V → am_H → Prop} (H : am_T h l0 = 10 ∧ am_PC d mi_X_findPort [.inr (.inr l0), .inl l1] h (fun r1 h2 => ∃ x3 : Nat, r1 = some (.inr (.inr x3)) ∧ ((x3 = 0) → Q (some (.inl (-1 : Int32))) h2) ∧ (¬ (x3 = 0) → am_PC d mi_X_isAddress [.inl l2] h2 (fun r4 h5 => ∃ x6 : Int32, r4 = some (.inl x6) ∧ ((x6 = 0) → Q (some (.inl (-2 : Int32))) h5) ∧ (¬ (x6 = 0) → am_PC d mi_X_isRank [.inl l3] h5 (fun r7 h8 => ∃ x9 : Int32, r7 = some (.inl x9) ∧ ((x9 = 0) → Q (some (.inl (-2 : Int32))) h8) ∧ (¬ (x9 = 0) → ((l4 < (64 : Int32)) → Q (some (.inl (-2 : Int32))) h8) ∧ (¬ (l4 < (64 : Int32)) → ((l4 ≤ (1522 : Int32)) → am_T h8 x3 = 11 ∧ (((lg_cmp (am_J h8 34 x3) (0 : Int64)) = 0) → Q (some (.inl (-3 : Int32))) h8) ∧ (¬ ((lg_cmp (am_J h8 34 x3) (0 : Int64)) = 0) → am_T h8 l0 = 10 ∧ (((am_I h8 9 l0) < (5000 : Int32)) → 1 = 1 ∧ am_T h8 l0 = 10 ∧ am_T h8 l0 = 10 ∧ (∀ h10 : am_H, h10 = am_sI h8 9 l0 ((am_I h8 9 l0) + (1 : Int32)) → am_T h10 l0 = 10 ∧ am_PC d mi_X_addressOf [.inr (.inr l0), .inl l2] h10 (fun r11 h12 => ∃ x13 : Nat, r11 = some (.inr (.inr x13)) ∧ am_T h12 x13 = 13 ∧ 100 ≤ am_T h12 (am_R h12 96 x13) ∧ vp_in l3 (am_N h12 (am_R h12 96 x13)) ∧ am_T h12 l0 = 10 ∧ am_T h12 (am_aR h12 (am_R h12 96 x13) l3.toNatClampNeg) = 14 ∧ am_PC d mi_S_takesOne [.inr (.inr (am_aR h12 (am_R h12 96 x13) l3.toNatClampNeg)), .inr (.inl (am_J h12 6 l0))] h12 (fun r14 h15 => ∃ x16 : Int32, r14 = some (.inl x16) ∧ ((x16 = 0) → am_T h15 l0 = 10 ∧ 1 = 1 ∧ 1 = 1 ∧ (am_T h15 (am_R h15 3 l0) = 1 ∨ am_T h15 (am_R h15 3 l0) = 3) ∧ vp_in (1 : Int32) (am_N h15 (am_R h15 3 l0)) ∧ am_T h15 (am_R h15 3 l0) = 1 ∧ vp_in (1 : Int32) (am_N h15 (am_R h15 3 l0)) ∧ (∀ h17 : am_H, h17 = am_xI h15 (am_R h15 3 l0) (1 : Int32).toNatClampNeg ((am_aI h15 (am_R h15 3 l0) (1 : Int32).toNatClampNeg) + (1 : Int32)) → Q (some (.inl (0 : Int32))) h17)) ∧ (¬ (x16 = 0) → am_T h15 l0 = 10 ∧ am_T h15 x13 = 13 ∧ am_PC d mi_A_portAt [.inr (.inr x13), .inr (.inl (am_J h15 6 l0))] h15 (fun r18 h19 => ∃ x20 : Int32, r18 = some (.inl x20) ∧ am_T h19 l0 = 10 ∧ am_PC d mi_X_queueCopies [.inr (.inr l0), .inr (.inr x3), .inl x20, .inl l3, .inl l4] h19 (fun r21 h22 => ∃ x23 : Int32, r21 = some (.inl x23) ∧ ((x23 ≤ 0) → Q (some (.inl (0 : Int32))) h22) ∧ (¬ (x23 ≤ 0) → am_T h22 l0 = 10 ∧ Q (some (.inl (am_I h22 9 l0))) h22)))))))) ∧ (¬ ((am_I h8 9 l0) < (5000 : Int32)) → Q (some (.inl (-4 : Int32))) h8))) ∧ (¬ (l4 ≤ (1522 : Int32)) → Q (some (.inl (-2 : Int32))) h8))))))))) : am_PC (d + 1) mi_X_frame [.inr (.inr l0), .inl l1, .inl l2, .inl l3, .inl l4] h Q := am_B_P (k := 60) (stops := []) (d := d) (mid := mi_X_frame) (pc := 0) (l := [some (.inr (.inr l0)), some (.inl l1), some (.inl l2), some (.inl l3), some (.inl l4), none, none]) (st := []) (h := h) (Q := Q) H
set_option maxRecDepth 100000 in
theorem bk_X_isAddress {d : Nat} {l0 : Int32} {h : am_H} {Q : Option am_V → am_H → Prop} (H : ((l0 < (1 : Int32)) → ((0 : Int32) = 0 ∨ (0 : Int32) = 1) ∧ Q (some (.inl (0 : Int32))) h) ∧ (¬ (l0 < (1 : Int32)) → (((1000 : Int32) < l0) → ((0 : Int32) = 0 ∨ (0 : Int32) = 1) ∧ Q (some (.inl (0 : Int32))) h) ∧ (¬ ((1000 : Int32) < l0) → ((1 : Int32) = 0 ∨ (1 : Int32) = 1) ∧ Q (some (.inl (1 : Int32))) h))) : am_PC (d + 1) mi_X_isAddress [.inl l0] h Q := am_B_P (k := 10) (stops := []) (d := d) (mid := mi_X_isAddress) (pc := 0) (l := [some (.inl l0)]) (st := []) (h := h) (Q := Q) H
set_option maxRecDepth 100000 in
theorem bk_X_addressOf {d : Nat} {l0 : Nat} {l1 : Int32} {h : am_H} {Q : Option am_V → am_H → Prop} (H : am_T h l0 = 10 ∧ 100 ≤ am_T h (am_R h 1 l0) ∧ vp_in l1 (am_N h (am_R h 1 l0)) ∧ (((am_aR h (am_R h 1 l0) l1.toNatClampNeg) = 0) → (∀ h1 : am_H, h1 = am_nO h 3 3 → 1 = 1 ∧ ¬ (am_Z h + 1) = 0 ∧ am_PC d mi_A_init [.inr (.inr (am_Z h + 1))] h1 (fun r2 h3 => r2 = none ∧ am_T h3 l0 = 10 ∧ 100 ≤ am_T h3 (am_R h3 1 l0) ∧ vp_in l1 (am_N h3 (am_R h3 1 l0)) ∧ ((am_Z h + 1) = 0 ∨ (10 ≤ am_T h3 (am_Z h + 1) ∧ am_asg (am_T h3 (am_R h3 1 l0) - 100) (am_T h3 (am_Z h + 1) - 10) = true)) ∧ (∀ h4 : am_H, h4 = am_xR h3 (am_R h3 1 l0) l1.toNatClampNeg (am_Z h + 1) → Q (some (.inr (.inr (am_Z h + 1)))) h4)))) ∧ (¬ ((am_aR h (am_R h 1 l0) l1.toNatClampNeg) = 0) → Q (some (.inr (.inr (am_aR h (am_R h 1 l0) l1.toNatClampNeg)))) h)) : am_PC (d + 1) mi_X_addressOf [.inr (.inr l0), .inl l1] h Q := am_B_P (k := 19) (stops := []) (d := d) (mid := mi_X_addressOf) (pc := 0) (l := [some (.inr (.inr l0)), some (.inl l1), none]) (st := []) (h := h) (Q := Q) H
set_option maxRecDepth 100000 in
theorem bk_A_init {d : Nat} {l0 : Nat} {h : am_H} {Q : Option am_V → am_H → Prop} (H : ¬ l0 = 0 ∧ (¬ (8 : Int32) < 0) ∧ (8 : Int32).toNatClampNeg ≤ 1000000 ∧ (∀ h1 : am_H, h1 = am_nA h 103 (8 : Int32).toNatClampNeg → am_T h1 l0 = 13 ∧ (∀ h2 : am_H, h2 = am_sR h1 96 l0 (am_Z h + 1) → am_P d mi_A_init 15 [some (.inr (.inr l0)), some (.inl (0 : Int32))] [] h2 Q))) : am_PC (d + 1) mi_A_init [.inr (.inr l0)] h Q := am_B_P (k := 10) (stops := [15]) (d := d) (mid := mi_A_init) (pc := 0) (l := [some (.inr (.inr l0)), none]) (st := []) (h := h) (Q := Q) H
set_option maxRecDepth 100000 in
theorem bk_A_init_15 {d : Nat} {l0 : Nat} {l1 : Int32} {h : am_H} {Q : Option am_V → am_H → Prop} (H : (((8 : Int32) ≤ l1) → Q none h) ∧ (¬ ((8 : Int32) ≤ l1) → am_T h l0 = 13 ∧ (∀ h1 : am_H, h1 = am_nO h 4 3 → 1 = 1 ∧ ¬ (am_Z h + 1) = 0 ∧ am_PC d mi_S_init [.inr (.inr (am_Z h + 1))] h1 (fun r2 h3 => r2 = none ∧ 100 ≤ am_T h3 (am_R h 96 l0) ∧ vp_in l1 (am_N h3 (am_R h 96 l0)) ∧ ((am_Z h + 1) = 0 ∨ (10 ≤ am_T h3 (am_Z h + 1) ∧ am_asg (am_T h3 (am_R h 96 l0) - 100) (am_T h3 (am_Z h + 1) - 10) = true)) ∧ (∀ h4 : am_H, h4 = am_xR h3 (am_R h 96 l0) l1.toNatClampNeg (am_Z h + 1) → am_P d mi_A_init 15 [some (.inr (.inr l0)), some (.inl (l1 + (1 : Int32)))] [] h4 Q))))) : am_P d mi_A_init 15 [some (.inr (.inr l0)), some (.inl l1)] [] h Q := am_P_le (l := [some (.inr (.inr l0)), some (.inl l1)]) ⟨Or.inr rfl, Or.inr rfl, trivial⟩ (am_B_P (k := 14) (stops := [15]) H)
set_option maxRecDepth 100000 in
theorem bk_S_init {d : Nat} {l0 : Nat} {h : am_H} {Q : Option am_V → am_H → Prop} (H : ¬ l0 = 0 ∧ am_T h l0 = 14 ∧ (∀ h1 : am_H, h1 = am_sJ h 128 l0 (-1 : Int64) → Q none h1)) : am_PC (d + 1) mi_S_init [.inr (.inr l0)] h Q := am_B_P (k := 7) (stops := []) (d := d) (mid := mi_S_init) (pc := 0) (l := [some (.inr (.inr l0))]) (st := []) (h := h) (Q := Q) H
set_option maxRecDepth 100000 in
theorem bk_S_takesOne {d : Nat} {l0 : Nat} {l1 : Int64} {h : am_H} {Q : Option am_V → am_H → Prop} (H : am_T h l0 = 14 ∧ am_PC d mi_S_takenAt [.inr (.inr l0), .inr (.inl l1)] h (fun r1 h2 => ∃ x3 : Int32, r1 = some (.inl x3) ∧ am_T h2 l0 = 14 ∧ (((lg_cmp (am_J h2 128 l0) (-1 : Int64)) = 0) → am_P d mi_S_takesOne 29 [some (.inr (.inr l0)), some (.inr (.inl l1)), none, some (.inl x3)] [] h2 Q) ∧ (¬ ((lg_cmp (am_J h2 128 l0) (-1 : Int64)) = 0) → am_T h2 l0 = 14 ∧ (((lg_cmp x3.toInt64 (am_J h2 128 l0)) < 0) → am_P d mi_S_takesOne 29 [some (.inr (.inr l0)), some (.inr (.inl l1)), none, some (.inl x3)] [] h2 Q) ∧ (¬ ((lg_cmp x3.toInt64 (am_J h2 128 l0)) < 0) → ((0 : Int32) = 0 ∨ (0 : Int32) = 1) ∧ Q (some (.inl (0 : Int32))) h2)))) : am_PC (d + 1) mi_S_takesOne [.inr (.inr l0), .inr (.inl l1)] h Q := am_B_P (k := 18) (stops := [29]) (d := d) (mid := mi_S_takesOne) (pc := 0) (l := [some (.inr (.inr l0)), some (.inr (.inl l1)), none, none]) (st := []) (h := h) (Q := Q) H
set_option maxRecDepth 100000 in
theorem bk_S_takesOne_29 {d : Nat} {l0 : Nat} {l1 : Int64} {l3 : Int32} {y2 : Option am_V} {h : am_H} {Q : Option am_V → am_H → Prop} (H : ¬ (1000 : Int64) = 0 ∧ am_T h l0 = 14 ∧ (∀ h1 : am_H, h1 = am_sJ h 129 l0 (l1 / (1000 : Int64)) → am_T h1 l0 = 14 ∧ (∀ h2 : am_H, h2 = am_sI h1 130 l0 (l3 + (1 : Int32)) → ((1 : Int32) = 0 ∨ (1 : Int32) = 1) ∧ Q (some (.inl (1 : Int32))) h2))) : am_P d mi_S_takesOne 29 [some (.inr (.inr l0)), some (.inr (.inl l1)), y2, some (.inl l3)] [] h Q := am_P_le (l := [some (.inr (.inr l0)), some (.inr (.inl l1)), none, some (.inl l3)]) ⟨Or.inr rfl, Or.inr rfl, Or.inl rfl, Or.inr rfl, trivial⟩ (am_B_P (k := 13) (stops := [29]) H)
set_option maxRecDepth 100000 in
theorem bk_S_takenAt {d : Nat} {l0 : Nat} {l1 : Int64} {h : am_H} {Q : Option am_V → am_H → Prop} (H : am_T h l0 = 14 ∧ ¬ (1000 : Int64) = 0 ∧ (((lg_cmp (am_J h 129 l0) (l1 / (1000 : Int64))) = 0) → am_T h l0 = 14 ∧ Q (some (.inl (am_I h 130 l0))) h) ∧ (¬ ((lg_cmp (am_J h 129 l0) (l1 / (1000 : Int64))) = 0) → Q (some (.inl (0 : Int32))) h)) : am_PC (d + 1) mi_S_takenAt [.inr (.inr l0), .inr (.inl l1)] h Q := am_B_P (k := 12) (stops := []) (d := d) (mid := mi_S_takenAt) (pc := 0) (l := [some (.inr (.inr l0)), some (.inr (.inl l1)), none]) (st := []) (h := h) (Q := Q) H
set_option maxRecDepth 100000 in
theorem bk_A_portAt {d : Nat} {l0 : Nat} {l1 : Int64} {h : am_H} {Q : Option am_V → am_H → Prop} (H : am_T h l0 = 13 ∧ am_PC d mi_A_isFixed [.inr (.inr l0)] h (fun r1 h2 => ∃ x3 : Int32, r1 = some (.inl x3) ∧ ((x3 = 0) → am_T h2 l0 = 13 ∧ ((0 ≤ (lg_cmp (l1 - (am_J h2 98 l0)) (3000 : Int64))) → Q (some (.inl (0 : Int32))) h2) ∧ (¬ (0 ≤ (lg_cmp (l1 - (am_J h2 98 l0)) (3000 : Int64))) → am_T h2 l0 = 13 ∧ Q (some (.inl (am_I h2 97 l0))) h2)) ∧ (¬ (x3 = 0) → am_T h2 l0 = 13 ∧ Q (some (.inl (am_I h2 97 l0))) h2))) : am_PC (d + 1) mi_A_portAt [.inr (.inr l0), .inr (.inl l1)] h Q := am_B_P (k := 15) (stops := []) (d := d) (mid := mi_A_portAt) (pc := 0) (l := [some (.inr (.inr l0)), some (.inr (.inl l1)), none]) (st := []) (h := h) (Q := Q) H
set_option maxRecDepth 100000 in
theorem bk_A_isFixed {d : Nat} {l0 : Nat} {h : am_H} {Q : Option am_V → am_H → Prop} (H : am_T h l0 = 13 ∧ (((lg_cmp (am_J h 98 l0) (-1 : Int64)) = 0) → ((1 : Int32) = 0 ∨ (1 : Int32) = 1) ∧ Q (some (.inl (1 : Int32))) h) ∧ (¬ ((lg_cmp (am_J h 98 l0) (-1 : Int64)) = 0) → ((0 : Int32) = 0 ∨ (0 : Int32) = 1) ∧ Q (some (.inl (0 : Int32))) h)) : am_PC (d + 1) mi_A_isFixed [.inr (.inr l0)] h Q := am_B_P (k := 9) (stops := []) (d := d) (mid := mi_A_isFixed) (pc := 0) (l := [some (.inr (.inr l0))]) (st := []) (h := h) (Q := Q) H
set_option maxRecDepth 100000 in
theorem bk_X_queueCopies {d : Nat} {l0 : Nat} {l1 : Nat} {l2 : Int32} {l3 : Int32} {l4 : Int32} {h : am_H} {Q : Option am_V → am_H → Prop} (H : am_P d mi_X_queueCopies 9 [some (.inr (.inr l0)), some (.inr (.inr l1)), some (.inl l2), some (.inl l3), some (.inl l4), some (.inl (0 : Int32)), some (.inl (0 : Int32)), some (.inl (0 : Int32)), none] [] h Q) : am_PC (d + 1) mi_X_queueCopies [.inr (.inr l0), .inr (.inr l1), .inl l2, .inl l3, .inl l4] h Q := am_B_P (k := 8) (stops := [9, 60]) (d := d) (mid := mi_X_queueCopies) (pc := 0) (l := [some (.inr (.inr l0)), some (.inr (.inr l1)), some (.inl l2), some (.inl l3), some (.inl l4), none, none, none, none]) (st := []) (h := h) (Q := Q) H
set_option maxRecDepth 100000 in
theorem bk_X_queueCopies_9 {d : Nat} {l0 : Nat} {l1 : Nat} {l2 : Int32} {l3 : Int32} {l4 : Int32} {l5 : Int32} {l6 : Int32} {l7 : Int32} {y8 : Option am_V} {h : am_H} {Q : Option am_V → am_H → Prop} (H : am_T h l0 = 10 ∧ (am_T h (am_R h 0 l0) = 1 ∨ am_T h (am_R h 0 l0) = 2 ∨ am_T h (am_R h 0 l0) = 3 ∨ am_T h (am_R h 0 l0) = 4 ∨ 100 ≤ am_T h (am_R h 0 l0)) ∧ (((Int32.ofNat (am_N h (am_R h 0 l0))) ≤ l7) → am_T h l0 = 10 ∧ 1 = 1 ∧ 1 = 1 ∧ (am_T h (am_R h 3 l0) = 1 ∨ am_T h (am_R h 3 l0) = 3) ∧ vp_in (0 : Int32) (am_N h (am_R h 3 l0)) ∧ am_T h (am_R h 3 l0) = 1 ∧ vp_in (0 : Int32) (am_N h (am_R h 3 l0)) ∧ (∀ h1 : am_H, h1 = am_xI h (am_R h 3 l0) (0 : Int32).toNatClampNeg ((am_aI h (am_R h 3 l0) (0 : Int32).toNatClampNeg) + (l5 - l6)) → ((l5 = 0) → am_T h1 l0 = 10 ∧ 1 = 1 ∧ 1 = 1 ∧ (am_T h1 (am_R h1 3 l0) = 1 ∨ am_T h1 (am_R h1 3 l0) = 3) ∧ vp_in (2 : Int32) (am_N h1 (am_R h1 3 l0)) ∧ am_T h1 (am_R h1 3 l0) = 1 ∧ vp_in (2 : Int32) (am_N h1 (am_R h1 3 l0)) ∧ (∀ h2 : am_H, h2 = am_xI h1 (am_R h1 3 l0) (2 : Int32).toNatClampNeg ((am_aI h1 (am_R h1 3 l0) (2 : Int32).toNatClampNeg) + (1 : Int32)) → Q (some (.inl l6)) h2)) ∧ (¬ (l5 = 0) → Q (some (.inl l6)) h1))) ∧ (¬ ((Int32.ofNat (am_N h (am_R h 0 l0))) ≤ l7) → am_T h l0 = 10 ∧ 100 ≤ am_T h (am_R h 0 l0) ∧ vp_in l7 (am_N h (am_R h 0 l0)) ∧ (((am_aR h (am_R h 0 l0) l7.toNatClampNeg) = l1) → am_P d mi_X_queueCopies 9 [some (.inr (.inr l0)), some (.inr (.inr l1)), some (.inl l2), some (.inl l3), some (.inl l4), some (.inl l5), some (.inl l6), some (.inl (l7 + (1 : Int32))), some (.inr (.inr (am_aR h (am_R h 0 l0) l7.toNatClampNeg)))] [] h Q) ∧ (¬ ((am_aR h (am_R h 0 l0) l7.toNatClampNeg) = l1) → am_T h (am_aR h (am_R h 0 l0) l7.toNatClampNeg) = 11 ∧ (((lg_cmp (am_J h 34 (am_aR h (am_R h 0 l0) l7.toNatClampNeg)) (0 : Int64)) = 0) → am_P d mi_X_queueCopies 9 [some (.inr (.inr l0)), some (.inr (.inr l1)), some (.inl l2), some (.inl l3), some (.inl l4), some (.inl l5), some (.inl l6), some (.inl (l7 + (1 : Int32))), some (.inr (.inr (am_aR h (am_R h 0 l0) l7.toNatClampNeg)))] [] h Q) ∧ (¬ ((lg_cmp (am_J h 34 (am_aR h (am_R h 0 l0) l7.toNatClampNeg)) (0 : Int64)) = 0) → ((l2 = 0) → am_P d mi_X_queueCopies 60 [some (.inr (.inr l0)), some (.inr (.inr l1)), some (.inl l2), some (.inl l3), some (.inl l4), some (.inl l5), some (.inl l6), some (.inl l7), some (.inr (.inr (am_aR h (am_R h 0 l0) l7.toNatClampNeg)))] [] h Q) ∧ (¬ (l2 = 0) → am_T h (am_aR h (am_R h 0 l0) l7.toNatClampNeg) = 11 ∧ ((l2 = (am_I h 32 (am_aR h (am_R h 0 l0) l7.toNatClampNeg))) → am_P d mi_X_queueCopies 60 [some (.inr (.inr l0)), some (.inr (.inr l1)), some (.inl l2), some (.inl l3), some (.inl l4), some (.inl l5), some (.inl l6), some (.inl l7), some (.inr (.inr (am_aR h (am_R h 0 l0) l7.toNatClampNeg)))] [] h Q) ∧ (¬ (l2 = (am_I h 32 (am_aR h (am_R h 0 l0) l7.toNatClampNeg))) → am_P d mi_X_queueCopies 9 [some (.inr (.inr l0)), some (.inr (.inr l1)), some (.inl l2), some (.inl l3), some (.inl l4), some (.inl l5), some (.inl l6), some (.inl (l7 + (1 : Int32))), some (.inr (.inr (am_aR h (am_R h 0 l0) l7.toNatClampNeg)))] [] h Q)))))) : am_P d mi_X_queueCopies 9 [some (.inr (.inr l0)), some (.inr (.inr l1)), some (.inl l2), some (.inl l3), some (.inl l4), some (.inl l5), some (.inl l6), some (.inl l7), y8] [] h Q := am_P_le (l := [some (.inr (.inr l0)), some (.inr (.inr l1)), some (.inl l2), some (.inl l3), some (.inl l4), some (.inl l5), some (.inl l6), some (.inl l7), none]) ⟨Or.inr rfl, Or.inr rfl, Or.inr rfl, Or.inr rfl, Or.inr rfl, Or.inr rfl, Or.inr rfl, Or.inr rfl, Or.inl rfl, trivial⟩ (am_B_P (k := 29) (stops := [9, 60]) H)
set_option maxRecDepth 100000 in
theorem bk_X_queueCopies_60 {d : Nat} {l0 : Nat} {l1 : Nat} {l2 : Int32} {l3 : Int32} {l4 : Int32} {l5 : Int32} {l6 : Int32} {l7 : Int32} {l8 : Nat} {h : am_H} {Q : Option am_V → am_H → Prop} (H : am_T h l0 = 10 ∧ am_T h l8 = 11 ∧ am_PC d mi_P_queue [.inr (.inr l8), .inl (am_I h 9 l0), .inl l3, .inl l4] h (fun r1 h2 => ∃ x3 : Int32, r1 = some (.inl x3) ∧ ((x3 = 0) → am_P d mi_X_queueCopies 9 [some (.inr (.inr l0)), some (.inr (.inr l1)), some (.inl l2), some (.inl l3), some (.inl l4), some (.inl (l5 + (1 : Int32))), some (.inl l6), some (.inl (l7 + (1 : Int32))), some (.inr (.inr l8))] [] h2 Q) ∧ (¬ (x3 = 0) → am_P d mi_X_queueCopies 9 [some (.inr (.inr l0)), some (.inr (.inr l1)), some (.inl l2), some (.inl l3), some (.inl l4), some (.inl (l5 + (1 : Int32))), some (.inl (l6 + (1 : Int32))), some (.inl (l7 + (1 : Int32))), some (.inr (.inr l8))] [] h2 Q))) : am_P d mi_X_queueCopies 60 [some (.inr (.inr l0)), some (.inr (.inr l1)), some (.inl l2), some (.inl l3), some (.inl l4), some (.inl l5), some (.inl l6), some (.inl l7), some (.inr (.inr l8))] [] h Q := am_P_le (l := [some (.inr (.inr l0)), some (.inr (.inr l1)), some (.inl l2), some (.inl l3), some (.inl l4), some (.inl l5), some (.inl l6), some (.inl l7), some (.inr (.inr l8))]) ⟨Or.inr rfl, Or.inr rfl, Or.inr rfl, Or.inr rfl, Or.inr rfl, Or.inr rfl, Or.inr rfl, Or.inr rfl, Or.inr rfl, trivial⟩ (am_B_P (k := 13) (stops := [9, 60]) H)
set_option maxRecDepth 100000 in
theorem bk_P_queue {d : Nat} {l0 : Nat} {l1 : Int32} {l2 : Int32} {l3 : Int32} {h : am_H} {Q : Option am_V → am_H → Prop} (H : am_T h l0 = 11 ∧ 100 ≤ am_T h (am_R h 33 l0) ∧ vp_in l2 (am_N h (am_R h 33 l0)) ∧ am_T h (am_aR h (am_R h 33 l0) l2.toNatClampNeg) = 12 ∧ am_PC d mi_K_add [.inr (.inr (am_aR h (am_R h 33 l0) l2.toNatClampNeg)), .inl l1, .inl l3] h (fun r1 h2 => ∃ x3 : Int32, r1 = some (.inl x3) ∧ ((x3 = 0) → ((0 : Int32) = 0 ∨ (0 : Int32) = 1) ∧ Q (some (.inl (0 : Int32))) h2) ∧ (¬ (x3 = 0) → 1 = 1 ∧ am_T h2 l0 = 11 ∧ am_T h2 l0 = 11 ∧ (∀ h4 : am_H, h4 = am_sI h2 36 l0 ((am_I h2 36 l0) + (1 : Int32)) → ((1 : Int32) = 0 ∨ (1 : Int32) = 1) ∧ Q (some (.inl (1 : Int32))) h4)))) : am_PC (d + 1) mi_P_queue [.inr (.inr l0), .inl l1, .inl l2, .inl l3] h Q := am_B_P (k := 17) (stops := []) (d := d) (mid := mi_P_queue) (pc := 0) (l := [some (.inr (.inr l0)), some (.inl l1), some (.inl l2), some (.inl l3)]) (st := []) (h := h) (Q := Q) H
set_option maxRecDepth 100000 in
theorem bk_K_add {d : Nat} {l0 : Nat} {l1 : Int32} {l2 : Int32} {h : am_H} {Q : Option am_V → am_H → Prop} (H : am_T h l0 = 12 ∧ (((am_I h 67 l0) < (16 : Int32)) → am_T h l0 = 12 ∧ am_T h l0 = 12 ∧ ¬ (16 : Int32) = 0 ∧ am_T h l0 = 12 ∧ am_T h (am_R h 64 l0) = 1 ∧ vp_in (((am_I h 66 l0) + (am_I h 67 l0)) - ((am_I h 66 l0) + (am_I h 67 l0)) / (16 : Int32) * (16 : Int32)) (am_N h (am_R h 64 l0)) ∧ (∀ h1 : am_H, h1 = am_xI h (am_R h 64 l0) (((am_I h 66 l0) + (am_I h 67 l0)) - ((am_I h 66 l0) + (am_I h 67 l0)) / (16 : Int32) * (16 : Int32)).toNatClampNeg l1 → am_T h1 l0 = 12 ∧ am_T h1 (am_R h1 65 l0) = 1 ∧ vp_in (((am_I h 66 l0) + (am_I h 67 l0)) - ((am_I h 66 l0) + (am_I h 67 l0)) / (16 : Int32) * (16 : Int32)) (am_N h1 (am_R h1 65 l0)) ∧ (∀ h2 : am_H, h2 = am_xI h1 (am_R h1 65 l0) (((am_I h 66 l0) + (am_I h 67 l0)) - ((am_I h 66 l0) + (am_I h 67 l0)) / (16 : Int32) * (16 : Int32)).toNatClampNeg l2 → 1 = 1 ∧ am_T h2 l0 = 12 ∧ am_T h2 l0 = 12 ∧ (∀ h3 : am_H, h3 = am_sI h2 67 l0 ((am_I h2 67 l0) + (1 : Int32)) → ((1 : Int32) = 0 ∨ (1 : Int32) = 1) ∧ Q (some (.inl (1 : Int32))) h3)))) ∧ (¬ ((am_I h 67 l0) < (16 : Int32)) → ((0 : Int32) = 0 ∨ (0 : Int32) = 1) ∧ Q (some (.inl (0 : Int32))) h)) : am_PC (d + 1) mi_K_add [.inr (.inr l0), .inl l1, .inl l2] h Q := am_B_P (k := 31) (stops := []) (d := d) (mid := mi_K_add) (pc := 0) (l := [some (.inr (.inr l0)), some (.inl l1), some (.inl l2), none]) (st := []) (h := h) (Q := Q) H
set_option maxRecDepth 100000 in
theorem bk_X_run {d : Nat} {l0 : Nat} {l1 : Int64} {h : am_H} {Q : Option am_V → am_H → Prop} (H : (((lg_cmp l1 (0 : Int64)) < 0) → Q (some (.inl (-2 : Int32))) h) ∧ (¬ ((lg_cmp l1 (0 : Int64)) < 0) → (((lg_cmp l1 (2000 : Int64)) ≤ 0) → am_T h l0 = 10 ∧ am_T h l0 = 10 ∧ am_P d mi_X_run 33 [some (.inr (.inr l0)), some (.inr (.inl l1)), none, some (.inl (am_I h 10 l0)), some (.inr (.inl ((am_J h 6 l0) + l1))), none, some (.inl (0 : Int32)), none, none] [] h Q) ∧ (¬ ((lg_cmp l1 (2000 : Int64)) ≤ 0) → Q (some (.inl (-2 : Int32))) h))) : am_PC (d + 1) mi_X_run [.inr (.inr l0), .inr (.inl l1)] h Q := am_B_P (k := 20) (stops := [33]) (d := d) (mid := mi_X_run) (pc := 0) (l := [some (.inr (.inr l0)), some (.inr (.inl l1)), none, none, none, none, none, none, none]) (st := []) (h := h) (Q := Q) H
set_option maxRecDepth 100000 in
theorem bk_X_run_33 {d : Nat} {l0 : Nat} {l3 : Int32} {l4 : Int64} {l6 : Int32} {y1 y2 y5 y7 y8 : Option am_V} {h : am_H} {Q : Option am_V → am_H → Prop} (H : ((0 ≤ (lg_cmp l6.toInt64 (2000 : Int64))) → am_T h l0 = 10 ∧ Q (some (.inl ((am_I h 10 l0) - l3))) h) ∧ (¬ (0 ≤ (lg_cmp l6.toInt64 (2000 : Int64))) → am_T h l0 = 10 ∧ ((0 ≤ (lg_cmp (am_J h 6 l0) l4)) → am_T h l0 = 10 ∧ Q (some (.inl ((am_I h 10 l0) - l3))) h) ∧ (¬ (0 ≤ (lg_cmp (am_J h 6 l0) l4)) → am_T h l0 = 10 ∧ am_PC d mi_X_endSendings [.inr (.inr l0)] h (fun r1 h2 => r1 = none ∧ am_T h2 l0 = 10 ∧ am_PC d mi_X_beginSendings [.inr (.inr l0)] h2 (fun r3 h4 => r3 = none ∧ am_T h4 l0 = 10 ∧ am_T h4 l0 = 10 ∧ am_PC d mi_X_ticksUntilChange [.inr (.inr l0)] h4 (fun r5 h6 => ∃ x7 : Int64, r5 = some (.inr (.inl x7)) ∧ am_T h6 l0 = 10 ∧ am_PC d mi_X_moveCredits [.inr (.inr l0), .inr (.inl (if x7 < (l4 - (am_J h4 6 l0)) then x7 else (l4 - (am_J h4 6 l0))))] h6 (fun r8 h9 => r8 = none ∧ 1 = 1 ∧ am_T h9 l0 = 10 ∧ am_T h9 l0 = 10 ∧ (∀ h10 : am_H, h10 = am_sJ h9 6 l0 ((am_J h9 6 l0) + (if x7 < (l4 - (am_J h4 6 l0)) then x7 else (l4 - (am_J h4 6 l0)))) → am_P d mi_X_run 33 [some (.inr (.inr l0)), none, none, some (.inl l3), some (.inr (.inl l4)), none, some (.inl (l6 + (1 : Int32))), some (.inr (.inl (if x7 < (l4 - (am_J h4 6 l0)) then x7 else (l4 - (am_J h4 6 l0))))), none] [] h10 Q)))))))) : am_P d mi_X_run 33 [some (.inr (.inr l0)), y1, y2, some (.inl l3), some (.inr (.inl l4)), y5, some (.inl l6), y7, y8] [] h Q := am_P_le (l := [some (.inr (.inr l0)), none, none, some (.inl l3), some (.inr (.inl l4)), none, some (.inl l6), none, none]) ⟨Or.inr rfl, Or.inl rfl, Or.inl rfl, Or.inr rfl, Or.inr rfl, Or.inl rfl, Or.inr rfl, Or.inl rfl, Or.inl rfl, trivial⟩ (am_B_P (k := 35) (stops := [33]) H)
set_option maxRecDepth 100000 in
theorem bk_X_endSendings {d : Nat} {l0 : Nat} {h : am_H} {Q : Option am_V → am_H → Prop} (H : am_P d mi_X_endSendings 2 [some (.inr (.inr l0)), some (.inl (0 : Int32)), none] [] h Q) : am_PC (d + 1) mi_X_endSendings [.inr (.inr l0)] h Q := am_B_P (k := 4) (stops := [2, 81]) (d := d) (mid := mi_X_endSendings) (pc := 0) (l := [some (.inr (.inr l0)), none, none]) (st := []) (h := h) (Q := Q) H
set_option maxRecDepth 100000 in
theorem bk_X_endSendings_2 {d : Nat} {l0 : Nat} {l1 : Int32} {y2 : Option am_V} {h : am_H} {Q : Option am_V → am_H → Prop} (H : am_T h l0 = 10 ∧ (am_T h (am_R h 0 l0) = 1 ∨ am_T h (am_R h 0 l0) = 2 ∨ am_T h (am_R h 0 l0) = 3 ∨ am_T h (am_R h 0 l0) = 4 ∨ 100 ≤ am_T h (am_R h 0 l0)) ∧ (((Int32.ofNat (am_N h (am_R h 0 l0))) ≤ l1) → Q none h) ∧ (¬ ((Int32.ofNat (am_N h (am_R h 0 l0))) ≤ l1) → am_T h l0 = 10 ∧ 100 ≤ am_T h (am_R h 0 l0) ∧ vp_in l1 (am_N h (am_R h 0 l0)) ∧ am_T h (am_aR h (am_R h 0 l0) l1.toNatClampNeg) = 11 ∧ am_PC d mi_P_isSending [.inr (.inr (am_aR h (am_R h 0 l0) l1.toNatClampNeg))] h (fun r1 h2 => ∃ x3 : Int32, r1 = some (.inl x3) ∧ ((x3 = 0) → am_P d mi_X_endSendings 2 [some (.inr (.inr l0)), some (.inl (l1 + (1 : Int32))), some (.inr (.inr (am_aR h (am_R h 0 l0) l1.toNatClampNeg)))] [] h2 Q) ∧ (¬ (x3 = 0) → am_T h2 (am_aR h (am_R h 0 l0) l1.toNatClampNeg) = 11 ∧ am_T h2 l0 = 10 ∧ ((0 < (lg_cmp (am_J h2 40 (am_aR h (am_R h 0 l0) l1.toNatClampNeg)) (am_J h2 6 l0))) → am_P d mi_X_endSendings 2 [some (.inr (.inr l0)), some (.inl (l1 + (1 : Int32))), some (.inr (.inr (am_aR h (am_R h 0 l0) l1.toNatClampNeg)))] [] h2 Q) ∧ (¬ (0 < (lg_cmp (am_J h2 40 (am_aR h (am_R h 0 l0) l1.toNatClampNeg)) (am_J h2 6 l0))) → am_T h2 l0 = 10 ∧ am_T h2 (am_R h2 2 l0) = 16 ∧ am_PC d mi_L_size [.inr (.inr (am_R h2 2 l0))] h2 (fun r4 h5 => ∃ x6 : Int32, r4 = some (.inl x6) ∧ (((5000 : Int32) ≤ x6) → am_P d mi_X_endSendings 81 [some (.inr (.inr l0)), some (.inl l1), some (.inr (.inr (am_aR h (am_R h 0 l0) l1.toNatClampNeg)))] [] h5 Q) ∧ (¬ ((5000 : Int32) ≤ x6) → am_T h5 l0 = 10 ∧ (∀ h7 : am_H, h7 = am_nO h5 5 4 → 1 = 1 ∧ am_T h7 (am_aR h (am_R h 0 l0) l1.toNatClampNeg) = 11 ∧ am_T h7 (am_aR h (am_R h 0 l0) l1.toNatClampNeg) = 11 ∧ am_T h7 (am_aR h (am_R h 0 l0) l1.toNatClampNeg) = 11 ∧ am_T h7 (am_aR h (am_R h 0 l0) l1.toNatClampNeg) = 11 ∧ ¬ (am_Z h5 + 1) = 0 ∧ am_PC d mi_D_init [.inr (.inr (am_Z h5 + 1)), .inl (am_I h7 37 (am_aR h (am_R h 0 l0) l1.toNatClampNeg)), .inl (am_I h7 32 (am_aR h (am_R h 0 l0) l1.toNatClampNeg)), .inr (.inl (am_J h7 39 (am_aR h (am_R h 0 l0) l1.toNatClampNeg))), .inr (.inl (am_J h7 40 (am_aR h (am_R h 0 l0) l1.toNatClampNeg)))] h7 (fun r8 h9 => r8 = none ∧ am_T h9 (am_R h5 2 l0) = 16 ∧ am_PC d mi_L_add [.inr (.inr (am_R h5 2 l0)), .inr (.inr (am_Z h5 + 1))] h9 (fun r10 h11 => ∃ x12 : Int32, r10 = some (.inl x12) ∧ 1 = 1 ∧ am_P d mi_X_endSendings 81 [some (.inr (.inr l0)), some (.inl l1), some (.inr (.inr (am_aR h (am_R h 0 l0) l1.toNatClampNeg)))] [] h11 Q)))))))))) : am_P d mi_X_endSendings 2 [some (.inr (.inr l0)), some (.inl l1), y2] [] h Q := am_P_le (l := [some (.inr (.inr l0)), some (.inl l1), none]) ⟨Or.inr rfl, Or.inr rfl, Or.inl rfl, trivial⟩ (am_B_P (k := 41) (stops := [2, 81]) H)
set_option maxRecDepth 100000 in
theorem bk_X_endSendings_81 {d : Nat} {l0 : Nat} {l1 : Int32} {l2 : Nat} {h : am_H} {Q : Option am_V → am_H → Prop} (H : 1 = 1 ∧ am_T h l0 = 10 ∧ am_T h l0 = 10 ∧ (∀ h1 : am_H, h1 = am_sI h 10 l0 ((am_I h 10 l0) + (1 : Int32)) → am_T h1 l2 = 11 ∧ (∀ h2 : am_H, h2 = am_sI h1 37 l2 (0 : Int32) → am_P d mi_X_endSendings 2 [some (.inr (.inr l0)), some (.inl (l1 + (1 : Int32))), some (.inr (.inr l2))] [] h2 Q))) : am_P d mi_X_endSendings 81 [some (.inr (.inr l0)), some (.inl l1), some (.inr (.inr l2))] [] h Q := am_P_le (l := [some (.inr (.inr l0)), some (.inl l1), some (.inr (.inr l2))]) ⟨Or.inr rfl, Or.inr rfl, Or.inr rfl, trivial⟩ (am_B_P (k := 13) (stops := [2, 81]) H)
set_option maxRecDepth 100000 in
theorem bk_D_init {d : Nat} {l0 : Nat} {l1 : Int32} {l2 : Int32} {l3 : Int64} {l5 : Int64} {h : am_H} {Q : Option am_V → am_H → Prop} (H : ¬ l0 = 0 ∧ am_T h l0 = 15 ∧ (∀ h1 : am_H, h1 = am_sI h 160 l0 l1 → am_T h1 l0 = 15 ∧ (∀ h2 : am_H, h2 = am_sI h1 161 l0 l2 → am_T h2 l0 = 15 ∧ (∀ h3 : am_H, h3 = am_sJ h2 162 l0 l3 → am_T h3 l0 = 15 ∧ (∀ h4 : am_H, h4 = am_sJ h3 163 l0 l5 → Q none h4))))) : am_PC (d + 1) mi_D_init [.inr (.inr l0), .inl l1, .inl l2, .inr (.inl l3), .inr (.inl l5)] h Q := am_B_P (k := 16) (stops := []) (d := d) (mid := mi_D_init) (pc := 0) (l := [some (.inr (.inr l0)), some (.inl l1), some (.inl l2), some (.inr (.inl l3)), none, some (.inr (.inl l5)), none]) (st := []) (h := h) (Q := Q) H
set_option maxRecDepth 100000 in
theorem bk_X_beginSendings {d : Nat} {l0 : Nat} {h : am_H} {Q : Option am_V → am_H → Prop} (H : am_P d mi_X_beginSendings 2 [some (.inr (.inr l0)), some (.inl (0 : Int32))] [] h Q) : am_PC (d + 1) mi_X_beginSendings [.inr (.inr l0)] h Q := am_B_P (k := 4) (stops := [2]) (d := d) (mid := mi_X_beginSendings) (pc := 0) (l := [some (.inr (.inr l0)), none]) (st := []) (h := h) (Q := Q) H
set_option maxRecDepth 100000 in
theorem bk_X_beginSendings_2 {d : Nat} {l0 : Nat} {l1 : Int32} {h : am_H} {Q : Option am_V → am_H → Prop} (H : am_T h l0 = 10 ∧ (am_T h (am_R h 0 l0) = 1 ∨ am_T h (am_R h 0 l0) = 2 ∨ am_T h (am_R h 0 l0) = 3 ∨ am_T h (am_R h 0 l0) = 4 ∨ 100 ≤ am_T h (am_R h 0 l0)) ∧ (((Int32.ofNat (am_N h (am_R h 0 l0))) ≤ l1) → Q none h) ∧ (¬ ((Int32.ofNat (am_N h (am_R h 0 l0))) ≤ l1) → am_T h l0 = 10 ∧ 100 ≤ am_T h (am_R h 0 l0) ∧ vp_in l1 (am_N h (am_R h 0 l0)) ∧ am_T h l0 = 10 ∧ am_T h l0 = 10 ∧ am_T h (am_aR h (am_R h 0 l0) l1.toNatClampNeg) = 11 ∧ am_PC d mi_P_beginNext [.inr (.inr (am_aR h (am_R h 0 l0) l1.toNatClampNeg)), .inr (.inl (am_J h 6 l0)), .inr (.inl (am_J h 7 l0))] h (fun r1 h2 => r1 = none ∧ am_P d mi_X_beginSendings 2 [some (.inr (.inr l0)), some (.inl (l1 + (1 : Int32)))] [] h2 Q))) : am_P d mi_X_beginSendings 2 [some (.inr (.inr l0)), some (.inl l1)] [] h Q := am_P_le (l := [some (.inr (.inr l0)), some (.inl l1)]) ⟨Or.inr rfl, Or.inr rfl, trivial⟩ (am_B_P (k := 18) (stops := [2]) H)
set_option maxRecDepth 100000 in
theorem bk_P_beginNext {d : Nat} {l0 : Nat} {l1 : Int64} {l3 : Int64} {h : am_H} {Q : Option am_V → am_H → Prop} (H : am_T h l0 = 11 ∧ (((lg_cmp (am_J h 34 l0) (0 : Int64)) ≤ 0) → Q none h) ∧ (¬ ((lg_cmp (am_J h 34 l0) (0 : Int64)) ≤ 0) → (((lg_cmp l3 (0 : Int64)) ≤ 0) → Q none h) ∧ (¬ ((lg_cmp l3 (0 : Int64)) ≤ 0) → am_T h l0 = 11 ∧ (((am_I h 36 l0) = 0) → Q none h) ∧ (¬ ((am_I h 36 l0) = 0) → am_T h l0 = 11 ∧ am_PC d mi_P_isSending [.inr (.inr l0)] h (fun r1 h2 => ∃ x3 : Int32, r1 = some (.inl x3) ∧ ((x3 = 0) → am_T h2 l0 = 11 ∧ ¬ l3 = 0 ∧ am_P d mi_P_beginNext 44 [some (.inr (.inr l0)), some (.inr (.inl l1)), none, some (.inr (.inl l3)), none, some (.inr (.inl ((l1 + (am_J h2 35 l0)) - (l1 + (am_J h2 35 l0)) / l3 * l3))), none, some (.inl (7 : Int32)), none, none, none] [] h2 Q) ∧ (¬ (x3 = 0) → Q none h2)))))) : am_PC (d + 1) mi_P_beginNext [.inr (.inr l0), .inr (.inl l1), .inr (.inl l3)] h Q := am_B_P (k := 26) (stops := [44]) (d := d) (mid := mi_P_beginNext) (pc := 0) (l := [some (.inr (.inr l0)), some (.inr (.inl l1)), none, some (.inr (.inl l3)), none, none, none, none, none, none, none]) (st := []) (h := h) (Q := Q) H
set_option maxRecDepth 100000 in
theorem bk_P_beginNext_44 {d : Nat} {l0 : Nat} {l1 : Int64} {l5 : Int64} {l7 : Int32} {y2 y3 y4 y6 y8 y9 y10 : Option am_V} {h : am_H} {Q : Option am_V → am_H → Prop} (H : ((l7 < 0) → Q none h) ∧ (¬ (l7 < 0) → am_T h l0 = 11 ∧ 100 ≤ am_T h (am_R h 33 l0) ∧ vp_in l7 (am_N h (am_R h 33 l0)) ∧ am_T h (am_aR h (am_R h 33 l0) l7.toNatClampNeg) = 12 ∧ (((am_I h 67 (am_aR h (am_R h 33 l0) l7.toNatClampNeg)) = 0) → am_P d mi_P_beginNext 44 [some (.inr (.inr l0)), some (.inr (.inl l1)), none, none, none, some (.inr (.inl l5)), none, some (.inl (l7 + (-1 : Int32))), some (.inr (.inr (am_aR h (am_R h 33 l0) l7.toNatClampNeg))), none, none] [] h Q) ∧ (¬ ((am_I h 67 (am_aR h (am_R h 33 l0) l7.toNatClampNeg)) = 0) → am_T h (am_aR h (am_R h 33 l0) l7.toNatClampNeg) = 12 ∧ am_PC d mi_K_firstBits [.inr (.inr (am_aR h (am_R h 33 l0) l7.toNatClampNeg))] h (fun r1 h2 => ∃ x3 : Int32, r1 = some (.inl x3) ∧ am_T h2 l0 = 11 ∧ am_T h2 l0 = 11 ∧ ¬ (am_J h2 34 l0) = 0 ∧ am_T h2 (am_aR h (am_R h 33 l0) l7.toNatClampNeg) = 12 ∧ am_PC d mi_K_letsBegin [.inr (.inr (am_aR h (am_R h 33 l0) l7.toNatClampNeg)), .inr (.inl l5), .inr (.inl (((x3.toInt64 + (am_J h2 34 l0)) - (1 : Int64)) / (am_J h2 34 l0)))] h2 (fun r4 h5 => ∃ x6 : Int32, r4 = some (.inl x6) ∧ ((x6 = 0) → am_P d mi_P_beginNext 44 [some (.inr (.inr l0)), some (.inr (.inl l1)), none, none, none, some (.inr (.inl l5)), none, some (.inl (l7 + (-1 : Int32))), some (.inr (.inr (am_aR h (am_R h 33 l0) l7.toNatClampNeg))), some (.inr (.inl (((x3.toInt64 + (am_J h2 34 l0)) - (1 : Int64)) / (am_J h2 34 l0)))), none] [] h5 Q) ∧ (¬ (x6 = 0) → am_T h5 (am_aR h (am_R h 33 l0) l7.toNatClampNeg) = 12 ∧ am_PC d mi_K_removeFirst [.inr (.inr (am_aR h (am_R h 33 l0) l7.toNatClampNeg))] h5 (fun r7 h8 => ∃ x9 : Int32, r7 = some (.inl x9) ∧ am_T h8 l0 = 11 ∧ (∀ h10 : am_H, h10 = am_sI h8 37 l0 x9 → am_T h10 l0 = 11 ∧ (∀ h11 : am_H, h11 = am_sI h10 38 l0 l7 → am_T h11 l0 = 11 ∧ (∀ h12 : am_H, h12 = am_sJ h11 39 l0 l1 → am_T h12 l0 = 11 ∧ (∀ h13 : am_H, h13 = am_sJ h12 40 l0 (l1 + (((x3.toInt64 + (am_J h2 34 l0)) - (1 : Int64)) / (am_J h2 34 l0))) → 1 = 1 ∧ am_T h13 l0 = 11 ∧ am_T h13 l0 = 11 ∧ (∀ h14 : am_H, h14 = am_sI h13 36 l0 ((am_I h13 36 l0) - (1 : Int32)) → Q none h14)))))))))))) : am_P d mi_P_beginNext 44 [some (.inr (.inr l0)), some (.inr (.inl l1)), y2, y3, y4, some (.inr (.inl l5)), y6, some (.inl l7), y8, y9, y10] [] h Q := am_P_le (l := [some (.inr (.inr l0)), some (.inr (.inl l1)), none, none, none, some (.inr (.inl l5)), none, some (.inl l7), none, none, none]) ⟨Or.inr rfl, Or.inr rfl, Or.inl rfl, Or.inl rfl, Or.inl rfl, Or.inr rfl, Or.inl rfl, Or.inr rfl, Or.inl rfl, Or.inl rfl, Or.inl rfl, trivial⟩ (am_B_P (k := 50) (stops := [44]) H)
set_option maxRecDepth 100000 in
theorem bk_K_firstBits {d : Nat} {l0 : Nat} {h : am_H} {Q : Option am_V → am_H → Prop} (H : am_T h l0 = 12 ∧ am_T h l0 = 12 ∧ (am_T h (am_R h 65 l0) = 1 ∨ am_T h (am_R h 65 l0) = 3) ∧ vp_in (am_I h 66 l0) (am_N h (am_R h 65 l0)) ∧ Q (some (.inl ((8 : Int32) * ((am_aI h (am_R h 65 l0) (am_I h 66 l0).toNatClampNeg) + (20 : Int32))))) h) : am_PC (d + 1) mi_K_firstBits [.inr (.inr l0)] h Q := am_B_P (k := 11) (stops := []) (d := d) (mid := mi_K_firstBits) (pc := 0) (l := [some (.inr (.inr l0))]) (st := []) (h := h) (Q := Q) H
set_option maxRecDepth 100000 in
theorem bk_K_letsBegin {d : Nat} {l0 : Nat} {l1 : Int64} {l3 : Int64} {h : am_H} {Q : Option am_V → am_H → Prop} (H : am_T h l0 = 12 ∧ am_PC d mi_K_isShaped [.inr (.inr l0)] h (fun r1 h2 => ∃ x3 : Int32, r1 = some (.inl x3) ∧ ((x3 = 0) → am_P d mi_K_letsBegin 16 [some (.inr (.inr l0)), some (.inr (.inl l1)), none, some (.inr (.inl l3)), none] [] h2 Q) ∧ (¬ (x3 = 0) → am_T h2 l0 = 12 ∧ (((lg_cmp (am_J h2 73 l0) (0 : Int64)) < 0) → ((0 : Int32) = 0 ∨ (0 : Int32) = 1) ∧ Q (some (.inl (0 : Int32))) h2) ∧ (¬ ((lg_cmp (am_J h2 73 l0) (0 : Int64)) < 0) → am_P d mi_K_letsBegin 16 [some (.inr (.inr l0)), some (.inr (.inl l1)), none, some (.inr (.inl l3)), none] [] h2 Q)))) : am_PC (d + 1) mi_K_letsBegin [.inr (.inr l0), .inr (.inl l1), .inr (.inl l3)] h Q := am_B_P (k := 11) (stops := [16]) (d := d) (mid := mi_K_letsBegin) (pc := 0) (l := [some (.inr (.inr l0)), some (.inr (.inl l1)), none, some (.inr (.inl l3)), none]) (st := []) (h := h) (Q := Q) H
set_option maxRecDepth 100000 in
theorem bk_K_letsBegin_16 {d : Nat} {l0 : Nat} {l1 : Int64} {l3 : Int64} {y2 y4 : Option am_V} {h : am_H} {Q : Option am_V → am_H → Prop} (H : am_T h l0 = 12 ∧ am_PC d mi_K_isOpenFor [.inr (.inr l0), .inr (.inl l1), .inr (.inl l3)] h (fun r1 h2 => ∃ x3 : Int32, r1 = some (.inl x3) ∧ ((x3 = 0) → ((0 : Int32) = 0 ∨ (0 : Int32) = 1) ∧ Q (some (.inl (0 : Int32))) h2) ∧ (¬ (x3 = 0) → ((1 : Int32) = 0 ∨ (1 : Int32) = 1) ∧ Q (some (.inl (1 : Int32))) h2))) : am_P d mi_K_letsBegin 16 [some (.inr (.inr l0)), some (.inr (.inl l1)), y2, some (.inr (.inl l3)), y4] [] h Q := am_P_le (l := [some (.inr (.inr l0)), some (.inr (.inl l1)), none, some (.inr (.inl l3)), none]) ⟨Or.inr rfl, Or.inr rfl, Or.inl rfl, Or.inr rfl, Or.inl rfl, trivial⟩ (am_B_P (k := 9) (stops := [16]) H)
set_option maxRecDepth 100000 in
theorem bk_K_isShaped {d : Nat} {l0 : Nat} {h : am_H} {Q : Option am_V → am_H → Prop} (H : am_T h l0 = 12 ∧ (((lg_cmp (am_J h 71 l0) (0 : Int64)) ≤ 0) → ((0 : Int32) = 0 ∨ (0 : Int32) = 1) ∧ Q (some (.inl (0 : Int32))) h) ∧ (¬ ((lg_cmp (am_J h 71 l0) (0 : Int64)) ≤ 0) → ((1 : Int32) = 0 ∨ (1 : Int32) = 1) ∧ Q (some (.inl (1 : Int32))) h)) : am_PC (d + 1) mi_K_isShaped [.inr (.inr l0)] h Q := am_B_P (k := 9) (stops := []) (d := d) (mid := mi_K_isShaped) (pc := 0) (l := [some (.inr (.inr l0))]) (st := []) (h := h) (Q := Q) H
set_option maxRecDepth 100000 in
theorem bk_K_isOpenFor {d : Nat} {l0 : Nat} {l1 : Int64} {l3 : Int64} {h : am_H} {Q : Option am_V → am_H → Prop} (H : am_P d mi_K_isOpenFor 3 [some (.inr (.inr l0)), some (.inr (.inl l1)), none, some (.inr (.inl l3)), none, some (.inl (0 : Int32))] [] h Q) : am_PC (d + 1) mi_K_isOpenFor [.inr (.inr l0), .inr (.inl l1), .inr (.inl l3)] h Q := am_B_P (k := 4) (stops := [3]) (d := d) (mid := mi_K_isOpenFor) (pc := 0) (l := [some (.inr (.inr l0)), some (.inr (.inl l1)), none, some (.inr (.inl l3)), none, none]) (st := []) (h := h) (Q := Q) H
set_option maxRecDepth 100000 in
theorem bk_K_isOpenFor_3 {d : Nat} {l0 : Nat} {l1 : Int64} {l3 : Int64} {l5 : Int32} {y2 y4 : Option am_V} {h : am_H} {Q : Option am_V → am_H → Prop} (H : am_T h l0 = 12 ∧ (((am_I h 70 l0) ≤ l5) → am_T h l0 = 12 ∧ (((am_I h 70 l0) = 0) → ((1 : Int32) = 0 ∨ (1 : Int32) = 1) ∧ Q (some (.inl (1 : Int32))) h) ∧ (¬ ((am_I h 70 l0) = 0) → ((0 : Int32) = 0 ∨ (0 : Int32) = 1) ∧ Q (some (.inl (0 : Int32))) h)) ∧ (¬ ((am_I h 70 l0) ≤ l5) → am_T h l0 = 12 ∧ am_T h (am_R h 68 l0) = 2 ∧ vp_in l5 (am_N h (am_R h 68 l0)) ∧ ((0 < (lg_cmp (am_aJ h (am_R h 68 l0) l5.toNatClampNeg) l1)) → am_P d mi_K_isOpenFor 3 [some (.inr (.inr l0)), some (.inr (.inl l1)), none, some (.inr (.inl l3)), none, some (.inl (l5 + (1 : Int32)))] [] h Q) ∧ (¬ (0 < (lg_cmp (am_aJ h (am_R h 68 l0) l5.toNatClampNeg) l1)) → am_T h l0 = 12 ∧ am_T h (am_R h 69 l0) = 2 ∧ vp_in l5 (am_N h (am_R h 69 l0)) ∧ ((0 ≤ (lg_cmp l1 (am_aJ h (am_R h 69 l0) l5.toNatClampNeg))) → am_P d mi_K_isOpenFor 3 [some (.inr (.inr l0)), some (.inr (.inl l1)), none, some (.inr (.inl l3)), none, some (.inl (l5 + (1 : Int32)))] [] h Q) ∧ (¬ (0 ≤ (lg_cmp l1 (am_aJ h (am_R h 69 l0) l5.toNatClampNeg))) → am_T h l0 = 12 ∧ am_T h (am_R h 69 l0) = 2 ∧ vp_in l5 (am_N h (am_R h 69 l0)) ∧ ((0 < (lg_cmp l3 ((am_aJ h (am_R h 69 l0) l5.toNatClampNeg) - l1))) → am_P d mi_K_isOpenFor 3 [some (.inr (.inr l0)), some (.inr (.inl l1)), none, some (.inr (.inl l3)), none, some (.inl (l5 + (1 : Int32)))] [] h Q) ∧ (¬ (0 < (lg_cmp l3 ((am_aJ h (am_R h 69 l0) l5.toNatClampNeg) - l1))) → ((1 : Int32) = 0 ∨ (1 : Int32) = 1) ∧ Q (some (.inl (1 : Int32))) h))))) : am_P d mi_K_isOpenFor 3 [some (.inr (.inr l0)), some (.inr (.inl l1)), y2, some (.inr (.inl l3)), y4, some (.inl l5)] [] h Q := am_P_le (l := [some (.inr (.inr l0)), some (.inr (.inl l1)), none, some (.inr (.inl l3)), none, some (.inl l5)]) ⟨Or.inr rfl, Or.inr rfl, Or.inl rfl, Or.inr rfl, Or.inl rfl, Or.inr rfl, trivial⟩ (am_B_P (k := 31) (stops := [3]) H)
set_option maxRecDepth 100000 in
theorem bk_K_removeFirst {d : Nat} {l0 : Nat} {h : am_H} {Q : Option am_V → am_H → Prop} (H : am_T h l0 = 12 ∧ am_T h l0 = 12 ∧ (am_T h (am_R h 64 l0) = 1 ∨ am_T h (am_R h 64 l0) = 3) ∧ vp_in (am_I h 66 l0) (am_N h (am_R h 64 l0)) ∧ am_T h l0 = 12 ∧ ¬ (16 : Int32) = 0 ∧ am_T h l0 = 12 ∧ (∀ h1 : am_H, h1 = am_sI h 66 l0 (((am_I h 66 l0) + (1 : Int32)) - ((am_I h 66 l0) + (1 : Int32)) / (16 : Int32) * (16 : Int32)) → 1 = 1 ∧ am_T h1 l0 = 12 ∧ am_T h1 l0 = 12 ∧ (∀ h2 : am_H, h2 = am_sI h1 67 l0 ((am_I h1 67 l0) - (1 : Int32)) → Q (some (.inl (am_aI h (am_R h 64 l0) (am_I h 66 l0).toNatClampNeg))) h2))) : am_PC (d + 1) mi_K_removeFirst [.inr (.inr l0)] h Q := am_B_P (k := 23) (stops := []) (d := d) (mid := mi_K_removeFirst) (pc := 0) (l := [some (.inr (.inr l0)), none]) (st := []) (h := h) (Q := Q) H
set_option maxRecDepth 100000 in
theorem bk_X_ticksUntilChange {d : Nat} {l0 : Nat} {h : am_H} {Q : Option am_V → am_H → Prop} (H : am_P d mi_X_ticksUntilChange 6 [some (.inr (.inr l0)), some (.inr (.inl (2000 : Int64))), none, some (.inl (0 : Int32))] [] h Q) : am_PC (d + 1) mi_X_ticksUntilChange [.inr (.inr l0)] h Q := am_B_P (k := 6) (stops := [6]) (d := d) (mid := mi_X_ticksUntilChange) (pc := 0) (l := [some (.inr (.inr l0)), none, none, none]) (st := []) (h := h) (Q := Q) H
set_option maxRecDepth 100000 in
theorem bk_X_ticksUntilChange_6 {d : Nat} {l0 : Nat} {l1 : Int64} {l3 : Int32} {y2 : Option am_V} {h : am_H} {Q : Option am_V → am_H → Prop} (H : am_T h l0 = 10 ∧ (am_T h (am_R h 0 l0) = 1 ∨ am_T h (am_R h 0 l0) = 2 ∨ am_T h (am_R h 0 l0) = 3 ∨ am_T h (am_R h 0 l0) = 4 ∨ 100 ≤ am_T h (am_R h 0 l0)) ∧ (((Int32.ofNat (am_N h (am_R h 0 l0))) ≤ l3) → Q (some (.inr (.inl (if l1 < (1 : Int64) then (1 : Int64) else l1)))) h) ∧ (¬ ((Int32.ofNat (am_N h (am_R h 0 l0))) ≤ l3) → am_T h l0 = 10 ∧ 100 ≤ am_T h (am_R h 0 l0) ∧ vp_in l3 (am_N h (am_R h 0 l0)) ∧ am_T h l0 = 10 ∧ am_T h (am_aR h (am_R h 0 l0) l3.toNatClampNeg) = 11 ∧ am_PC d mi_P_ticksUntilChange [.inr (.inr (am_aR h (am_R h 0 l0) l3.toNatClampNeg)), .inr (.inl (am_J h 6 l0))] h (fun r1 h2 => ∃ x3 : Int64, r1 = some (.inr (.inl x3)) ∧ am_P d mi_X_ticksUntilChange 6 [some (.inr (.inr l0)), some (.inr (.inl (if x3 < l1 then x3 else l1))), none, some (.inl (l3 + (1 : Int32)))] [] h2 Q))) : am_P d mi_X_ticksUntilChange 6 [some (.inr (.inr l0)), some (.inr (.inl l1)), y2, some (.inl l3)] [] h Q := am_P_le (l := [some (.inr (.inr l0)), some (.inr (.inl l1)), none, some (.inl l3)]) ⟨Or.inr rfl, Or.inr rfl, Or.inl rfl, Or.inr rfl, trivial⟩ (am_B_P (k := 19) (stops := [6]) H)
set_option maxRecDepth 100000 in
theorem bk_P_ticksUntilChange {d : Nat} {l0 : Nat} {l1 : Int64} {h : am_H} {Q : Option am_V → am_H → Prop} (H : am_T h l0 = 11 ∧ am_PC d mi_P_isSending [.inr (.inr l0)] h (fun r1 h2 => ∃ x3 : Int32, r1 = some (.inl x3) ∧ ((x3 = 0) → am_T h2 l0 = 11 ∧ (((am_I h2 36 l0) ≤ 0) → Q (some (.inr (.inl (2000 : Int64)))) h2) ∧ (¬ ((am_I h2 36 l0) ≤ 0) → Q (some (.inr (.inl (1 : Int64)))) h2)) ∧ (¬ (x3 = 0) → am_T h2 l0 = 11 ∧ Q (some (.inr (.inl ((am_J h2 40 l0) - l1)))) h2))) : am_PC (d + 1) mi_P_ticksUntilChange [.inr (.inr l0), .inr (.inl l1)] h Q := am_B_P (k := 10) (stops := []) (d := d) (mid := mi_P_ticksUntilChange) (pc := 0) (l := [some (.inr (.inr l0)), some (.inr (.inl l1)), none]) (st := []) (h := h) (Q := Q) H
set_option maxRecDepth 100000 in
theorem bk_X_moveCredits {d : Nat} {l0 : Nat} {l1 : Int64} {h : am_H} {Q : Option am_V → am_H → Prop} (H : am_P d mi_X_moveCredits 2 [some (.inr (.inr l0)), some (.inr (.inl l1)), none, some (.inl (0 : Int32))] [] h Q) : am_PC (d + 1) mi_X_moveCredits [.inr (.inr l0), .inr (.inl l1)] h Q := am_B_P (k := 4) (stops := [2]) (d := d) (mid := mi_X_moveCredits) (pc := 0) (l := [some (.inr (.inr l0)), some (.inr (.inl l1)), none, none]) (st := []) (h := h) (Q := Q) H
set_option maxRecDepth 100000 in
theorem bk_X_moveCredits_2 {d : Nat} {l0 : Nat} {l1 : Int64} {l3 : Int32} {y2 : Option am_V} {h : am_H} {Q : Option am_V → am_H → Prop} (H : am_T h l0 = 10 ∧ (am_T h (am_R h 0 l0) = 1 ∨ am_T h (am_R h 0 l0) = 2 ∨ am_T h (am_R h 0 l0) = 3 ∨ am_T h (am_R h 0 l0) = 4 ∨ 100 ≤ am_T h (am_R h 0 l0)) ∧ (((Int32.ofNat (am_N h (am_R h 0 l0))) ≤ l3) → Q none h) ∧ (¬ ((Int32.ofNat (am_N h (am_R h 0 l0))) ≤ l3) → am_T h l0 = 10 ∧ 100 ≤ am_T h (am_R h 0 l0) ∧ vp_in l3 (am_N h (am_R h 0 l0)) ∧ am_T h (am_aR h (am_R h 0 l0) l3.toNatClampNeg) = 11 ∧ am_PC d mi_P_moveCredits [.inr (.inr (am_aR h (am_R h 0 l0) l3.toNatClampNeg)), .inr (.inl l1)] h (fun r1 h2 => r1 = none ∧ am_P d mi_X_moveCredits 2 [some (.inr (.inr l0)), some (.inr (.inl l1)), none, some (.inl (l3 + (1 : Int32)))] [] h2 Q))) : am_P d mi_X_moveCredits 2 [some (.inr (.inr l0)), some (.inr (.inl l1)), y2, some (.inl l3)] [] h Q := am_P_le (l := [some (.inr (.inr l0)), some (.inr (.inl l1)), none, some (.inl l3)]) ⟨Or.inr rfl, Or.inr rfl, Or.inl rfl, Or.inr rfl, trivial⟩ (am_B_P (k := 15) (stops := [2]) H)
set_option maxRecDepth 100000 in
theorem bk_P_moveCredits {d : Nat} {l0 : Nat} {l1 : Int64} {h : am_H} {Q : Option am_V → am_H → Prop} (H : am_P d mi_P_moveCredits 2 [some (.inr (.inr l0)), some (.inr (.inl l1)), none, some (.inl (0 : Int32)), none] [] h Q) : am_PC (d + 1) mi_P_moveCredits [.inr (.inr l0), .inr (.inl l1)] h Q := am_B_P (k := 4) (stops := [2]) (d := d) (mid := mi_P_moveCredits) (pc := 0) (l := [some (.inr (.inr l0)), some (.inr (.inl l1)), none, none, none]) (st := []) (h := h) (Q := Q) H
set_option maxRecDepth 100000 in
theorem bk_P_moveCredits_2 {d : Nat} {l0 : Nat} {l1 : Int64} {l3 : Int32} {y2 y4 : Option am_V} {h : am_H} {Q : Option am_V → am_H → Prop} (H : (((8 : Int32) ≤ l3) → Q none h) ∧ (¬ ((8 : Int32) ≤ l3) → am_T h l0 = 11 ∧ 100 ≤ am_T h (am_R h 33 l0) ∧ vp_in l3 (am_N h (am_R h 33 l0)) ∧ am_T h (am_aR h (am_R h 33 l0) l3.toNatClampNeg) = 12 ∧ am_PC d mi_K_isShaped [.inr (.inr (am_aR h (am_R h 33 l0) l3.toNatClampNeg))] h (fun r1 h2 => ∃ x3 : Int32, r1 = some (.inl x3) ∧ ((x3 = 0) → am_P d mi_P_moveCredits 2 [some (.inr (.inr l0)), some (.inr (.inl l1)), none, some (.inl (l3 + (1 : Int32))), some (.inr (.inr (am_aR h (am_R h 33 l0) l3.toNatClampNeg)))] [] h2 Q) ∧ (¬ (x3 = 0) → am_T h2 l0 = 11 ∧ am_PC d mi_P_isSending [.inr (.inr l0)] h2 (fun r4 h5 => ∃ x6 : Int32, r4 = some (.inl x6) ∧ ((x6 = 0) → am_T h5 (am_aR h (am_R h 33 l0) l3.toNatClampNeg) = 12 ∧ am_PC d mi_K_moveCredit [.inr (.inr (am_aR h (am_R h 33 l0) l3.toNatClampNeg)), .inr (.inl l1), .inr (.inl (0 : Int64))] h5 (fun r7 h8 => r7 = none ∧ am_P d mi_P_moveCredits 2 [some (.inr (.inr l0)), some (.inr (.inl l1)), none, some (.inl (l3 + (1 : Int32))), some (.inr (.inr (am_aR h (am_R h 33 l0) l3.toNatClampNeg)))] [] h8 Q)) ∧ (¬ (x6 = 0) → am_T h5 l0 = 11 ∧ (((am_I h5 38 l0) = l3) → am_T h5 l0 = 11 ∧ am_T h5 (am_aR h (am_R h 33 l0) l3.toNatClampNeg) = 12 ∧ am_PC d mi_K_moveCredit [.inr (.inr (am_aR h (am_R h 33 l0) l3.toNatClampNeg)), .inr (.inl l1), .inr (.inl (am_J h5 34 l0))] h5 (fun r9 h10 => r9 = none ∧ am_P d mi_P_moveCredits 2 [some (.inr (.inr l0)), some (.inr (.inl l1)), none, some (.inl (l3 + (1 : Int32))), some (.inr (.inr (am_aR h (am_R h 33 l0) l3.toNatClampNeg)))] [] h10 Q)) ∧ (¬ ((am_I h5 38 l0) = l3) → am_T h5 (am_aR h (am_R h 33 l0) l3.toNatClampNeg) = 12 ∧ am_PC d mi_K_moveCredit [.inr (.inr (am_aR h (am_R h 33 l0) l3.toNatClampNeg)), .inr (.inl l1), .inr (.inl (0 : Int64))] h5 (fun r11 h12 => r11 = none ∧ am_P d mi_P_moveCredits 2 [some (.inr (.inr l0)), some (.inr (.inl l1)), none, some (.inl (l3 + (1 : Int32))), some (.inr (.inr (am_aR h (am_R h 33 l0) l3.toNatClampNeg)))] [] h12 Q)))))))) : am_P d mi_P_moveCredits 2 [some (.inr (.inr l0)), some (.inr (.inl l1)), y2, some (.inl l3), y4] [] h Q := am_P_le (l := [some (.inr (.inr l0)), some (.inr (.inl l1)), none, some (.inl l3), none]) ⟨Or.inr rfl, Or.inr rfl, Or.inl rfl, Or.inr rfl, Or.inl rfl, trivial⟩ (am_B_P (k := 28) (stops := [2]) H)
set_option maxRecDepth 100000 in
theorem bk_K_moveCredit {d : Nat} {l0 : Nat} {l1 : Int64} {l3 : Int64} {h : am_H} {Q : Option am_V → am_H → Prop} (H : (((lg_cmp l3 (0 : Int64)) ≤ 0) → am_T h l0 = 12 ∧ (((am_I h 67 l0) ≤ 0) → am_T h l0 = 12 ∧ ((0 ≤ (lg_cmp (am_J h 73 l0) (0 : Int64))) → am_T h l0 = 12 ∧ (∀ h1 : am_H, h1 = am_sJ h 73 l0 (0 : Int64) → Q none h1)) ∧ (¬ (0 ≤ (lg_cmp (am_J h 73 l0) (0 : Int64))) → am_T h l0 = 12 ∧ am_T h l0 = 12 ∧ am_T h l0 = 12 ∧ (∀ h2 : am_H, h2 = am_sJ h 73 l0 (if ((am_J h 73 l0) + (l1 * (am_J h 71 l0))) < (0 : Int64) then ((am_J h 73 l0) + (l1 * (am_J h 71 l0))) else (0 : Int64)) → Q none h2))) ∧ (¬ ((am_I h 67 l0) ≤ 0) → 1 = 1 ∧ am_T h l0 = 12 ∧ am_T h l0 = 12 ∧ am_T h l0 = 12 ∧ (∀ h3 : am_H, h3 = am_sJ h 73 l0 ((am_J h 73 l0) + (l1 * (am_J h 71 l0))) → Q none h3))) ∧ (¬ ((lg_cmp l3 (0 : Int64)) ≤ 0) → 1 = 1 ∧ am_T h l0 = 12 ∧ am_T h l0 = 12 ∧ am_T h l0 = 12 ∧ am_T h l0 = 12 ∧ (∀ h4 : am_H, h4 = am_sJ h 73 l0 ((am_J h 73 l0) - (l1 * ((l3 * (am_J h 72 l0)) - (am_J h 71 l0)))) → Q none h4))) : am_PC (d + 1) mi_K_moveCredit [.inr (.inr l0), .inr (.inl l1), .inr (.inl l3)] h Q := am_B_P (k := 26) (stops := []) (d := d) (mid := mi_K_moveCredit) (pc := 0) (l := [some (.inr (.inr l0)), some (.inr (.inl l1)), none, some (.inr (.inl l3)), none]) (st := []) (h := h) (Q := Q) H
set_option maxRecDepth 100000 in
theorem bk_X_left {d : Nat} {l0 : Nat} {l1 : Int32} {l2 : Int32} {h : am_H} {Q : Option am_V → am_H → Prop} (H : ((l1 = (-1 : Int32)) → ((l2 = 0) → am_T h l0 = 10 ∧ Q (some (.inl (am_I h 10 l0))) h) ∧ (¬ (l2 = 0) → am_P d mi_X_left 14 [some (.inr (.inr l0)), some (.inl l1), some (.inl l2), none] [] h Q)) ∧ (¬ (l1 = (-1 : Int32)) → am_P d mi_X_left 14 [some (.inr (.inr l0)), some (.inl l1), some (.inl l2), none] [] h Q)) : am_PC (d + 1) mi_X_left [.inr (.inr l0), .inl l1, .inl l2] h Q := am_B_P (k := 9) (stops := [14]) (d := d) (mid := mi_X_left) (pc := 0) (l := [some (.inr (.inr l0)), some (.inl l1), some (.inl l2), none]) (st := []) (h := h) (Q := Q) H
set_option maxRecDepth 100000 in
theorem bk_X_left_14 {d : Nat} {l0 : Nat} {l1 : Int32} {l2 : Int32} {y3 : Option am_V} {h : am_H} {Q : Option am_V → am_H → Prop} (H : ((l1 < 0) → Q (some (.inl (-1 : Int32))) h) ∧ (¬ (l1 < 0) → am_T h l0 = 10 ∧ am_T h (am_R h 2 l0) = 16 ∧ am_PC d mi_L_size [.inr (.inr (am_R h 2 l0))] h (fun r1 h2 => ∃ x3 : Int32, r1 = some (.inl x3) ∧ ((l1 < x3) → am_T h2 l0 = 10 ∧ am_T h2 (am_R h2 2 l0) = 16 ∧ am_PC d mi_L_get [.inr (.inr (am_R h2 2 l0)), .inl l1] h2 (fun r4 h5 => ∃ x6 : Nat, r4 = some (.inr (.inr x6)) ∧ (x6 = 0 ∨ am_T h5 x6 = 15) ∧ (l2 = (0 : Int32) → am_T h5 x6 = 15 ∧ Q (some (.inl (am_I h5 160 x6))) h5) ∧ (¬ l2 = (0 : Int32) → (l2 = (1 : Int32) → am_T h5 x6 = 15 ∧ Q (some (.inl (am_I h5 161 x6))) h5) ∧ (¬ l2 = (1 : Int32) → (l2 = (2 : Int32) → am_T h5 x6 = 15 ∧ Q (some (.inl (am_J h5 162 x6).toInt32)) h5) ∧ (¬ l2 = (2 : Int32) → (l2 = (3 : Int32) → am_T h5 x6 = 15 ∧ Q (some (.inl (am_J h5 163 x6).toInt32)) h5) ∧ (¬ l2 = (3 : Int32) → Q (some (.inl (-2 : Int32))) h5)))))) ∧ (¬ (l1 < x3) → Q (some (.inl (-1 : Int32))) h2)))) : am_P d mi_X_left 14 [some (.inr (.inr l0)), some (.inl l1), some (.inl l2), y3] [] h Q := am_P_le (l := [some (.inr (.inr l0)), some (.inl l1), some (.inl l2), none]) ⟨Or.inr rfl, Or.inr rfl, Or.inr rfl, Or.inl rfl, trivial⟩ (am_B_P (k := 20) (stops := [14]) H)
set_option maxRecDepth 100000 in
theorem bk_X_learn {d : Nat} {l0 : Nat} {l1 : Int32} {l2 : Int32} {l3 : Int64} {h : am_H} {Q : Option am_V → am_H → Prop} (H : am_T h l0 = 10 ∧ am_PC d mi_X_findPort [.inr (.inr l0), .inl l2] h (fun r1 h2 => ∃ x3 : Nat, r1 = some (.inr (.inr x3)) ∧ ((x3 = 0) → Q (some (.inl (-1 : Int32))) h2) ∧ (¬ (x3 = 0) → am_PC d mi_X_isAddress [.inl l1] h2 (fun r4 h5 => ∃ x6 : Int32, r4 = some (.inl x6) ∧ ((x6 = 0) → Q (some (.inl (-2 : Int32))) h5) ∧ (¬ (x6 = 0) → (((lg_cmp l3 (-1 : Int64)) < 0) → Q (some (.inl (-2 : Int32))) h5) ∧ (¬ ((lg_cmp l3 (-1 : Int64)) < 0) → am_T h5 l0 = 10 ∧ (((lg_cmp l3 (am_J h5 6 l0)) ≤ 0) → am_T h5 l0 = 10 ∧ am_PC d mi_X_addressOf [.inr (.inr l0), .inl l1] h5 (fun r7 h8 => ∃ x9 : Nat, r7 = some (.inr (.inr x9)) ∧ am_T h8 x9 = 13 ∧ am_PC d mi_A_isFixed [.inr (.inr x9)] h8 (fun r10 h11 => ∃ x12 : Int32, r10 = some (.inl x12) ∧ ((x12 = 0) → am_P d mi_X_learn 63 [some (.inr (.inr l0)), some (.inl l1), some (.inl l2), some (.inr (.inl l3)), none, some (.inr (.inr x9)), none] [] h11 Q) ∧ (¬ (x12 = 0) → (((lg_cmp l3 (-1 : Int64)) = 0) → am_P d mi_X_learn 63 [some (.inr (.inr l0)), some (.inl l1), some (.inl l2), some (.inr (.inl l3)), none, some (.inr (.inr x9)), none] [] h11 Q) ∧ (¬ ((lg_cmp l3 (-1 : Int64)) = 0) → Q (some (.inl (-3 : Int32))) h11))))) ∧ (¬ ((lg_cmp l3 (am_J h5 6 l0)) ≤ 0) → Q (some (.inl (-2 : Int32))) h5))))))) : am_PC (d + 1) mi_X_learn [.inr (.inr l0), .inl l1, .inl l2, .inr (.inl l3)] h Q := am_B_P (k := 30) (stops := [63]) (d := d) (mid := mi_X_learn) (pc := 0) (l := [some (.inr (.inr l0)), some (.inl l1), some (.inl l2), some (.inr (.inl l3)), none, none, none]) (st := []) (h := h) (Q := Q) H
set_option maxRecDepth 100000 in
theorem bk_X_learn_63 {d : Nat} {l0 : Nat} {l2 : Int32} {l3 : Int64} {l5 : Nat} {y1 y4 y6 : Option am_V} {h : am_H} {Q : Option am_V → am_H → Prop} (H : am_T h l0 = 10 ∧ am_T h l5 = 13 ∧ am_PC d mi_A_portAt [.inr (.inr l5), .inr (.inl (am_J h 6 l0))] h (fun r1 h2 => ∃ x3 : Int32, r1 = some (.inl x3) ∧ am_T h2 l5 = 13 ∧ (∀ h4 : am_H, h4 = am_sI h2 97 l5 l2 → am_T h4 l5 = 13 ∧ (∀ h5 : am_H, h5 = am_sJ h4 98 l5 l3 → Q (some (.inl x3)) h5)))) : am_P d mi_X_learn 63 [some (.inr (.inr l0)), y1, some (.inl l2), some (.inr (.inl l3)), y4, some (.inr (.inr l5)), y6] [] h Q := am_P_le (l := [some (.inr (.inr l0)), none, some (.inl l2), some (.inr (.inl l3)), none, some (.inr (.inr l5)), none]) ⟨Or.inr rfl, Or.inl rfl, Or.inr rfl, Or.inr rfl, Or.inl rfl, Or.inr rfl, Or.inl rfl, trivial⟩ (am_B_P (k := 14) (stops := [63]) H)
set_option maxRecDepth 100000 in
theorem bk_X_credit {d : Nat} {l0 : Nat} {l1 : Int32} {l2 : Int32} {l3 : Int64} {l5 : Int64} {h : am_H} {Q : Option am_V → am_H → Prop} (H : am_T h l0 = 10 ∧ am_PC d mi_X_findPort [.inr (.inr l0), .inl l1] h (fun r1 h2 => ∃ x3 : Nat, r1 = some (.inr (.inr x3)) ∧ ((x3 = 0) → Q (some (.inl (-1 : Int32))) h2) ∧ (¬ (x3 = 0) → am_PC d mi_X_isRank [.inl l2] h2 (fun r4 h5 => ∃ x6 : Int32, r4 = some (.inl x6) ∧ ((x6 = 0) → Q (some (.inl (-1 : Int32))) h5) ∧ (¬ (x6 = 0) → (((lg_cmp l5 (1 : Int64)) < 0) → Q (some (.inl (-2 : Int32))) h5) ∧ (¬ ((lg_cmp l5 (1 : Int64)) < 0) → ((0 < (lg_cmp l5 (1000 : Int64))) → Q (some (.inl (-2 : Int32))) h5) ∧ (¬ (0 < (lg_cmp l5 (1000 : Int64))) → (((lg_cmp l3 (0 : Int64)) < 0) → Q (some (.inl (-2 : Int32))) h5) ∧ (¬ ((lg_cmp l3 (0 : Int64)) < 0) → (((lg_cmp l3 ((10000 : Int64) * l5)) ≤ 0) → am_T h5 x3 = 11 ∧ 100 ≤ am_T h5 (am_R h5 33 x3) ∧ vp_in l2 (am_N h5 (am_R h5 33 x3)) ∧ am_T h5 (am_aR h5 (am_R h5 33 x3) l2.toNatClampNeg) = 12 ∧ am_PC d mi_K_shape [.inr (.inr (am_aR h5 (am_R h5 33 x3) l2.toNatClampNeg)), .inr (.inl l3), .inr (.inl l5)] h5 (fun r7 h8 => r7 = none ∧ Q (some (.inl (1 : Int32))) h8)) ∧ (¬ ((lg_cmp l3 ((10000 : Int64) * l5)) ≤ 0) → Q (some (.inl (-2 : Int32))) h5))))))))) : am_PC (d + 1) mi_X_credit [.inr (.inr l0), .inl l1, .inl l2, .inr (.inl l3), .inr (.inl l5)] h Q := am_B_P (k := 37) (stops := []) (d := d) (mid := mi_X_credit) (pc := 0) (l := [some (.inr (.inr l0)), some (.inl l1), some (.inl l2), some (.inr (.inl l3)), none, some (.inr (.inl l5)), none, none]) (st := []) (h := h) (Q := Q) H
set_option maxRecDepth 100000 in
theorem bk_K_shape {d : Nat} {l0 : Nat} {l1 : Int64} {l3 : Int64} {h : am_H} {Q : Option am_V → am_H → Prop} (H : am_T h l0 = 12 ∧ (∀ h1 : am_H, h1 = am_sJ h 71 l0 l1 → am_T h1 l0 = 12 ∧ (∀ h2 : am_H, h2 = am_sJ h1 72 l0 l3 → am_T h2 l0 = 12 ∧ (∀ h3 : am_H, h3 = am_sJ h2 73 l0 (0 : Int64) → Q none h3)))) : am_PC (d + 1) mi_K_shape [.inr (.inr l0), .inr (.inl l1), .inr (.inl l3)] h Q := am_B_P (k := 11) (stops := []) (d := d) (mid := mi_K_shape) (pc := 0) (l := [some (.inr (.inr l0)), some (.inr (.inl l1)), none, some (.inr (.inl l3)), none]) (st := []) (h := h) (Q := Q) H
set_option maxRecDepth 100000 in
theorem bk_X_filter {d : Nat} {l0 : Nat} {l1 : Int32} {l2 : Int64} {h : am_H} {Q : Option am_V → am_H → Prop} (H : ¬ (8 : Int32) = 0 ∧ ((l1 < 0) → Q (some (.inl (-1 : Int32))) h) ∧ (¬ (l1 < 0) → am_PC d mi_X_isAddress [.inl (l1 / (8 : Int32))] h (fun r1 h2 => ∃ x3 : Int32, r1 = some (.inl x3) ∧ ((x3 = 0) → Q (some (.inl (-1 : Int32))) h2) ∧ (¬ (x3 = 0) → ((0 ≤ (lg_cmp l2 (-1 : Int64))) → am_T h2 l0 = 10 ∧ am_PC d mi_X_addressOf [.inr (.inr l0), .inl (l1 / (8 : Int32))] h2 (fun r4 h5 => ∃ x6 : Nat, r4 = some (.inr (.inr x6)) ∧ am_T h5 x6 = 13 ∧ ¬ (8 : Int32) = 0 ∧ 100 ≤ am_T h5 (am_R h5 96 x6) ∧ vp_in (l1 - l1 / (8 : Int32) * (8 : Int32)) (am_N h5 (am_R h5 96 x6)) ∧ am_T h5 (am_aR h5 (am_R h5 96 x6) (l1 - l1 / (8 : Int32) * (8 : Int32)).toNatClampNeg) = 14 ∧ (∀ h7 : am_H, h7 = am_sJ h5 128 (am_aR h5 (am_R h5 96 x6) (l1 - l1 / (8 : Int32) * (8 : Int32)).toNatClampNeg) l2 → am_T h7 l0 = 10 ∧ am_T h7 (am_aR h5 (am_R h5 96 x6) (l1 - l1 / (8 : Int32) * (8 : Int32)).toNatClampNeg) = 14 ∧ am_PC d mi_S_takenAt [.inr (.inr (am_aR h5 (am_R h5 96 x6) (l1 - l1 / (8 : Int32) * (8 : Int32)).toNatClampNeg)), .inr (.inl (am_J h7 6 l0))] h7 (fun r8 h9 => ∃ x10 : Int32, r8 = some (.inl x10) ∧ Q (some (.inl x10)) h9)))) ∧ (¬ (0 ≤ (lg_cmp l2 (-1 : Int64))) → Q (some (.inl (-2 : Int32))) h2))))) : am_PC (d + 1) mi_X_filter [.inr (.inr l0), .inl l1, .inr (.inl l2)] h Q := am_B_P (k := 31) (stops := []) (d := d) (mid := mi_X_filter) (pc := 0) (l := [some (.inr (.inr l0)), some (.inl l1), some (.inr (.inl l2)), none, none, none]) (st := []) (h := h) (Q := Q) H
set_option maxRecDepth 100000 in
theorem bk_X_clock {d : Nat} {l0 : Nat} {l1 : Int32} {l2 : Int64} {h : am_H} {Q : Option am_V → am_H → Prop} (H : am_T h l0 = 10 ∧ am_PC d mi_X_findPort [.inr (.inr l0), .inl l1] h (fun r1 h2 => ∃ x3 : Nat, r1 = some (.inr (.inr x3)) ∧ ((x3 = 0) → Q (some (.inl (-1 : Int32))) h2) ∧ (¬ (x3 = 0) → (((lg_cmp l2 (0 : Int64)) < 0) → Q (some (.inl (-2 : Int32))) h2) ∧ (¬ ((lg_cmp l2 (0 : Int64)) < 0) → (((lg_cmp l2 (1000000 : Int64)) ≤ 0) → am_T h2 x3 = 11 ∧ 1 = 1 ∧ am_T h2 x3 = 11 ∧ am_T h2 x3 = 11 ∧ (∀ h4 : am_H, h4 = am_sJ h2 35 x3 ((am_J h2 35 x3) + (if (if (l2 - (am_J h2 35 x3)) < (100 : Int64) then (l2 - (am_J h2 35 x3)) else (100 : Int64)) < (-100 : Int64) then (-100 : Int64) else (if (l2 - (am_J h2 35 x3)) < (100 : Int64) then (l2 - (am_J h2 35 x3)) else (100 : Int64)))) → am_T h4 x3 = 11 ∧ Q (some (.inl (am_J h4 35 x3).toInt32)) h4)) ∧ (¬ ((lg_cmp l2 (1000000 : Int64)) ≤ 0) → Q (some (.inl (-2 : Int32))) h2))))) : am_PC (d + 1) mi_X_clock [.inr (.inr l0), .inl l1, .inr (.inl l2)] h Q := am_B_P (k := 34) (stops := []) (d := d) (mid := mi_X_clock) (pc := 0) (l := [some (.inr (.inr l0)), some (.inl l1), some (.inr (.inl l2)), none, none, none, none]) (st := []) (h := h) (Q := Q) H
set_option maxRecDepth 100000 in
theorem bk_X_dropped {d : Nat} {l0 : Nat} {l1 : Int32} {h : am_H} {Q : Option am_V → am_H → Prop} (H : ((l1 < 0) → Q (some (.inl (-2 : Int32))) h) ∧ (¬ (l1 < 0) → am_T h l0 = 10 ∧ (am_T h (am_R h 3 l0) = 1 ∨ am_T h (am_R h 3 l0) = 2 ∨ am_T h (am_R h 3 l0) = 3 ∨ am_T h (am_R h 3 l0) = 4 ∨ 100 ≤ am_T h (am_R h 3 l0)) ∧ ((l1 < (Int32.ofNat (am_N h (am_R h 3 l0)))) → am_T h l0 = 10 ∧ (am_T h (am_R h 3 l0) = 1 ∨ am_T h (am_R h 3 l0) = 3) ∧ vp_in l1 (am_N h (am_R h 3 l0)) ∧ Q (some (.inl (am_aI h (am_R h 3 l0) l1.toNatClampNeg))) h) ∧ (¬ (l1 < (Int32.ofNat (am_N h (am_R h 3 l0)))) → Q (some (.inl (-2 : Int32))) h))) : am_PC (d + 1) mi_X_dropped [.inr (.inr l0), .inl l1] h Q := am_B_P (k := 13) (stops := []) (d := d) (mid := mi_X_dropped) (pc := 0) (l := [some (.inr (.inr l0)), some (.inl l1)]) (st := []) (h := h) (Q := Q) H
set_option maxRecDepth 100000 in
theorem bk_X_service {d : Nat} {l0 : Nat} {l1 : Int32} {l2 : Int32} {h : am_H} {Q : Option am_V → am_H → Prop} (H : ((l1 = 0) → am_T h l0 = 10 ∧ am_PC d mi_X_offererOf [.inr (.inr l0), .inl l2] h (fun r1 h2 => ∃ x3 : Int32, r1 = some (.inl x3) ∧ Q (some (.inl x3)) h2)) ∧ (¬ (l1 = 0) → am_T h l0 = 10 ∧ am_PC d mi_X_findPort [.inr (.inr l0), .inl l2] h (fun r4 h5 => ∃ x6 : Nat, r4 = some (.inr (.inr x6)) ∧ ((x6 = 0) → Q (some (.inl (-1 : Int32))) h5) ∧ (¬ (x6 = 0) → am_PC d mi_X_isService [.inl l1] h5 (fun r7 h8 => ∃ x9 : Int32, r7 = some (.inl x9) ∧ ((x9 = 0) → Q (some (.inl (-2 : Int32))) h8) ∧ (¬ (x9 = 0) → am_T h8 l0 = 10 ∧ am_T h8 (am_R h8 4 l0) = 1 ∧ vp_in l1 (am_N h8 (am_R h8 4 l0)) ∧ (∀ h10 : am_H, h10 = am_xI h8 (am_R h8 4 l0) l1.toNatClampNeg l2 → am_T h10 l0 = 10 ∧ am_T h10 l0 = 10 ∧ am_T h10 (am_R h10 5 l0) = 2 ∧ vp_in l1 (am_N h10 (am_R h10 5 l0)) ∧ (∀ h11 : am_H, h11 = am_xJ h10 (am_R h10 5 l0) l1.toNatClampNeg ((am_J h10 6 l0) + (1000 : Int64)) → Q (some (.inl l2)) h11)))))))) : am_PC (d + 1) mi_X_service [.inr (.inr l0), .inl l1, .inl l2] h Q := am_B_P (k := 25) (stops := []) (d := d) (mid := mi_X_service) (pc := 0) (l := [some (.inr (.inr l0)), some (.inl l1), some (.inl l2)]) (st := []) (h := h) (Q := Q) H
set_option maxRecDepth 100000 in
theorem bk_X_offererOf {d : Nat} {l0 : Nat} {l1 : Int32} {h : am_H} {Q : Option am_V → am_H → Prop} (H : am_PC d mi_X_isService [.inl l1] h (fun r1 h2 => ∃ x3 : Int32, r1 = some (.inl x3) ∧ ((x3 = 0) → Q (some (.inl (-2 : Int32))) h2) ∧ (¬ (x3 = 0) → am_T h2 l0 = 10 ∧ am_T h2 l0 = 10 ∧ am_T h2 (am_R h2 5 l0) = 2 ∧ vp_in l1 (am_N h2 (am_R h2 5 l0)) ∧ ((0 ≤ (lg_cmp (am_J h2 6 l0) (am_aJ h2 (am_R h2 5 l0) l1.toNatClampNeg))) → Q (some (.inl (0 : Int32))) h2) ∧ (¬ (0 ≤ (lg_cmp (am_J h2 6 l0) (am_aJ h2 (am_R h2 5 l0) l1.toNatClampNeg))) → am_T h2 l0 = 10 ∧ (am_T h2 (am_R h2 4 l0) = 1 ∨ am_T h2 (am_R h2 4 l0) = 3) ∧ vp_in l1 (am_N h2 (am_R h2 4 l0)) ∧ Q (some (.inl (am_aI h2 (am_R h2 4 l0) l1.toNatClampNeg))) h2)))) : am_PC (d + 1) mi_X_offererOf [.inr (.inr l0), .inl l1] h Q := am_B_P (k := 18) (stops := []) (d := d) (mid := mi_X_offererOf) (pc := 0) (l := [some (.inr (.inr l0)), some (.inl l1)]) (st := []) (h := h) (Q := Q) H
set_option maxRecDepth 100000 in
theorem bk_X_isService {d : Nat} {l0 : Int32} {h : am_H} {Q : Option am_V → am_H → Prop} (H : ((l0 < (1 : Int32)) → ((0 : Int32) = 0 ∨ (0 : Int32) = 1) ∧ Q (some (.inl (0 : Int32))) h) ∧ (¬ (l0 < (1 : Int32)) → (((100 : Int32) < l0) → ((0 : Int32) = 0 ∨ (0 : Int32) = 1) ∧ Q (some (.inl (0 : Int32))) h) ∧ (¬ ((100 : Int32) < l0) → ((1 : Int32) = 0 ∨ (1 : Int32) = 1) ∧ Q (some (.inl (1 : Int32))) h))) : am_PC (d + 1) mi_X_isService [.inl l0] h Q := am_B_P (k := 10) (stops := []) (d := d) (mid := mi_X_isService) (pc := 0) (l := [some (.inl l0)]) (st := []) (h := h) (Q := Q) H
set_option maxRecDepth 100000 in
theorem bk_X_cycle {d : Nat} {l0 : Nat} {l1 : Int64} {h : am_H} {Q : Option am_V → am_H → Prop} (H : (((lg_cmp l1 (0 : Int64)) < 0) → Q (some (.inl (-2 : Int32))) h) ∧ (¬ ((lg_cmp l1 (0 : Int64)) < 0) → ((0 < (lg_cmp l1 (1000000 : Int64))) → Q (some (.inl (-2 : Int32))) h) ∧ (¬ (0 < (lg_cmp l1 (1000000 : Int64))) → am_T h l0 = 10 ∧ ((0 ≤ (lg_cmp l1 (am_J h 8 l0))) → (((lg_cmp l1 (0 : Int64)) = 0) → False) ∧ (¬ ((lg_cmp l1 (0 : Int64)) = 0) → am_T h l0 = 10 ∧ (∀ h1 : am_H, h1 = am_sJ h 7 l0 l1 → Q (some (.inl (1 : Int32))) h1))) ∧ (¬ (0 ≤ (lg_cmp l1 (am_J h 8 l0))) → Q (some (.inl (-2 : Int32))) h)))) : am_PC (d + 1) mi_X_cycle [.inr (.inr l0), .inr (.inl l1)] h Q := am_B_P (k := 23) (stops := []) (d := d) (mid := mi_X_cycle) (pc := 0) (l := [some (.inr (.inr l0)), some (.inr (.inl l1)), none]) (st := []) (h := h) (Q := Q) H
end
section
/-! BLOCKS, written by program: the run from a place comes to Q if this formula holds -/
set_option maxRecDepth 100000 in
theorem bk_M_init {d : Nat} {l0 : Nat} {l1 : Int32} {h : am_H} {Q : Option am_V → am_H → Prop} (H : ¬ l0 = 0 ∧ am_T h l0 = 17 ∧ (∀ h1 : am_H, h1 = am_sJ h 226 l0 (1000 : Int64) → am_P d mi_M_init 11 [some (.inr (.inr l0)), some (.inl l1)] [] h1 Q)) : am_PC (d + 1) mi_M_init [.inr (.inr l0), .inl l1] h Q := am_B_P (k := 7) (stops := [11, 19, 27, 35, 43, 51, 59, 68, 77, 86, 95, 104, 113, 122, 131, 140, 149, 158, 167, 176, 185, 193, 201, 210, 217, 237]) (d := d) (mid := mi_M_init) (pc := 0) (l := [some (.inr (.inr l0)), some (.inl l1)]) (st := []) (h := h) (Q := Q) H
set_option maxRecDepth 100000 in
theorem bk_M_init_11 {d : Nat} {l0 : Nat} {l1 : Int32} {h : am_H} {Q : Option am_V → am_H → Prop} (H : (¬ (17 : Int32) < 0) ∧ (17 : Int32).toNatClampNeg ≤ 1000000 ∧ (∀ h1 : am_H, h1 = am_nA h 2 (17 : Int32).toNatClampNeg → am_T h1 l0 = 17 ∧ (∀ h2 : am_H, h2 = am_sR h1 228 l0 (am_Z h + 1) → am_P d mi_M_init 19 [some (.inr (.inr l0)), some (.inl l1)] [] h2 Q))) : am_P d mi_M_init 11 [some (.inr (.inr l0)), some (.inl l1)] [] h Q := am_P_le (l := [some (.inr (.inr l0)), some (.inl l1)]) ⟨Or.inr rfl, Or.inr rfl, trivial⟩ (am_B_P (k := 6) (stops := [11, 19, 27, 35, 43, 51, 59, 68, 77, 86, 95, 104, 113, 122, 131, 140, 149, 158, 167, 176, 185, 193, 201, 210, 217, 237]) H)
set_option maxRecDepth 100000 in
theorem bk_M_init_19 {d : Nat} {l0 : Nat} {l1 : Int32} {h : am_H} {Q : Option am_V → am_H → Prop} (H : (¬ (17 : Int32) < 0) ∧ (17 : Int32).toNatClampNeg ≤ 1000000 ∧ (∀ h1 : am_H, h1 = am_nA h 2 (17 : Int32).toNatClampNeg → am_T h1 l0 = 17 ∧ (∀ h2 : am_H, h2 = am_sR h1 229 l0 (am_Z h + 1) → am_P d mi_M_init 27 [some (.inr (.inr l0)), some (.inl l1)] [] h2 Q))) : am_P d mi_M_init 19 [some (.inr (.inr l0)), some (.inl l1)] [] h Q := am_P_le (l := [some (.inr (.inr l0)), some (.inl l1)]) ⟨Or.inr rfl, Or.inr rfl, trivial⟩ (am_B_P (k := 6) (stops := [11, 19, 27, 35, 43, 51, 59, 68, 77, 86, 95, 104, 113, 122, 131, 140, 149, 158, 167, 176, 185, 193, 201, 210, 217, 237]) H)
set_option maxRecDepth 100000 in
theorem bk_M_init_27 {d : Nat} {l0 : Nat} {l1 : Int32} {h : am_H} {Q : Option am_V → am_H → Prop} (H : (¬ (17 : Int32) < 0) ∧ (17 : Int32).toNatClampNeg ≤ 1000000 ∧ (∀ h1 : am_H, h1 = am_nA h 1 (17 : Int32).toNatClampNeg → am_T h1 l0 = 17 ∧ (∀ h2 : am_H, h2 = am_sR h1 230 l0 (am_Z h + 1) → am_P d mi_M_init 35 [some (.inr (.inr l0)), some (.inl l1)] [] h2 Q))) : am_P d mi_M_init 27 [some (.inr (.inr l0)), some (.inl l1)] [] h Q := am_P_le (l := [some (.inr (.inr l0)), some (.inl l1)]) ⟨Or.inr rfl, Or.inr rfl, trivial⟩ (am_B_P (k := 6) (stops := [11, 19, 27, 35, 43, 51, 59, 68, 77, 86, 95, 104, 113, 122, 131, 140, 149, 158, 167, 176, 185, 193, 201, 210, 217, 237]) H)
set_option maxRecDepth 100000 in
theorem bk_M_init_35 {d : Nat} {l0 : Nat} {l1 : Int32} {h : am_H} {Q : Option am_V → am_H → Prop} (H : (¬ (17 : Int32) < 0) ∧ (17 : Int32).toNatClampNeg ≤ 1000000 ∧ (∀ h1 : am_H, h1 = am_nA h 1 (17 : Int32).toNatClampNeg → am_T h1 l0 = 17 ∧ (∀ h2 : am_H, h2 = am_sR h1 231 l0 (am_Z h + 1) → am_P d mi_M_init 43 [some (.inr (.inr l0)), some (.inl l1)] [] h2 Q))) : am_P d mi_M_init 35 [some (.inr (.inr l0)), some (.inl l1)] [] h Q := am_P_le (l := [some (.inr (.inr l0)), some (.inl l1)]) ⟨Or.inr rfl, Or.inr rfl, trivial⟩ (am_B_P (k := 6) (stops := [11, 19, 27, 35, 43, 51, 59, 68, 77, 86, 95, 104, 113, 122, 131, 140, 149, 158, 167, 176, 185, 193, 201, 210, 217, 237]) H)
set_option maxRecDepth 100000 in
theorem bk_M_init_43 {d : Nat} {l0 : Nat} {l1 : Int32} {h : am_H} {Q : Option am_V → am_H → Prop} (H : (¬ (17 : Int32) < 0) ∧ (17 : Int32).toNatClampNeg ≤ 1000000 ∧ (∀ h1 : am_H, h1 = am_nA h 2 (17 : Int32).toNatClampNeg → am_T h1 l0 = 17 ∧ (∀ h2 : am_H, h2 = am_sR h1 232 l0 (am_Z h + 1) → am_P d mi_M_init 51 [some (.inr (.inr l0)), some (.inl l1)] [] h2 Q))) : am_P d mi_M_init 43 [some (.inr (.inr l0)), some (.inl l1)] [] h Q := am_P_le (l := [some (.inr (.inr l0)), some (.inl l1)]) ⟨Or.inr rfl, Or.inr rfl, trivial⟩ (am_B_P (k := 6) (stops := [11, 19, 27, 35, 43, 51, 59, 68, 77, 86, 95, 104, 113, 122, 131, 140, 149, 158, 167, 176, 185, 193, 201, 210, 217, 237]) H)
set_option maxRecDepth 100000 in
theorem bk_M_init_51 {d : Nat} {l0 : Nat} {l1 : Int32} {h : am_H} {Q : Option am_V → am_H → Prop} (H : (¬ (17 : Int32) < 0) ∧ (17 : Int32).toNatClampNeg ≤ 1000000 ∧ (∀ h1 : am_H, h1 = am_nA h 2 (17 : Int32).toNatClampNeg → am_T h1 l0 = 17 ∧ (∀ h2 : am_H, h2 = am_sR h1 233 l0 (am_Z h + 1) → am_P d mi_M_init 59 [some (.inr (.inr l0)), some (.inl l1)] [] h2 Q))) : am_P d mi_M_init 51 [some (.inr (.inr l0)), some (.inl l1)] [] h Q := am_P_le (l := [some (.inr (.inr l0)), some (.inl l1)]) ⟨Or.inr rfl, Or.inr rfl, trivial⟩ (am_B_P (k := 6) (stops := [11, 19, 27, 35, 43, 51, 59, 68, 77, 86, 95, 104, 113, 122, 131, 140, 149, 158, 167, 176, 185, 193, 201, 210, 217, 237]) H)
set_option maxRecDepth 100000 in
theorem bk_M_init_59 {d : Nat} {l0 : Nat} {l1 : Int32} {h : am_H} {Q : Option am_V → am_H → Prop} (H : (¬ (136 : Int32) < 0) ∧ (136 : Int32).toNatClampNeg ≤ 1000000 ∧ (∀ h1 : am_H, h1 = am_nA h 1 (136 : Int32).toNatClampNeg → am_T h1 l0 = 17 ∧ (∀ h2 : am_H, h2 = am_sR h1 234 l0 (am_Z h + 1) → am_P d mi_M_init 68 [some (.inr (.inr l0)), some (.inl l1)] [] h2 Q))) : am_P d mi_M_init 59 [some (.inr (.inr l0)), some (.inl l1)] [] h Q := am_P_le (l := [some (.inr (.inr l0)), some (.inl l1)]) ⟨Or.inr rfl, Or.inr rfl, trivial⟩ (am_B_P (k := 6) (stops := [11, 19, 27, 35, 43, 51, 59, 68, 77, 86, 95, 104, 113, 122, 131, 140, 149, 158, 167, 176, 185, 193, 201, 210, 217, 237]) H)
set_option maxRecDepth 100000 in
theorem bk_M_init_68 {d : Nat} {l0 : Nat} {l1 : Int32} {h : am_H} {Q : Option am_V → am_H → Prop} (H : (¬ (2176 : Int32) < 0) ∧ (2176 : Int32).toNatClampNeg ≤ 1000000 ∧ (∀ h1 : am_H, h1 = am_nA h 1 (2176 : Int32).toNatClampNeg → am_T h1 l0 = 17 ∧ (∀ h2 : am_H, h2 = am_sR h1 235 l0 (am_Z h + 1) → am_P d mi_M_init 77 [some (.inr (.inr l0)), some (.inl l1)] [] h2 Q))) : am_P d mi_M_init 68 [some (.inr (.inr l0)), some (.inl l1)] [] h Q := am_P_le (l := [some (.inr (.inr l0)), some (.inl l1)]) ⟨Or.inr rfl, Or.inr rfl, trivial⟩ (am_B_P (k := 6) (stops := [11, 19, 27, 35, 43, 51, 59, 68, 77, 86, 95, 104, 113, 122, 131, 140, 149, 158, 167, 176, 185, 193, 201, 210, 217, 237]) H)
set_option maxRecDepth 100000 in
theorem bk_M_init_77 {d : Nat} {l0 : Nat} {l1 : Int32} {h : am_H} {Q : Option am_V → am_H → Prop} (H : (¬ (136 : Int32) < 0) ∧ (136 : Int32).toNatClampNeg ≤ 1000000 ∧ (∀ h1 : am_H, h1 = am_nA h 1 (136 : Int32).toNatClampNeg → am_T h1 l0 = 17 ∧ (∀ h2 : am_H, h2 = am_sR h1 236 l0 (am_Z h + 1) → am_P d mi_M_init 86 [some (.inr (.inr l0)), some (.inl l1)] [] h2 Q))) : am_P d mi_M_init 77 [some (.inr (.inr l0)), some (.inl l1)] [] h Q := am_P_le (l := [some (.inr (.inr l0)), some (.inl l1)]) ⟨Or.inr rfl, Or.inr rfl, trivial⟩ (am_B_P (k := 6) (stops := [11, 19, 27, 35, 43, 51, 59, 68, 77, 86, 95, 104, 113, 122, 131, 140, 149, 158, 167, 176, 185, 193, 201, 210, 217, 237]) H)
set_option maxRecDepth 100000 in
theorem bk_M_init_86 {d : Nat} {l0 : Nat} {l1 : Int32} {h : am_H} {Q : Option am_V → am_H → Prop} (H : (¬ (1088 : Int32) < 0) ∧ (1088 : Int32).toNatClampNeg ≤ 1000000 ∧ (∀ h1 : am_H, h1 = am_nA h 2 (1088 : Int32).toNatClampNeg → am_T h1 l0 = 17 ∧ (∀ h2 : am_H, h2 = am_sR h1 237 l0 (am_Z h + 1) → am_P d mi_M_init 95 [some (.inr (.inr l0)), some (.inl l1)] [] h2 Q))) : am_P d mi_M_init 86 [some (.inr (.inr l0)), some (.inl l1)] [] h Q := am_P_le (l := [some (.inr (.inr l0)), some (.inl l1)]) ⟨Or.inr rfl, Or.inr rfl, trivial⟩ (am_B_P (k := 6) (stops := [11, 19, 27, 35, 43, 51, 59, 68, 77, 86, 95, 104, 113, 122, 131, 140, 149, 158, 167, 176, 185, 193, 201, 210, 217, 237]) H)
set_option maxRecDepth 100000 in
theorem bk_M_init_95 {d : Nat} {l0 : Nat} {l1 : Int32} {h : am_H} {Q : Option am_V → am_H → Prop} (H : (¬ (1088 : Int32) < 0) ∧ (1088 : Int32).toNatClampNeg ≤ 1000000 ∧ (∀ h1 : am_H, h1 = am_nA h 2 (1088 : Int32).toNatClampNeg → am_T h1 l0 = 17 ∧ (∀ h2 : am_H, h2 = am_sR h1 238 l0 (am_Z h + 1) → am_P d mi_M_init 104 [some (.inr (.inr l0)), some (.inl l1)] [] h2 Q))) : am_P d mi_M_init 95 [some (.inr (.inr l0)), some (.inl l1)] [] h Q := am_P_le (l := [some (.inr (.inr l0)), some (.inl l1)]) ⟨Or.inr rfl, Or.inr rfl, trivial⟩ (am_B_P (k := 6) (stops := [11, 19, 27, 35, 43, 51, 59, 68, 77, 86, 95, 104, 113, 122, 131, 140, 149, 158, 167, 176, 185, 193, 201, 210, 217, 237]) H)
set_option maxRecDepth 100000 in
theorem bk_M_init_104 {d : Nat} {l0 : Nat} {l1 : Int32} {h : am_H} {Q : Option am_V → am_H → Prop} (H : (¬ (136 : Int32) < 0) ∧ (136 : Int32).toNatClampNeg ≤ 1000000 ∧ (∀ h1 : am_H, h1 = am_nA h 2 (136 : Int32).toNatClampNeg → am_T h1 l0 = 17 ∧ (∀ h2 : am_H, h2 = am_sR h1 239 l0 (am_Z h + 1) → am_P d mi_M_init 113 [some (.inr (.inr l0)), some (.inl l1)] [] h2 Q))) : am_P d mi_M_init 104 [some (.inr (.inr l0)), some (.inl l1)] [] h Q := am_P_le (l := [some (.inr (.inr l0)), some (.inl l1)]) ⟨Or.inr rfl, Or.inr rfl, trivial⟩ (am_B_P (k := 6) (stops := [11, 19, 27, 35, 43, 51, 59, 68, 77, 86, 95, 104, 113, 122, 131, 140, 149, 158, 167, 176, 185, 193, 201, 210, 217, 237]) H)
set_option maxRecDepth 100000 in
theorem bk_M_init_113 {d : Nat} {l0 : Nat} {l1 : Int32} {h : am_H} {Q : Option am_V → am_H → Prop} (H : (¬ (136 : Int32) < 0) ∧ (136 : Int32).toNatClampNeg ≤ 1000000 ∧ (∀ h1 : am_H, h1 = am_nA h 2 (136 : Int32).toNatClampNeg → am_T h1 l0 = 17 ∧ (∀ h2 : am_H, h2 = am_sR h1 240 l0 (am_Z h + 1) → am_P d mi_M_init 122 [some (.inr (.inr l0)), some (.inl l1)] [] h2 Q))) : am_P d mi_M_init 113 [some (.inr (.inr l0)), some (.inl l1)] [] h Q := am_P_le (l := [some (.inr (.inr l0)), some (.inl l1)]) ⟨Or.inr rfl, Or.inr rfl, trivial⟩ (am_B_P (k := 6) (stops := [11, 19, 27, 35, 43, 51, 59, 68, 77, 86, 95, 104, 113, 122, 131, 140, 149, 158, 167, 176, 185, 193, 201, 210, 217, 237]) H)
set_option maxRecDepth 100000 in
theorem bk_M_init_122 {d : Nat} {l0 : Nat} {l1 : Int32} {h : am_H} {Q : Option am_V → am_H → Prop} (H : (¬ (136 : Int32) < 0) ∧ (136 : Int32).toNatClampNeg ≤ 1000000 ∧ (∀ h1 : am_H, h1 = am_nA h 2 (136 : Int32).toNatClampNeg → am_T h1 l0 = 17 ∧ (∀ h2 : am_H, h2 = am_sR h1 241 l0 (am_Z h + 1) → am_P d mi_M_init 131 [some (.inr (.inr l0)), some (.inl l1)] [] h2 Q))) : am_P d mi_M_init 122 [some (.inr (.inr l0)), some (.inl l1)] [] h Q := am_P_le (l := [some (.inr (.inr l0)), some (.inl l1)]) ⟨Or.inr rfl, Or.inr rfl, trivial⟩ (am_B_P (k := 6) (stops := [11, 19, 27, 35, 43, 51, 59, 68, 77, 86, 95, 104, 113, 122, 131, 140, 149, 158, 167, 176, 185, 193, 201, 210, 217, 237]) H)
set_option maxRecDepth 100000 in
theorem bk_M_init_131 {d : Nat} {l0 : Nat} {l1 : Int32} {h : am_H} {Q : Option am_V → am_H → Prop} (H : (¬ (5001 : Int32) < 0) ∧ (5001 : Int32).toNatClampNeg ≤ 1000000 ∧ (∀ h1 : am_H, h1 = am_nA h 1 (5001 : Int32).toNatClampNeg → am_T h1 l0 = 17 ∧ (∀ h2 : am_H, h2 = am_sR h1 243 l0 (am_Z h + 1) → am_P d mi_M_init 140 [some (.inr (.inr l0)), some (.inl l1)] [] h2 Q))) : am_P d mi_M_init 131 [some (.inr (.inr l0)), some (.inl l1)] [] h Q := am_P_le (l := [some (.inr (.inr l0)), some (.inl l1)]) ⟨Or.inr rfl, Or.inr rfl, trivial⟩ (am_B_P (k := 6) (stops := [11, 19, 27, 35, 43, 51, 59, 68, 77, 86, 95, 104, 113, 122, 131, 140, 149, 158, 167, 176, 185, 193, 201, 210, 217, 237]) H)
set_option maxRecDepth 100000 in
theorem bk_M_init_140 {d : Nat} {l0 : Nat} {l1 : Int32} {h : am_H} {Q : Option am_V → am_H → Prop} (H : (¬ (1001 : Int32) < 0) ∧ (1001 : Int32).toNatClampNeg ≤ 1000000 ∧ (∀ h1 : am_H, h1 = am_nA h 1 (1001 : Int32).toNatClampNeg → am_T h1 l0 = 17 ∧ (∀ h2 : am_H, h2 = am_sR h1 244 l0 (am_Z h + 1) → am_P d mi_M_init 149 [some (.inr (.inr l0)), some (.inl l1)] [] h2 Q))) : am_P d mi_M_init 140 [some (.inr (.inr l0)), some (.inl l1)] [] h Q := am_P_le (l := [some (.inr (.inr l0)), some (.inl l1)]) ⟨Or.inr rfl, Or.inr rfl, trivial⟩ (am_B_P (k := 6) (stops := [11, 19, 27, 35, 43, 51, 59, 68, 77, 86, 95, 104, 113, 122, 131, 140, 149, 158, 167, 176, 185, 193, 201, 210, 217, 237]) H)
set_option maxRecDepth 100000 in
theorem bk_M_init_149 {d : Nat} {l0 : Nat} {l1 : Int32} {h : am_H} {Q : Option am_V → am_H → Prop} (H : (¬ (1001 : Int32) < 0) ∧ (1001 : Int32).toNatClampNeg ≤ 1000000 ∧ (∀ h1 : am_H, h1 = am_nA h 2 (1001 : Int32).toNatClampNeg → am_T h1 l0 = 17 ∧ (∀ h2 : am_H, h2 = am_sR h1 245 l0 (am_Z h + 1) → am_P d mi_M_init 158 [some (.inr (.inr l0)), some (.inl l1)] [] h2 Q))) : am_P d mi_M_init 149 [some (.inr (.inr l0)), some (.inl l1)] [] h Q := am_P_le (l := [some (.inr (.inr l0)), some (.inl l1)]) ⟨Or.inr rfl, Or.inr rfl, trivial⟩ (am_B_P (k := 6) (stops := [11, 19, 27, 35, 43, 51, 59, 68, 77, 86, 95, 104, 113, 122, 131, 140, 149, 158, 167, 176, 185, 193, 201, 210, 217, 237]) H)
set_option maxRecDepth 100000 in
theorem bk_M_init_158 {d : Nat} {l0 : Nat} {l1 : Int32} {h : am_H} {Q : Option am_V → am_H → Prop} (H : (¬ (8008 : Int32) < 0) ∧ (8008 : Int32).toNatClampNeg ≤ 1000000 ∧ (∀ h1 : am_H, h1 = am_nA h 2 (8008 : Int32).toNatClampNeg → am_T h1 l0 = 17 ∧ (∀ h2 : am_H, h2 = am_sR h1 246 l0 (am_Z h + 1) → am_P d mi_M_init 167 [some (.inr (.inr l0)), some (.inl l1)] [] h2 Q))) : am_P d mi_M_init 158 [some (.inr (.inr l0)), some (.inl l1)] [] h Q := am_P_le (l := [some (.inr (.inr l0)), some (.inl l1)]) ⟨Or.inr rfl, Or.inr rfl, trivial⟩ (am_B_P (k := 6) (stops := [11, 19, 27, 35, 43, 51, 59, 68, 77, 86, 95, 104, 113, 122, 131, 140, 149, 158, 167, 176, 185, 193, 201, 210, 217, 237]) H)
set_option maxRecDepth 100000 in
theorem bk_M_init_167 {d : Nat} {l0 : Nat} {l1 : Int32} {h : am_H} {Q : Option am_V → am_H → Prop} (H : (¬ (8008 : Int32) < 0) ∧ (8008 : Int32).toNatClampNeg ≤ 1000000 ∧ (∀ h1 : am_H, h1 = am_nA h 2 (8008 : Int32).toNatClampNeg → am_T h1 l0 = 17 ∧ (∀ h2 : am_H, h2 = am_sR h1 247 l0 (am_Z h + 1) → am_P d mi_M_init 176 [some (.inr (.inr l0)), some (.inl l1)] [] h2 Q))) : am_P d mi_M_init 167 [some (.inr (.inr l0)), some (.inl l1)] [] h Q := am_P_le (l := [some (.inr (.inr l0)), some (.inl l1)]) ⟨Or.inr rfl, Or.inr rfl, trivial⟩ (am_B_P (k := 6) (stops := [11, 19, 27, 35, 43, 51, 59, 68, 77, 86, 95, 104, 113, 122, 131, 140, 149, 158, 167, 176, 185, 193, 201, 210, 217, 237]) H)
set_option maxRecDepth 100000 in
theorem bk_M_init_176 {d : Nat} {l0 : Nat} {l1 : Int32} {h : am_H} {Q : Option am_V → am_H → Prop} (H : (¬ (8008 : Int32) < 0) ∧ (8008 : Int32).toNatClampNeg ≤ 1000000 ∧ (∀ h1 : am_H, h1 = am_nA h 1 (8008 : Int32).toNatClampNeg → am_T h1 l0 = 17 ∧ (∀ h2 : am_H, h2 = am_sR h1 248 l0 (am_Z h + 1) → am_P d mi_M_init 185 [some (.inr (.inr l0)), some (.inl l1)] [] h2 Q))) : am_P d mi_M_init 176 [some (.inr (.inr l0)), some (.inl l1)] [] h Q := am_P_le (l := [some (.inr (.inr l0)), some (.inl l1)]) ⟨Or.inr rfl, Or.inr rfl, trivial⟩ (am_B_P (k := 6) (stops := [11, 19, 27, 35, 43, 51, 59, 68, 77, 86, 95, 104, 113, 122, 131, 140, 149, 158, 167, 176, 185, 193, 201, 210, 217, 237]) H)
set_option maxRecDepth 100000 in
theorem bk_M_init_185 {d : Nat} {l0 : Nat} {l1 : Int32} {h : am_H} {Q : Option am_V → am_H → Prop} (H : (¬ (101 : Int32) < 0) ∧ (101 : Int32).toNatClampNeg ≤ 1000000 ∧ (∀ h1 : am_H, h1 = am_nA h 1 (101 : Int32).toNatClampNeg → am_T h1 l0 = 17 ∧ (∀ h2 : am_H, h2 = am_sR h1 249 l0 (am_Z h + 1) → am_P d mi_M_init 193 [some (.inr (.inr l0)), some (.inl l1)] [] h2 Q))) : am_P d mi_M_init 185 [some (.inr (.inr l0)), some (.inl l1)] [] h Q := am_P_le (l := [some (.inr (.inr l0)), some (.inl l1)]) ⟨Or.inr rfl, Or.inr rfl, trivial⟩ (am_B_P (k := 6) (stops := [11, 19, 27, 35, 43, 51, 59, 68, 77, 86, 95, 104, 113, 122, 131, 140, 149, 158, 167, 176, 185, 193, 201, 210, 217, 237]) H)
set_option maxRecDepth 100000 in
theorem bk_M_init_193 {d : Nat} {l0 : Nat} {l1 : Int32} {h : am_H} {Q : Option am_V → am_H → Prop} (H : (¬ (101 : Int32) < 0) ∧ (101 : Int32).toNatClampNeg ≤ 1000000 ∧ (∀ h1 : am_H, h1 = am_nA h 2 (101 : Int32).toNatClampNeg → am_T h1 l0 = 17 ∧ (∀ h2 : am_H, h2 = am_sR h1 250 l0 (am_Z h + 1) → am_P d mi_M_init 201 [some (.inr (.inr l0)), some (.inl l1)] [] h2 Q))) : am_P d mi_M_init 193 [some (.inr (.inr l0)), some (.inl l1)] [] h Q := am_P_le (l := [some (.inr (.inr l0)), some (.inl l1)]) ⟨Or.inr rfl, Or.inr rfl, trivial⟩ (am_B_P (k := 6) (stops := [11, 19, 27, 35, 43, 51, 59, 68, 77, 86, 95, 104, 113, 122, 131, 140, 149, 158, 167, 176, 185, 193, 201, 210, 217, 237]) H)
set_option maxRecDepth 100000 in
theorem bk_M_init_201 {d : Nat} {l0 : Nat} {l1 : Int32} {h : am_H} {Q : Option am_V → am_H → Prop} (H : (¬ (20000 : Int32) < 0) ∧ (20000 : Int32).toNatClampNeg ≤ 1000000 ∧ (∀ h1 : am_H, h1 = am_nA h 1 (20000 : Int32).toNatClampNeg → am_T h1 l0 = 17 ∧ (∀ h2 : am_H, h2 = am_sR h1 253 l0 (am_Z h + 1) → am_P d mi_M_init 210 [some (.inr (.inr l0)), some (.inl l1)] [] h2 Q))) : am_P d mi_M_init 201 [some (.inr (.inr l0)), some (.inl l1)] [] h Q := am_P_le (l := [some (.inr (.inr l0)), some (.inl l1)]) ⟨Or.inr rfl, Or.inr rfl, trivial⟩ (am_B_P (k := 6) (stops := [11, 19, 27, 35, 43, 51, 59, 68, 77, 86, 95, 104, 113, 122, 131, 140, 149, 158, 167, 176, 185, 193, 201, 210, 217, 237]) H)
set_option maxRecDepth 100000 in
theorem bk_M_init_210 {d : Nat} {l0 : Nat} {l1 : Int32} {h : am_H} {Q : Option am_V → am_H → Prop} (H : (¬ (4 : Int32) < 0) ∧ (4 : Int32).toNatClampNeg ≤ 1000000 ∧ (∀ h1 : am_H, h1 = am_nA h 1 (4 : Int32).toNatClampNeg → am_T h1 l0 = 17 ∧ (∀ h2 : am_H, h2 = am_sR h1 254 l0 (am_Z h + 1) → am_P d mi_M_init 217 [some (.inr (.inr l0)), some (.inl l1)] [] h2 Q))) : am_P d mi_M_init 210 [some (.inr (.inr l0)), some (.inl l1)] [] h Q := am_P_le (l := [some (.inr (.inr l0)), some (.inl l1)]) ⟨Or.inr rfl, Or.inr rfl, trivial⟩ (am_B_P (k := 6) (stops := [11, 19, 27, 35, 43, 51, 59, 68, 77, 86, 95, 104, 113, 122, 131, 140, 149, 158, 167, 176, 185, 193, 201, 210, 217, 237]) H)
set_option maxRecDepth 100000 in
theorem bk_M_init_217 {d : Nat} {l0 : Nat} {l1 : Int32} {h : am_H} {Q : Option am_V → am_H → Prop} (H : ((l1 < (1 : Int32)) → am_T h l0 = 17 ∧ (∀ h1 : am_H, h1 = am_sI h 225 l0 (4 : Int32) → am_P d mi_M_init 237 [some (.inr (.inr l0)), some (.inl l1)] [] h1 Q)) ∧ (¬ (l1 < (1 : Int32)) → (((16 : Int32) < l1) → am_T h l0 = 17 ∧ (∀ h2 : am_H, h2 = am_sI h 225 l0 (4 : Int32) → am_P d mi_M_init 237 [some (.inr (.inr l0)), some (.inl l1)] [] h2 Q)) ∧ (¬ ((16 : Int32) < l1) → am_T h l0 = 17 ∧ (∀ h3 : am_H, h3 = am_sI h 225 l0 l1 → am_P d mi_M_init 237 [some (.inr (.inr l0)), some (.inl l1)] [] h3 Q)))) : am_P d mi_M_init 217 [some (.inr (.inr l0)), some (.inl l1)] [] h Q := am_P_le (l := [some (.inr (.inr l0)), some (.inl l1)]) ⟨Or.inr rfl, Or.inr rfl, trivial⟩ (am_B_P (k := 12) (stops := [11, 19, 27, 35, 43, 51, 59, 68, 77, 86, 95, 104, 113, 122, 131, 140, 149, 158, 167, 176, 185, 193, 201, 210, 217, 237]) H)
set_option maxRecDepth 100000 in
theorem bk_M_init_237 {d : Nat}  {y0 y1 : Option am_V} {h : am_H} {Q : Option am_V → am_H → Prop} (H : Q none h) : am_P d mi_M_init 237 [y0, y1] [] h Q := am_P_le (l := [none, none]) ⟨Or.inl rfl, Or.inl rfl, trivial⟩ (am_B_P (k := 2) (stops := [11, 19, 27, 35, 43, 51, 59, 68, 77, 86, 95, 104, 113, 122, 131, 140, 149, 158, 167, 176, 185, 193, 201, 210, 217, 237]) H)
set_option maxRecDepth 100000 in
theorem bk_M_thrown {d : Nat} {l0 : Nat} {h : am_H} {Q : Option am_V → am_H → Prop} (H : am_T h l0 = 17 ∧ Q (some (.inl (am_I h 224 l0))) h) : am_PC (d + 1) mi_M_thrown [.inr (.inr l0)] h Q := am_B_P (k := 4) (stops := []) (d := d) (mid := mi_M_thrown) (pc := 0) (l := [some (.inr (.inr l0))]) (st := []) (h := h) (Q := Q) H
set_option maxRecDepth 100000 in
theorem bk_M_link {d : Nat} {l0 : Nat} {l1 : Int32} {l2 : Int64} {h : am_H} {Q : Option am_V → am_H → Prop} (H : am_T h l0 = 17 ∧ am_PC d mi_M_none [.inr (.inr l0), .inl l1] h (fun r1 h2 => ∃ x3 : Int32, r1 = some (.inl x3) ∧ ((x3 = 0) → (((lg_cmp l2 (0 : Int64)) < 0) → Q (some (.inl (-2 : Int32))) h2) ∧ (¬ ((lg_cmp l2 (0 : Int64)) < 0) → (((lg_cmp l2 (10000 : Int64)) ≤ 0) → am_T h2 l0 = 17 ∧ (am_T h2 (am_R h2 230 l0) = 1 ∨ am_T h2 (am_R h2 230 l0) = 3) ∧ vp_in l1 (am_N h2 (am_R h2 230 l0)) ∧ (((am_aI h2 (am_R h2 230 l0) l1.toNatClampNeg) ≤ 0) → am_P d mi_M_link 56 [some (.inr (.inr l0)), some (.inl l1), some (.inr (.inl l2)), none, none, none] [] h2 Q) ∧ (¬ ((am_aI h2 (am_R h2 230 l0) l1.toNatClampNeg) ≤ 0) → (((lg_cmp l2 (0 : Int64)) ≤ 0) → am_P d mi_M_link 56 [some (.inr (.inr l0)), some (.inl l1), some (.inr (.inl l2)), none, none, none] [] h2 Q) ∧ (¬ ((lg_cmp l2 (0 : Int64)) ≤ 0) → am_T h2 l0 = 17 ∧ am_T h2 (am_R h2 228 l0) = 2 ∧ vp_in l1 (am_N h2 (am_R h2 228 l0)) ∧ (((lg_cmp l2 (am_aJ h2 (am_R h2 228 l0) l1.toNatClampNeg)) = 0) → am_P d mi_M_link 56 [some (.inr (.inr l0)), some (.inl l1), some (.inr (.inl l2)), none, none, none] [] h2 Q) ∧ (¬ ((lg_cmp l2 (am_aJ h2 (am_R h2 228 l0) l1.toNatClampNeg)) = 0) → Q (some (.inl (-3 : Int32))) h2)))) ∧ (¬ ((lg_cmp l2 (10000 : Int64)) ≤ 0) → Q (some (.inl (-2 : Int32))) h2))) ∧ (¬ (x3 = 0) → Q (some (.inl (-1 : Int32))) h2))) : am_PC (d + 1) mi_M_link [.inr (.inr l0), .inl l1, .inr (.inl l2)] h Q := am_B_P (k := 31) (stops := [56, 85, 97]) (d := d) (mid := mi_M_link) (pc := 0) (l := [some (.inr (.inr l0)), some (.inl l1), some (.inr (.inl l2)), none, none, none]) (st := []) (h := h) (Q := Q) H
set_option maxRecDepth 100000 in
theorem bk_M_link_56 {d : Nat} {l0 : Nat} {l1 : Int32} {l2 : Int64} {y3 y4 y5 : Option am_V} {h : am_H} {Q : Option am_V → am_H → Prop} (H : am_T h l0 = 17 ∧ am_T h (am_R h 228 l0) = 2 ∧ vp_in l1 (am_N h (am_R h 228 l0)) ∧ (∀ h1 : am_H, h1 = am_xJ h (am_R h 228 l0) l1.toNatClampNeg l2 → (((lg_cmp l2 (0 : Int64)) ≤ 0) → am_T h1 l0 = 17 ∧ (am_T h1 (am_R h1 230 l0) = 1 ∨ am_T h1 (am_R h1 230 l0) = 3) ∧ vp_in l1 (am_N h1 (am_R h1 230 l0)) ∧ (((am_aI h1 (am_R h1 230 l0) l1.toNatClampNeg) ≤ 0) → am_P d mi_M_link 85 [some (.inr (.inr l0)), some (.inl l1), some (.inr (.inl l2)), none, none, none] [.inl (0 : Int32)] h1 Q) ∧ (¬ ((am_aI h1 (am_R h1 230 l0) l1.toNatClampNeg) ≤ 0) → am_P d mi_M_link 85 [some (.inr (.inr l0)), some (.inl l1), some (.inr (.inl l2)), none, none, none] [.inl (1 : Int32)] h1 Q)) ∧ (¬ ((lg_cmp l2 (0 : Int64)) ≤ 0) → Q (some (.inl (0 : Int32))) h1))) : am_P d mi_M_link 56 [some (.inr (.inr l0)), some (.inl l1), some (.inr (.inl l2)), y3, y4, y5] [] h Q := am_P_le (l := [some (.inr (.inr l0)), some (.inl l1), some (.inr (.inl l2)), none, none, none]) ⟨Or.inr rfl, Or.inr rfl, Or.inr rfl, Or.inl rfl, Or.inl rfl, Or.inl rfl, trivial⟩ (am_B_P (k := 18) (stops := [56, 85, 97]) H)
set_option maxRecDepth 100000 in
theorem bk_M_link_85 {d : Nat} {l0 : Nat} {l1 : Int32} {s0 : Int32} {y2 y3 y4 y5 : Option am_V} {h : am_H} {Q : Option am_V → am_H → Prop} (H : am_T h l0 = 17 ∧ am_T h (am_R h 230 l0) = 1 ∧ vp_in l1 (am_N h (am_R h 230 l0)) ∧ (∀ h1 : am_H, h1 = am_xI h (am_R h 230 l0) l1.toNatClampNeg (0 : Int32) → am_P d mi_M_link 97 [some (.inr (.inr l0)), some (.inl l1), none, none, some (.inl s0), some (.inl (0 : Int32))] [] h1 Q)) : am_P d mi_M_link 85 [some (.inr (.inr l0)), some (.inl l1), y2, y3, y4, y5] [.inl s0] h Q := am_P_le (l := [some (.inr (.inr l0)), some (.inl l1), none, none, none, none]) ⟨Or.inr rfl, Or.inr rfl, Or.inl rfl, Or.inl rfl, Or.inl rfl, Or.inl rfl, trivial⟩ (am_B_P (k := 10) (stops := [56, 85, 97]) H)
set_option maxRecDepth 100000 in
theorem bk_M_link_97 {d : Nat} {l0 : Nat} {l1 : Int32} {l4 : Int32} {l5 : Int32} {y2 y3 : Option am_V} {h : am_H} {Q : Option am_V → am_H → Prop} (H : (((8 : Int32) ≤ l5) → am_T h l0 = 17 ∧ am_T h l0 = 17 ∧ (am_T h (am_R h 254 l0) = 1 ∨ am_T h (am_R h 254 l0) = 3) ∧ vp_in (3 : Int32) (am_N h (am_R h 254 l0)) ∧ am_T h (am_R h 254 l0) = 1 ∧ vp_in (3 : Int32) (am_N h (am_R h 254 l0)) ∧ (∀ h1 : am_H, h1 = am_xI h (am_R h 254 l0) (3 : Int32).toNatClampNeg ((am_aI h (am_R h 254 l0) (3 : Int32).toNatClampNeg) + l4) → Q (some (.inl l4)) h1)) ∧ (¬ ((8 : Int32) ≤ l5) → am_T h l0 = 17 ∧ (am_T h (am_R h 234 l0) = 1 ∨ am_T h (am_R h 234 l0) = 3) ∧ vp_in (((8 : Int32) * l1) + l5) (am_N h (am_R h 234 l0)) ∧ am_T h l0 = 17 ∧ am_T h (am_R h 234 l0) = 1 ∧ vp_in (((8 : Int32) * l1) + l5) (am_N h (am_R h 234 l0)) ∧ (∀ h2 : am_H, h2 = am_xI h (am_R h 234 l0) (((8 : Int32) * l1) + l5).toNatClampNeg (0 : Int32) → am_P d mi_M_link 97 [some (.inr (.inr l0)), some (.inl l1), none, none, some (.inl (l4 + (am_aI h (am_R h 234 l0) (((8 : Int32) * l1) + l5).toNatClampNeg))), some (.inl (l5 + (1 : Int32)))] [] h2 Q))) : am_P d mi_M_link 97 [some (.inr (.inr l0)), some (.inl l1), y2, y3, some (.inl l4), some (.inl l5)] [] h Q := am_P_le (l := [some (.inr (.inr l0)), some (.inl l1), none, none, some (.inl l4), some (.inl l5)]) ⟨Or.inr rfl, Or.inr rfl, Or.inl rfl, Or.inl rfl, Or.inr rfl, Or.inr rfl, trivial⟩ (am_B_P (k := 27) (stops := [56, 85, 97]) H)
set_option maxRecDepth 100000 in
theorem bk_M_none {d : Nat} {l0 : Nat} {l1 : Int32} {h : am_H} {Q : Option am_V → am_H → Prop} (H : am_T h l0 = 17 ∧ (∀ h1 : am_H, h1 = am_sI h 224 l0 (0 : Int32) → ((l1 < (1 : Int32)) → ((1 : Int32) = 0 ∨ (1 : Int32) = 1) ∧ Q (some (.inl (1 : Int32))) h1) ∧ (¬ (l1 < (1 : Int32)) → am_T h1 l0 = 17 ∧ ((l1 ≤ (am_I h1 225 l0)) → ((0 : Int32) = 0 ∨ (0 : Int32) = 1) ∧ Q (some (.inl (0 : Int32))) h1) ∧ (¬ (l1 ≤ (am_I h1 225 l0)) → ((1 : Int32) = 0 ∨ (1 : Int32) = 1) ∧ Q (some (.inl (1 : Int32))) h1)))) : am_PC (d + 1) mi_M_none [.inr (.inr l0), .inl l1] h Q := am_B_P (k := 14) (stops := []) (d := d) (mid := mi_M_none) (pc := 0) (l := [some (.inr (.inr l0)), some (.inl l1)]) (st := []) (h := h) (Q := Q) H
set_option maxRecDepth 100000 in
theorem bk_M_gate {d : Nat} {l0 : Nat} {l1 : Int32} {l2 : Int32} {l3 : Int64} {l5 : Int64} {h : am_H} {Q : Option am_V → am_H → Prop} (H : am_T h l0 = 17 ∧ am_PC d mi_M_noRank [.inr (.inr l0), .inl l1, .inl l2] h (fun r1 h2 => ∃ x3 : Int32, r1 = some (.inl x3) ∧ ((x3 = 0) → (((lg_cmp l3 (0 : Int64)) < 0) → Q (some (.inl (-2 : Int32))) h2) ∧ (¬ ((lg_cmp l3 (0 : Int64)) < 0) → ((0 ≤ (lg_cmp l3 l5)) → Q (some (.inl (-2 : Int32))) h2) ∧ (¬ (0 ≤ (lg_cmp l3 l5)) → am_T h2 l0 = 17 ∧ (((lg_cmp l5 (am_J h2 226 l0)) ≤ 0) → am_T h2 l0 = 17 ∧ (am_T h2 (am_R h2 236 l0) = 1 ∨ am_T h2 (am_R h2 236 l0) = 3) ∧ vp_in (((8 : Int32) * l1) + l2) (am_N h2 (am_R h2 236 l0)) ∧ (((am_aI h2 (am_R h2 236 l0) (((8 : Int32) * l1) + l2).toNatClampNeg) = (8 : Int32)) → Q (some (.inl (-4 : Int32))) h2) ∧ (¬ ((am_aI h2 (am_R h2 236 l0) (((8 : Int32) * l1) + l2).toNatClampNeg) = (8 : Int32)) → am_T h2 l0 = 17 ∧ am_T h2 l0 = 17 ∧ (am_T h2 (am_R h2 236 l0) = 1 ∨ am_T h2 (am_R h2 236 l0) = 3) ∧ vp_in (((8 : Int32) * l1) + l2) (am_N h2 (am_R h2 236 l0)) ∧ am_T h2 (am_R h2 237 l0) = 2 ∧ vp_in (((8 : Int32) * (((8 : Int32) * l1) + l2)) + (am_aI h2 (am_R h2 236 l0) (((8 : Int32) * l1) + l2).toNatClampNeg)) (am_N h2 (am_R h2 237 l0)) ∧ (∀ h4 : am_H, h4 = am_xJ h2 (am_R h2 237 l0) (((8 : Int32) * (((8 : Int32) * l1) + l2)) + (am_aI h2 (am_R h2 236 l0) (((8 : Int32) * l1) + l2).toNatClampNeg)).toNatClampNeg l3 → am_T h4 l0 = 17 ∧ am_T h4 l0 = 17 ∧ (am_T h4 (am_R h4 236 l0) = 1 ∨ am_T h4 (am_R h4 236 l0) = 3) ∧ vp_in (((8 : Int32) * l1) + l2) (am_N h4 (am_R h4 236 l0)) ∧ am_T h4 (am_R h4 238 l0) = 2 ∧ vp_in (((8 : Int32) * (((8 : Int32) * l1) + l2)) + (am_aI h4 (am_R h4 236 l0) (((8 : Int32) * l1) + l2).toNatClampNeg)) (am_N h4 (am_R h4 238 l0)) ∧ (∀ h5 : am_H, h5 = am_xJ h4 (am_R h4 238 l0) (((8 : Int32) * (((8 : Int32) * l1) + l2)) + (am_aI h4 (am_R h4 236 l0) (((8 : Int32) * l1) + l2).toNatClampNeg)).toNatClampNeg l5 → am_T h5 l0 = 17 ∧ 1 = 1 ∧ 1 = 1 ∧ (am_T h5 (am_R h5 236 l0) = 1 ∨ am_T h5 (am_R h5 236 l0) = 3) ∧ vp_in (((8 : Int32) * l1) + l2) (am_N h5 (am_R h5 236 l0)) ∧ am_T h5 (am_R h5 236 l0) = 1 ∧ vp_in (((8 : Int32) * l1) + l2) (am_N h5 (am_R h5 236 l0)) ∧ (∀ h6 : am_H, h6 = am_xI h5 (am_R h5 236 l0) (((8 : Int32) * l1) + l2).toNatClampNeg ((am_aI h5 (am_R h5 236 l0) (((8 : Int32) * l1) + l2).toNatClampNeg) + (1 : Int32)) → am_T h6 l0 = 17 ∧ (am_T h6 (am_R h6 236 l0) = 1 ∨ am_T h6 (am_R h6 236 l0) = 3) ∧ vp_in (((8 : Int32) * l1) + l2) (am_N h6 (am_R h6 236 l0)) ∧ Q (some (.inl (am_aI h6 (am_R h6 236 l0) (((8 : Int32) * l1) + l2).toNatClampNeg))) h6))))) ∧ (¬ ((lg_cmp l5 (am_J h2 226 l0)) ≤ 0) → Q (some (.inl (-2 : Int32))) h2)))) ∧ (¬ (x3 = 0) → Q (some (.inl (-1 : Int32))) h2))) : am_PC (d + 1) mi_M_gate [.inr (.inr l0), .inl l1, .inl l2, .inr (.inl l3), .inr (.inl l5)] h Q := am_B_P (k := 68) (stops := []) (d := d) (mid := mi_M_gate) (pc := 0) (l := [some (.inr (.inr l0)), some (.inl l1), some (.inl l2), some (.inr (.inl l3)), none, some (.inr (.inl l5)), none, none]) (st := []) (h := h) (Q := Q) H
set_option maxRecDepth 100000 in
theorem bk_M_noRank {d : Nat} {l0 : Nat} {l1 : Int32} {l2 : Int32} {h : am_H} {Q : Option am_V → am_H → Prop} (H : am_T h l0 = 17 ∧ am_PC d mi_M_none [.inr (.inr l0), .inl l1] h (fun r1 h2 => ∃ x3 : Int32, r1 = some (.inl x3) ∧ ((x3 = 0) → ((l2 < 0) → ((1 : Int32) = 0 ∨ (1 : Int32) = 1) ∧ Q (some (.inl (1 : Int32))) h2) ∧ (¬ (l2 < 0) → ((l2 ≤ (7 : Int32)) → ((0 : Int32) = 0 ∨ (0 : Int32) = 1) ∧ Q (some (.inl (0 : Int32))) h2) ∧ (¬ (l2 ≤ (7 : Int32)) → ((1 : Int32) = 0 ∨ (1 : Int32) = 1) ∧ Q (some (.inl (1 : Int32))) h2))) ∧ (¬ (x3 = 0) → ((1 : Int32) = 0 ∨ (1 : Int32) = 1) ∧ Q (some (.inl (1 : Int32))) h2))) : am_PC (d + 1) mi_M_noRank [.inr (.inr l0), .inl l1, .inl l2] h Q := am_B_P (k := 13) (stops := []) (d := d) (mid := mi_M_noRank) (pc := 0) (l := [some (.inr (.inr l0)), some (.inl l1), some (.inl l2)]) (st := []) (h := h) (Q := Q) H
set_option maxRecDepth 100000 in
theorem bk_M_cycle {d : Nat} {l0 : Nat} {l1 : Int64} {h : am_H} {Q : Option am_V → am_H → Prop} (H : am_T h l0 = 17 ∧ (∀ h1 : am_H, h1 = am_sI h 224 l0 (0 : Int32) → (((lg_cmp l1 (0 : Int64)) < 0) → Q (some (.inl (-2 : Int32))) h1) ∧ (¬ ((lg_cmp l1 (0 : Int64)) < 0) → (((lg_cmp l1 (1000000 : Int64)) ≤ 0) → am_P d mi_M_cycle 25 [some (.inr (.inr l0)), some (.inr (.inl l1)), none, some (.inl (8 : Int32)), none] [] h1 Q) ∧ (¬ ((lg_cmp l1 (1000000 : Int64)) ≤ 0) → Q (some (.inl (-2 : Int32))) h1)))) : am_PC (d + 1) mi_M_cycle [.inr (.inr l0), .inr (.inl l1)] h Q := am_B_P (k := 15) (stops := [25, 35, 90]) (d := d) (mid := mi_M_cycle) (pc := 0) (l := [some (.inr (.inr l0)), some (.inr (.inl l1)), none, none, none]) (st := []) (h := h) (Q := Q) H
set_option maxRecDepth 100000 in
theorem bk_M_cycle_25 {d : Nat} {l0 : Nat} {l1 : Int64} {l3 : Int32} {y2 y4 : Option am_V} {h : am_H} {Q : Option am_V → am_H → Prop} (H : (((136 : Int32) ≤ l3) → (((lg_cmp l1 (0 : Int64)) = 0) → am_P d mi_M_cycle 90 [some (.inr (.inr l0)), some (.inr (.inl l1)), none, some (.inl l3), none] [.inl (1 : Int32), .inr (.inr l0)] h Q) ∧ (¬ ((lg_cmp l1 (0 : Int64)) = 0) → am_P d mi_M_cycle 90 [some (.inr (.inr l0)), some (.inr (.inl l1)), none, some (.inl l3), none] [.inl (0 : Int32), .inr (.inr l0)] h Q)) ∧ (¬ ((136 : Int32) ≤ l3) → am_P d mi_M_cycle 35 [some (.inr (.inr l0)), some (.inr (.inl l1)), none, some (.inl l3), some (.inl (0 : Int32))] [] h Q)) : am_P d mi_M_cycle 25 [some (.inr (.inr l0)), some (.inr (.inl l1)), y2, some (.inl l3), y4] [] h Q := am_P_le (l := [some (.inr (.inr l0)), some (.inr (.inl l1)), none, some (.inl l3), none]) ⟨Or.inr rfl, Or.inr rfl, Or.inl rfl, Or.inr rfl, Or.inl rfl, trivial⟩ (am_B_P (k := 12) (stops := [25, 35, 90]) H)
set_option maxRecDepth 100000 in
theorem bk_M_cycle_35 {d : Nat} {l0 : Nat} {l1 : Int64} {l3 : Int32} {l4 : Int32} {y2 : Option am_V} {h : am_H} {Q : Option am_V → am_H → Prop} (H : am_T h l0 = 17 ∧ (am_T h (am_R h 236 l0) = 1 ∨ am_T h (am_R h 236 l0) = 3) ∧ vp_in l3 (am_N h (am_R h 236 l0)) ∧ (((am_aI h (am_R h 236 l0) l3.toNatClampNeg) ≤ l4) → am_P d mi_M_cycle 25 [some (.inr (.inr l0)), some (.inr (.inl l1)), none, some (.inl (l3 + (1 : Int32))), some (.inl l4)] [] h Q) ∧ (¬ ((am_aI h (am_R h 236 l0) l3.toNatClampNeg) ≤ l4) → am_T h l0 = 17 ∧ am_T h (am_R h 238 l0) = 2 ∧ vp_in (((8 : Int32) * l3) + l4) (am_N h (am_R h 238 l0)) ∧ (((lg_cmp (am_aJ h (am_R h 238 l0) (((8 : Int32) * l3) + l4).toNatClampNeg) l1) ≤ 0) → am_P d mi_M_cycle 35 [some (.inr (.inr l0)), some (.inr (.inl l1)), none, some (.inl l3), some (.inl (l4 + (1 : Int32)))] [] h Q) ∧ (¬ ((lg_cmp (am_aJ h (am_R h 238 l0) (((8 : Int32) * l3) + l4).toNatClampNeg) l1) ≤ 0) → Q (some (.inl (-2 : Int32))) h))) : am_P d mi_M_cycle 35 [some (.inr (.inr l0)), some (.inr (.inl l1)), y2, some (.inl l3), some (.inl l4)] [] h Q := am_P_le (l := [some (.inr (.inr l0)), some (.inr (.inl l1)), none, some (.inl l3), some (.inl l4)]) ⟨Or.inr rfl, Or.inr rfl, Or.inl rfl, Or.inr rfl, Or.inr rfl, trivial⟩ (am_B_P (k := 21) (stops := [25, 35, 90]) H)
set_option maxRecDepth 100000 in
theorem bk_M_cycle_90 {d : Nat} {l0 : Nat} {l1 : Int64} {s0 : Int32} {s1 : Nat} {y2 y3 y4 : Option am_V} {h : am_H} {Q : Option am_V → am_H → Prop} (H : am_T h s1 = 17 ∧ (∀ h1 : am_H, h1 = am_sI h 224 s1 s0 → am_T h1 l0 = 17 ∧ (((am_I h1 224 l0) ≤ 0) → am_T h1 l0 = 17 ∧ (∀ h2 : am_H, h2 = am_sJ h1 226 l0 l1 → Q (some (.inl (1 : Int32))) h2)) ∧ (¬ ((am_I h1 224 l0) ≤ 0) → Q (some (.inl (0 : Int32))) h1))) : am_P d mi_M_cycle 90 [some (.inr (.inr l0)), some (.inr (.inl l1)), y2, y3, y4] [.inl s0, .inr (.inr s1)] h Q := am_P_le (l := [some (.inr (.inr l0)), some (.inr (.inl l1)), none, none, none]) ⟨Or.inr rfl, Or.inr rfl, Or.inl rfl, Or.inl rfl, Or.inl rfl, trivial⟩ (am_B_P (k := 10) (stops := [25, 35, 90]) H)
set_option maxRecDepth 100000 in
theorem bk_M_learn {d : Nat} {l0 : Nat} {l1 : Int32} {l2 : Int32} {l3 : Int64} {h : am_H} {Q : Option am_V → am_H → Prop} (H : am_T h l0 = 17 ∧ am_PC d mi_M_none [.inr (.inr l0), .inl l2] h (fun r1 h2 => ∃ x3 : Int32, r1 = some (.inl x3) ∧ ((x3 = 0) → ((l1 < (1 : Int32)) → Q (some (.inl (-2 : Int32))) h2) ∧ (¬ (l1 < (1 : Int32)) → (((1000 : Int32) < l1) → Q (some (.inl (-2 : Int32))) h2) ∧ (¬ ((1000 : Int32) < l1) → (((lg_cmp l3 (-1 : Int64)) < 0) → Q (some (.inl (-2 : Int32))) h2) ∧ (¬ ((lg_cmp l3 (-1 : Int64)) < 0) → am_T h2 l0 = 17 ∧ (((lg_cmp l3 (am_J h2 227 l0)) ≤ 0) → am_T h2 l0 = 17 ∧ (am_T h2 (am_R h2 244 l0) = 1 ∨ am_T h2 (am_R h2 244 l0) = 3) ∧ vp_in l1 (am_N h2 (am_R h2 244 l0)) ∧ (((am_aI h2 (am_R h2 244 l0) l1.toNatClampNeg) ≤ 0) → am_P d mi_M_learn 75 [some (.inr (.inr l0)), some (.inl l1), some (.inl l2), some (.inr (.inl l3)), none, none] [] h2 Q) ∧ (¬ ((am_aI h2 (am_R h2 244 l0) l1.toNatClampNeg) ≤ 0) → am_T h2 l0 = 17 ∧ am_T h2 (am_R h2 245 l0) = 2 ∧ vp_in l1 (am_N h2 (am_R h2 245 l0)) ∧ (((lg_cmp (am_aJ h2 (am_R h2 245 l0) l1.toNatClampNeg) (-1 : Int64)) = 0) → (((lg_cmp l3 (-1 : Int64)) = 0) → am_P d mi_M_learn 75 [some (.inr (.inr l0)), some (.inl l1), some (.inl l2), some (.inr (.inl l3)), none, none] [] h2 Q) ∧ (¬ ((lg_cmp l3 (-1 : Int64)) = 0) → Q (some (.inl (-3 : Int32))) h2)) ∧ (¬ ((lg_cmp (am_aJ h2 (am_R h2 245 l0) l1.toNatClampNeg) (-1 : Int64)) = 0) → am_P d mi_M_learn 75 [some (.inr (.inr l0)), some (.inl l1), some (.inl l2), some (.inr (.inl l3)), none, none] [] h2 Q))) ∧ (¬ ((lg_cmp l3 (am_J h2 227 l0)) ≤ 0) → Q (some (.inl (-2 : Int32))) h2))))) ∧ (¬ (x3 = 0) → Q (some (.inl (-1 : Int32))) h2))) : am_PC (d + 1) mi_M_learn [.inr (.inr l0), .inl l1, .inl l2, .inr (.inl l3)] h Q := am_B_P (k := 38) (stops := [75, 93]) (d := d) (mid := mi_M_learn) (pc := 0) (l := [some (.inr (.inr l0)), some (.inl l1), some (.inl l2), some (.inr (.inl l3)), none, none]) (st := []) (h := h) (Q := Q) H
set_option maxRecDepth 100000 in
theorem bk_M_learn_75 {d : Nat} {l0 : Nat} {l1 : Int32} {l2 : Int32} {l3 : Int64} {y4 y5 : Option am_V} {h : am_H} {Q : Option am_V → am_H → Prop} (H : am_T h l0 = 17 ∧ am_PC d mi_M_isAt [.inr (.inr l0), .inl l1] h (fun r1 h2 => ∃ x3 : Int32, r1 = some (.inl x3) ∧ ((x3 = 0) → am_P d mi_M_learn 93 [some (.inr (.inr l0)), some (.inl l1), some (.inl l2), some (.inr (.inl l3)), none, none] [.inl (0 : Int32)] h2 Q) ∧ (¬ (x3 = 0) → am_T h2 l0 = 17 ∧ (am_T h2 (am_R h2 244 l0) = 1 ∨ am_T h2 (am_R h2 244 l0) = 3) ∧ vp_in l1 (am_N h2 (am_R h2 244 l0)) ∧ am_P d mi_M_learn 93 [some (.inr (.inr l0)), some (.inl l1), some (.inl l2), some (.inr (.inl l3)), none, none] [.inl (am_aI h2 (am_R h2 244 l0) l1.toNatClampNeg)] h2 Q))) : am_P d mi_M_learn 75 [some (.inr (.inr l0)), some (.inl l1), some (.inl l2), some (.inr (.inl l3)), y4, y5] [] h Q := am_P_le (l := [some (.inr (.inr l0)), some (.inl l1), some (.inl l2), some (.inr (.inl l3)), none, none]) ⟨Or.inr rfl, Or.inr rfl, Or.inr rfl, Or.inr rfl, Or.inl rfl, Or.inl rfl, trivial⟩ (am_B_P (k := 11) (stops := [75, 93]) H)
set_option maxRecDepth 100000 in
theorem bk_M_learn_93 {d : Nat} {l0 : Nat} {l1 : Int32} {l2 : Int32} {l3 : Int64} {s0 : Int32} {y4 y5 : Option am_V} {h : am_H} {Q : Option am_V → am_H → Prop} (H : am_T h l0 = 17 ∧ am_T h (am_R h 244 l0) = 1 ∧ vp_in l1 (am_N h (am_R h 244 l0)) ∧ (∀ h1 : am_H, h1 = am_xI h (am_R h 244 l0) l1.toNatClampNeg l2 → am_T h1 l0 = 17 ∧ am_T h1 (am_R h1 245 l0) = 2 ∧ vp_in l1 (am_N h1 (am_R h1 245 l0)) ∧ (∀ h2 : am_H, h2 = am_xJ h1 (am_R h1 245 l0) l1.toNatClampNeg l3 → Q (some (.inl s0)) h2))) : am_P d mi_M_learn 93 [some (.inr (.inr l0)), some (.inl l1), some (.inl l2), some (.inr (.inl l3)), y4, y5] [.inl s0] h Q := am_P_le (l := [some (.inr (.inr l0)), some (.inl l1), some (.inl l2), some (.inr (.inl l3)), none, none]) ⟨Or.inr rfl, Or.inr rfl, Or.inr rfl, Or.inr rfl, Or.inl rfl, Or.inl rfl, trivial⟩ (am_B_P (k := 14) (stops := [75, 93]) H)
set_option maxRecDepth 100000 in
theorem bk_M_isAt {d : Nat} {l0 : Nat} {l1 : Int32} {h : am_H} {Q : Option am_V → am_H → Prop} (H : am_T h l0 = 17 ∧ (am_T h (am_R h 244 l0) = 1 ∨ am_T h (am_R h 244 l0) = 3) ∧ vp_in l1 (am_N h (am_R h 244 l0)) ∧ (((am_aI h (am_R h 244 l0) l1.toNatClampNeg) ≤ 0) → ((0 : Int32) = 0 ∨ (0 : Int32) = 1) ∧ Q (some (.inl (0 : Int32))) h) ∧ (¬ ((am_aI h (am_R h 244 l0) l1.toNatClampNeg) ≤ 0) → am_T h l0 = 17 ∧ am_T h (am_R h 245 l0) = 2 ∧ vp_in l1 (am_N h (am_R h 245 l0)) ∧ (((lg_cmp (am_aJ h (am_R h 245 l0) l1.toNatClampNeg) (-1 : Int64)) = 0) → ((1 : Int32) = 0 ∨ (1 : Int32) = 1) ∧ Q (some (.inl (1 : Int32))) h) ∧ (¬ ((lg_cmp (am_aJ h (am_R h 245 l0) l1.toNatClampNeg) (-1 : Int64)) = 0) → am_T h l0 = 17 ∧ am_T h l0 = 17 ∧ am_T h (am_R h 245 l0) = 2 ∧ vp_in l1 (am_N h (am_R h 245 l0)) ∧ ((0 ≤ (lg_cmp ((am_J h 227 l0) - (am_aJ h (am_R h 245 l0) l1.toNatClampNeg)) (3000 : Int64))) → ((0 : Int32) = 0 ∨ (0 : Int32) = 1) ∧ Q (some (.inl (0 : Int32))) h) ∧ (¬ (0 ≤ (lg_cmp ((am_J h 227 l0) - (am_aJ h (am_R h 245 l0) l1.toNatClampNeg)) (3000 : Int64))) → ((1 : Int32) = 0 ∨ (1 : Int32) = 1) ∧ Q (some (.inl (1 : Int32))) h)))) : am_PC (d + 1) mi_M_isAt [.inr (.inr l0), .inl l1] h Q := am_B_P (k := 26) (stops := []) (d := d) (mid := mi_M_isAt) (pc := 0) (l := [some (.inr (.inr l0)), some (.inl l1)]) (st := []) (h := h) (Q := Q) H
set_option maxRecDepth 100000 in
theorem bk_M_credit {d : Nat} {l0 : Nat} {l1 : Int32} {l2 : Int32} {l3 : Int64} {l5 : Int64} {h : am_H} {Q : Option am_V → am_H → Prop} (H : am_T h l0 = 17 ∧ am_PC d mi_M_noRank [.inr (.inr l0), .inl l1, .inl l2] h (fun r1 h2 => ∃ x3 : Int32, r1 = some (.inl x3) ∧ ((x3 = 0) → (((lg_cmp l5 (1 : Int64)) < 0) → Q (some (.inl (-2 : Int32))) h2) ∧ (¬ ((lg_cmp l5 (1 : Int64)) < 0) → ((0 < (lg_cmp l5 (1000 : Int64))) → Q (some (.inl (-2 : Int32))) h2) ∧ (¬ (0 < (lg_cmp l5 (1000 : Int64))) → (((lg_cmp l3 (0 : Int64)) < 0) → Q (some (.inl (-2 : Int32))) h2) ∧ (¬ ((lg_cmp l3 (0 : Int64)) < 0) → (((lg_cmp l3 ((10000 : Int64) * l5)) ≤ 0) → am_T h2 l0 = 17 ∧ am_T h2 (am_R h2 239 l0) = 2 ∧ vp_in (((8 : Int32) * l1) + l2) (am_N h2 (am_R h2 239 l0)) ∧ (∀ h4 : am_H, h4 = am_xJ h2 (am_R h2 239 l0) (((8 : Int32) * l1) + l2).toNatClampNeg l3 → am_T h4 l0 = 17 ∧ am_T h4 (am_R h4 240 l0) = 2 ∧ vp_in (((8 : Int32) * l1) + l2) (am_N h4 (am_R h4 240 l0)) ∧ (∀ h5 : am_H, h5 = am_xJ h4 (am_R h4 240 l0) (((8 : Int32) * l1) + l2).toNatClampNeg l5 → am_T h5 l0 = 17 ∧ am_T h5 (am_R h5 241 l0) = 2 ∧ vp_in (((8 : Int32) * l1) + l2) (am_N h5 (am_R h5 241 l0)) ∧ (∀ h6 : am_H, h6 = am_xJ h5 (am_R h5 241 l0) (((8 : Int32) * l1) + l2).toNatClampNeg (0 : Int64) → Q (some (.inl (1 : Int32))) h6)))) ∧ (¬ ((lg_cmp l3 ((10000 : Int64) * l5)) ≤ 0) → Q (some (.inl (-2 : Int32))) h2))))) ∧ (¬ (x3 = 0) → Q (some (.inl (-1 : Int32))) h2))) : am_PC (d + 1) mi_M_credit [.inr (.inr l0), .inl l1, .inl l2, .inr (.inl l3), .inr (.inl l5)] h Q := am_B_P (k := 53) (stops := []) (d := d) (mid := mi_M_credit) (pc := 0) (l := [some (.inr (.inr l0)), some (.inl l1), some (.inl l2), some (.inr (.inl l3)), none, some (.inr (.inl l5)), none]) (st := []) (h := h) (Q := Q) H
set_option maxRecDepth 100000 in
theorem bk_M_filter {d : Nat} {l0 : Nat} {l1 : Int32} {l2 : Int64} {h : am_H} {Q : Option am_V → am_H → Prop} (H : am_T h l0 = 17 ∧ (∀ h1 : am_H, h1 = am_sI h 224 l0 (0 : Int32) → ((l1 < (8 : Int32)) → Q (some (.inl (-1 : Int32))) h1) ∧ (¬ (l1 < (8 : Int32)) → ((l1 ≤ (8007 : Int32)) → ((0 ≤ (lg_cmp l2 (-1 : Int64))) → am_T h1 l0 = 17 ∧ am_PC d mi_M_look [.inr (.inr l0), .inl l1] h1 (fun r2 h3 => r2 = none ∧ am_T h3 l0 = 17 ∧ (((lg_cmp l2 (5000 : Int64)) ≤ 0) → am_T h3 (am_R h3 246 l0) = 2 ∧ vp_in l1 (am_N h3 (am_R h3 246 l0)) ∧ (∀ h4 : am_H, h4 = am_xJ h3 (am_R h3 246 l0) l1.toNatClampNeg (l2 + (1 : Int64)) → am_T h4 l0 = 17 ∧ (am_T h4 (am_R h4 248 l0) = 1 ∨ am_T h4 (am_R h4 248 l0) = 3) ∧ vp_in l1 (am_N h4 (am_R h4 248 l0)) ∧ Q (some (.inl (am_aI h4 (am_R h4 248 l0) l1.toNatClampNeg))) h4)) ∧ (¬ ((lg_cmp l2 (5000 : Int64)) ≤ 0) → am_T h3 (am_R h3 246 l0) = 2 ∧ vp_in l1 (am_N h3 (am_R h3 246 l0)) ∧ (∀ h5 : am_H, h5 = am_xJ h3 (am_R h3 246 l0) l1.toNatClampNeg (0 : Int64) → am_T h5 l0 = 17 ∧ (am_T h5 (am_R h5 248 l0) = 1 ∨ am_T h5 (am_R h5 248 l0) = 3) ∧ vp_in l1 (am_N h5 (am_R h5 248 l0)) ∧ Q (some (.inl (am_aI h5 (am_R h5 248 l0) l1.toNatClampNeg))) h5)))) ∧ (¬ (0 ≤ (lg_cmp l2 (-1 : Int64))) → Q (some (.inl (-2 : Int32))) h1)) ∧ (¬ (l1 ≤ (8007 : Int32)) → Q (some (.inl (-1 : Int32))) h1)))) : am_PC (d + 1) mi_M_filter [.inr (.inr l0), .inl l1, .inr (.inl l2)] h Q := am_B_P (k := 33) (stops := []) (d := d) (mid := mi_M_filter) (pc := 0) (l := [some (.inr (.inr l0)), some (.inl l1), some (.inr (.inl l2)), none]) (st := []) (h := h) (Q := Q) H
set_option maxRecDepth 100000 in
theorem bk_M_look {d : Nat} {l0 : Nat} {l1 : Int32} {h : am_H} {Q : Option am_V → am_H → Prop} (H : am_T h l0 = 17 ∧ am_T h (am_R h 247 l0) = 2 ∧ vp_in l1 (am_N h (am_R h 247 l0)) ∧ am_T h l0 = 17 ∧ ¬ (1000 : Int64) = 0 ∧ (((lg_cmp (am_aJ h (am_R h 247 l0) l1.toNatClampNeg) ((am_J h 227 l0) / (1000 : Int64))) = 0) → am_P d mi_M_look 25 [some (.inr (.inr l0)), some (.inl l1)] [] h Q) ∧ (¬ ((lg_cmp (am_aJ h (am_R h 247 l0) l1.toNatClampNeg) ((am_J h 227 l0) / (1000 : Int64))) = 0) → am_T h l0 = 17 ∧ am_T h (am_R h 248 l0) = 1 ∧ vp_in l1 (am_N h (am_R h 248 l0)) ∧ (∀ h1 : am_H, h1 = am_xI h (am_R h 248 l0) l1.toNatClampNeg (0 : Int32) → am_P d mi_M_look 25 [some (.inr (.inr l0)), some (.inl l1)] [] h1 Q))) : am_PC (d + 1) mi_M_look [.inr (.inr l0), .inl l1] h Q := am_B_P (k := 17) (stops := [25]) (d := d) (mid := mi_M_look) (pc := 0) (l := [some (.inr (.inr l0)), some (.inl l1)]) (st := []) (h := h) (Q := Q) H
set_option maxRecDepth 100000 in
theorem bk_M_look_25 {d : Nat} {l0 : Nat} {l1 : Int32} {h : am_H} {Q : Option am_V → am_H → Prop} (H : am_T h l0 = 17 ∧ am_T h l0 = 17 ∧ ¬ (1000 : Int64) = 0 ∧ am_T h (am_R h 247 l0) = 2 ∧ vp_in l1 (am_N h (am_R h 247 l0)) ∧ (∀ h1 : am_H, h1 = am_xJ h (am_R h 247 l0) l1.toNatClampNeg ((am_J h 227 l0) / (1000 : Int64)) → Q none h1)) : am_P d mi_M_look 25 [some (.inr (.inr l0)), some (.inl l1)] [] h Q := am_P_le (l := [some (.inr (.inr l0)), some (.inl l1)]) ⟨Or.inr rfl, Or.inr rfl, trivial⟩ (am_B_P (k := 10) (stops := [25]) H)
set_option maxRecDepth 100000 in
theorem bk_M_clock {d : Nat} {l0 : Nat} {l1 : Int32} {l2 : Int64} {h : am_H} {Q : Option am_V → am_H → Prop} (H : am_T h l0 = 17 ∧ am_PC d mi_M_none [.inr (.inr l0), .inl l1] h (fun r1 h2 => ∃ x3 : Int32, r1 = some (.inl x3) ∧ ((x3 = 0) → (((lg_cmp l2 (0 : Int64)) < 0) → Q (some (.inl (-2 : Int32))) h2) ∧ (¬ ((lg_cmp l2 (0 : Int64)) < 0) → (((lg_cmp l2 (1000000 : Int64)) ≤ 0) → am_T h2 l0 = 17 ∧ am_T h2 (am_R h2 229 l0) = 2 ∧ vp_in l1 (am_N h2 (am_R h2 229 l0)) ∧ (((lg_cmp l2 (am_aJ h2 (am_R h2 229 l0) l1.toNatClampNeg)) ≤ 0) → am_T h2 l0 = 17 ∧ am_T h2 l0 = 17 ∧ am_T h2 (am_R h2 229 l0) = 2 ∧ vp_in l1 (am_N h2 (am_R h2 229 l0)) ∧ (((lg_cmp ((am_aJ h2 (am_R h2 229 l0) l1.toNatClampNeg) - l2) (100 : Int64)) ≤ 0) → am_P d mi_M_clock 110 [some (.inr (.inr l0)), some (.inl l1), some (.inr (.inl l2)), none] [.inr (.inl l2), .inl l1, .inr (.inr (am_R h2 229 l0))] h2 Q) ∧ (¬ ((lg_cmp ((am_aJ h2 (am_R h2 229 l0) l1.toNatClampNeg) - l2) (100 : Int64)) ≤ 0) → am_T h2 l0 = 17 ∧ am_T h2 (am_R h2 229 l0) = 2 ∧ vp_in l1 (am_N h2 (am_R h2 229 l0)) ∧ am_P d mi_M_clock 110 [some (.inr (.inr l0)), some (.inl l1), some (.inr (.inl l2)), none] [.inr (.inl ((am_aJ h2 (am_R h2 229 l0) l1.toNatClampNeg) - (100 : Int64))), .inl l1, .inr (.inr (am_R h2 229 l0))] h2 Q)) ∧ (¬ ((lg_cmp l2 (am_aJ h2 (am_R h2 229 l0) l1.toNatClampNeg)) ≤ 0) → am_T h2 l0 = 17 ∧ am_T h2 l0 = 17 ∧ am_T h2 (am_R h2 229 l0) = 2 ∧ vp_in l1 (am_N h2 (am_R h2 229 l0)) ∧ (((lg_cmp (l2 - (am_aJ h2 (am_R h2 229 l0) l1.toNatClampNeg)) (100 : Int64)) ≤ 0) → am_P d mi_M_clock 72 [some (.inr (.inr l0)), some (.inl l1), some (.inr (.inl l2)), none] [.inr (.inl l2), .inl l1, .inr (.inr (am_R h2 229 l0))] h2 Q) ∧ (¬ ((lg_cmp (l2 - (am_aJ h2 (am_R h2 229 l0) l1.toNatClampNeg)) (100 : Int64)) ≤ 0) → am_T h2 l0 = 17 ∧ am_T h2 (am_R h2 229 l0) = 2 ∧ vp_in l1 (am_N h2 (am_R h2 229 l0)) ∧ am_P d mi_M_clock 72 [some (.inr (.inr l0)), some (.inl l1), some (.inr (.inl l2)), none] [.inr (.inl ((am_aJ h2 (am_R h2 229 l0) l1.toNatClampNeg) + (100 : Int64))), .inl l1, .inr (.inr (am_R h2 229 l0))] h2 Q))) ∧ (¬ ((lg_cmp l2 (1000000 : Int64)) ≤ 0) → Q (some (.inl (-2 : Int32))) h2))) ∧ (¬ (x3 = 0) → Q (some (.inl (-1 : Int32))) h2))) : am_PC (d + 1) mi_M_clock [.inr (.inr l0), .inl l1, .inr (.inl l2)] h Q := am_B_P (k := 40) (stops := [72, 110]) (d := d) (mid := mi_M_clock) (pc := 0) (l := [some (.inr (.inr l0)), some (.inl l1), some (.inr (.inl l2)), none]) (st := []) (h := h) (Q := Q) H
set_option maxRecDepth 100000 in
theorem bk_M_clock_72 {d : Nat} {l0 : Nat} {l1 : Int32} {s0 : Int64} {s1 : Int32} {s2 : Nat} {y2 y3 : Option am_V} {h : am_H} {Q : Option am_V → am_H → Prop} (H : am_T h s2 = 2 ∧ vp_in s1 (am_N h s2) ∧ (∀ h1 : am_H, h1 = am_xJ h s2 s1.toNatClampNeg s0 → am_T h1 l0 = 17 ∧ am_T h1 (am_R h1 229 l0) = 2 ∧ vp_in l1 (am_N h1 (am_R h1 229 l0)) ∧ Q (some (.inl (am_aJ h1 (am_R h1 229 l0) l1.toNatClampNeg).toInt32)) h1)) : am_P d mi_M_clock 72 [some (.inr (.inr l0)), some (.inl l1), y2, y3] [.inr (.inl s0), .inl s1, .inr (.inr s2)] h Q := am_P_le (l := [some (.inr (.inr l0)), some (.inl l1), none, none]) ⟨Or.inr rfl, Or.inr rfl, Or.inl rfl, Or.inl rfl, trivial⟩ (am_B_P (k := 9) (stops := [72, 110]) H)
set_option maxRecDepth 100000 in
theorem bk_M_clock_110 {d : Nat} {l0 : Nat} {l1 : Int32} {s0 : Int64} {s1 : Int32} {s2 : Nat} {y2 y3 : Option am_V} {h : am_H} {Q : Option am_V → am_H → Prop} (H : am_T h s2 = 2 ∧ vp_in s1 (am_N h s2) ∧ (∀ h1 : am_H, h1 = am_xJ h s2 s1.toNatClampNeg s0 → am_T h1 l0 = 17 ∧ am_T h1 (am_R h1 229 l0) = 2 ∧ vp_in l1 (am_N h1 (am_R h1 229 l0)) ∧ Q (some (.inl (am_aJ h1 (am_R h1 229 l0) l1.toNatClampNeg).toInt32)) h1)) : am_P d mi_M_clock 110 [some (.inr (.inr l0)), some (.inl l1), y2, y3] [.inr (.inl s0), .inl s1, .inr (.inr s2)] h Q := am_P_le (l := [some (.inr (.inr l0)), some (.inl l1), none, none]) ⟨Or.inr rfl, Or.inr rfl, Or.inl rfl, Or.inl rfl, trivial⟩ (am_B_P (k := 8) (stops := [72, 110]) H)
set_option maxRecDepth 100000 in
theorem bk_M_service {d : Nat} {l0 : Nat} {l1 : Int32} {l2 : Int32} {h : am_H} {Q : Option am_V → am_H → Prop} (H : am_T h l0 = 17 ∧ (∀ h1 : am_H, h1 = am_sI h 224 l0 (0 : Int32) → ((l1 = 0) → am_P d mi_M_service 19 [some (.inr (.inr l0)), some (.inl l1), some (.inl l2)] [] h1 Q) ∧ (¬ (l1 = 0) → am_T h1 l0 = 17 ∧ am_PC d mi_M_none [.inr (.inr l0), .inl l2] h1 (fun r2 h3 => ∃ x4 : Int32, r2 = some (.inl x4) ∧ ((x4 = 0) → am_P d mi_M_service 19 [some (.inr (.inr l0)), some (.inl l1), some (.inl l2)] [] h3 Q) ∧ (¬ (x4 = 0) → Q (some (.inl (-1 : Int32))) h3))))) : am_PC (d + 1) mi_M_service [.inr (.inr l0), .inl l1, .inl l2] h Q := am_B_P (k := 12) (stops := [19, 47]) (d := d) (mid := mi_M_service) (pc := 0) (l := [some (.inr (.inr l0)), some (.inl l1), some (.inl l2)]) (st := []) (h := h) (Q := Q) H
set_option maxRecDepth 100000 in
theorem bk_M_service_19 {d : Nat} {l0 : Nat} {l1 : Int32} {l2 : Int32} {h : am_H} {Q : Option am_V → am_H → Prop} (H : ((l1 < 0) → Q (some (.inl (-2 : Int32))) h) ∧ (¬ (l1 < 0) → (((100 : Int32) < l1) → Q (some (.inl (-2 : Int32))) h) ∧ (¬ ((100 : Int32) < l1) → ((l1 = 0) → ((l2 < (1 : Int32)) → Q (some (.inl (-2 : Int32))) h) ∧ (¬ (l2 < (1 : Int32)) → ((l2 ≤ (100 : Int32)) → am_P d mi_M_service 47 [some (.inr (.inr l0)), some (.inl l1), some (.inl l2)] [] h Q) ∧ (¬ (l2 ≤ (100 : Int32)) → Q (some (.inl (-2 : Int32))) h))) ∧ (¬ (l1 = 0) → am_P d mi_M_service 47 [some (.inr (.inr l0)), some (.inl l1), some (.inl l2)] [] h Q)))) : am_P d mi_M_service 19 [some (.inr (.inr l0)), some (.inl l1), some (.inl l2)] [] h Q := am_P_le (l := [some (.inr (.inr l0)), some (.inl l1), some (.inl l2)]) ⟨Or.inr rfl, Or.inr rfl, Or.inr rfl, trivial⟩ (am_B_P (k := 16) (stops := [19, 47]) H)
set_option maxRecDepth 100000 in
theorem bk_M_service_47 {d : Nat} {l0 : Nat} {l1 : Int32} {l2 : Int32} {h : am_H} {Q : Option am_V → am_H → Prop} (H : ((l1 ≤ 0) → am_T h l0 = 17 ∧ (am_T h (am_R h 249 l0) = 1 ∨ am_T h (am_R h 249 l0) = 3) ∧ vp_in l2 (am_N h (am_R h 249 l0)) ∧ (((am_aI h (am_R h 249 l0) l2.toNatClampNeg) ≤ 0) → Q (some (.inl (0 : Int32))) h) ∧ (¬ ((am_aI h (am_R h 249 l0) l2.toNatClampNeg) ≤ 0) → am_T h l0 = 17 ∧ am_T h (am_R h 250 l0) = 2 ∧ vp_in l2 (am_N h (am_R h 250 l0)) ∧ am_T h l0 = 17 ∧ (((lg_cmp (am_aJ h (am_R h 250 l0) l2.toNatClampNeg) (am_J h 227 l0)) ≤ 0) → Q (some (.inl (0 : Int32))) h) ∧ (¬ ((lg_cmp (am_aJ h (am_R h 250 l0) l2.toNatClampNeg) (am_J h 227 l0)) ≤ 0) → am_T h l0 = 17 ∧ (am_T h (am_R h 249 l0) = 1 ∨ am_T h (am_R h 249 l0) = 3) ∧ vp_in l2 (am_N h (am_R h 249 l0)) ∧ Q (some (.inl (am_aI h (am_R h 249 l0) l2.toNatClampNeg))) h))) ∧ (¬ (l1 ≤ 0) → am_T h l0 = 17 ∧ am_T h (am_R h 249 l0) = 1 ∧ vp_in l1 (am_N h (am_R h 249 l0)) ∧ (∀ h1 : am_H, h1 = am_xI h (am_R h 249 l0) l1.toNatClampNeg l2 → am_T h1 l0 = 17 ∧ am_T h1 l0 = 17 ∧ am_T h1 (am_R h1 250 l0) = 2 ∧ vp_in l1 (am_N h1 (am_R h1 250 l0)) ∧ (∀ h2 : am_H, h2 = am_xJ h1 (am_R h1 250 l0) l1.toNatClampNeg ((am_J h1 227 l0) + (1000 : Int64)) → Q (some (.inl l2)) h2)))) : am_P d mi_M_service 47 [some (.inr (.inr l0)), some (.inl l1), some (.inl l2)] [] h Q := am_P_le (l := [some (.inr (.inr l0)), some (.inl l1), some (.inl l2)]) ⟨Or.inr rfl, Or.inr rfl, Or.inr rfl, trivial⟩ (am_B_P (k := 22) (stops := [19, 47]) H)
set_option maxRecDepth 100000 in
theorem bk_M_frame {d : Nat} {l0 : Nat} {l1 : Int32} {l2 : Int32} {l3 : Int32} {l4 : Int32} {h : am_H} {Q : Option am_V → am_H → Prop} (H : am_T h l0 = 17 ∧ am_PC d mi_M_none [.inr (.inr l0), .inl l1] h (fun r1 h2 => ∃ x3 : Int32, r1 = some (.inl x3) ∧ ((x3 = 0) → ((l2 < (1 : Int32)) → Q (some (.inl (-2 : Int32))) h2) ∧ (¬ (l2 < (1 : Int32)) → (((1000 : Int32) < l2) → Q (some (.inl (-2 : Int32))) h2) ∧ (¬ ((1000 : Int32) < l2) → ((l3 < 0) → Q (some (.inl (-2 : Int32))) h2) ∧ (¬ (l3 < 0) → (((7 : Int32) < l3) → Q (some (.inl (-2 : Int32))) h2) ∧ (¬ ((7 : Int32) < l3) → ((l4 < (64 : Int32)) → Q (some (.inl (-2 : Int32))) h2) ∧ (¬ (l4 < (64 : Int32)) → ((l4 ≤ (1522 : Int32)) → am_T h2 l0 = 17 ∧ am_T h2 (am_R h2 228 l0) = 2 ∧ vp_in l1 (am_N h2 (am_R h2 228 l0)) ∧ (((lg_cmp (am_aJ h2 (am_R h2 228 l0) l1.toNatClampNeg) (0 : Int64)) = 0) → Q (some (.inl (-3 : Int32))) h2) ∧ (¬ ((lg_cmp (am_aJ h2 (am_R h2 228 l0) l1.toNatClampNeg) (0 : Int64)) = 0) → am_T h2 l0 = 17 ∧ (((am_I h2 242 l0) = (5000 : Int32)) → Q (some (.inl (-4 : Int32))) h2) ∧ (¬ ((am_I h2 242 l0) = (5000 : Int32)) → 1 = 1 ∧ am_T h2 l0 = 17 ∧ am_T h2 l0 = 17 ∧ (∀ h4 : am_H, h4 = am_sI h2 242 l0 ((am_I h2 242 l0) + (1 : Int32)) → am_T h4 l0 = 17 ∧ am_T h4 l0 = 17 ∧ am_T h4 (am_R h4 243 l0) = 1 ∧ vp_in (am_I h4 242 l0) (am_N h4 (am_R h4 243 l0)) ∧ (∀ h5 : am_H, h5 = am_xI h4 (am_R h4 243 l0) (am_I h4 242 l0).toNatClampNeg l4 → am_T h5 l0 = 17 ∧ am_PC d mi_M_look [.inr (.inr l0), .inl (((8 : Int32) * l2) + l3)] h5 (fun r6 h7 => r6 = none ∧ am_T h7 l0 = 17 ∧ am_T h7 (am_R h7 246 l0) = 2 ∧ vp_in (((8 : Int32) * l2) + l3) (am_N h7 (am_R h7 246 l0)) ∧ (((lg_cmp (am_aJ h7 (am_R h7 246 l0) (((8 : Int32) * l2) + l3).toNatClampNeg) (0 : Int64)) ≤ 0) → am_P d mi_M_frame 157 [some (.inr (.inr l0)), some (.inl l1), some (.inl l2), some (.inl l3), some (.inl l4), some (.inl (((8 : Int32) * l2) + l3)), none, none, none, none] [] h7 Q) ∧ (¬ ((lg_cmp (am_aJ h7 (am_R h7 246 l0) (((8 : Int32) * l2) + l3).toNatClampNeg) (0 : Int64)) ≤ 0) → am_T h7 l0 = 17 ∧ (am_T h7 (am_R h7 248 l0) = 1 ∨ am_T h7 (am_R h7 248 l0) = 3) ∧ vp_in (((8 : Int32) * l2) + l3) (am_N h7 (am_R h7 248 l0)) ∧ am_T h7 l0 = 17 ∧ am_T h7 (am_R h7 246 l0) = 2 ∧ vp_in (((8 : Int32) * l2) + l3) (am_N h7 (am_R h7 246 l0)) ∧ (((lg_cmp ((am_aI h7 (am_R h7 248 l0) (((8 : Int32) * l2) + l3).toNatClampNeg).toInt64) ((am_aJ h7 (am_R h7 246 l0) (((8 : Int32) * l2) + l3).toNatClampNeg) - (1 : Int64))) < 0) → am_P d mi_M_frame 157 [some (.inr (.inr l0)), some (.inl l1), some (.inl l2), some (.inl l3), some (.inl l4), some (.inl (((8 : Int32) * l2) + l3)), none, none, none, none] [] h7 Q) ∧ (¬ ((lg_cmp ((am_aI h7 (am_R h7 248 l0) (((8 : Int32) * l2) + l3).toNatClampNeg).toInt64) ((am_aJ h7 (am_R h7 246 l0) (((8 : Int32) * l2) + l3).toNatClampNeg) - (1 : Int64))) < 0) → am_T h7 l0 = 17 ∧ 1 = 1 ∧ 1 = 1 ∧ (am_T h7 (am_R h7 254 l0) = 1 ∨ am_T h7 (am_R h7 254 l0) = 3) ∧ vp_in (1 : Int32) (am_N h7 (am_R h7 254 l0)) ∧ am_T h7 (am_R h7 254 l0) = 1 ∧ vp_in (1 : Int32) (am_N h7 (am_R h7 254 l0)) ∧ (∀ h8 : am_H, h8 = am_xI h7 (am_R h7 254 l0) (1 : Int32).toNatClampNeg ((am_aI h7 (am_R h7 254 l0) (1 : Int32).toNatClampNeg) + (1 : Int32)) → Q (some (.inl (0 : Int32))) h8))))))))) ∧ (¬ (l4 ≤ (1522 : Int32)) → Q (some (.inl (-2 : Int32))) h2))))))) ∧ (¬ (x3 = 0) → Q (some (.inl (-1 : Int32))) h2))) : am_PC (d + 1) mi_M_frame [.inr (.inr l0), .inl l1, .inl l2, .inl l3, .inl l4] h Q := am_B_P (k := 84) (stops := [157, 177, 228, 245]) (d := d) (mid := mi_M_frame) (pc := 0) (l := [some (.inr (.inr l0)), some (.inl l1), some (.inl l2), some (.inl l3), some (.inl l4), none, none, none, none, none]) (st := []) (h := h) (Q := Q) H
set_option maxRecDepth 100000 in
theorem bk_M_frame_157 {d : Nat} {l0 : Nat} {l1 : Int32} {l2 : Int32} {l3 : Int32} {l5 : Int32} {y4 y6 y7 y8 y9 : Option am_V} {h : am_H} {Q : Option am_V → am_H → Prop} (H : am_T h l0 = 17 ∧ 1 = 1 ∧ 1 = 1 ∧ (am_T h (am_R h 248 l0) = 1 ∨ am_T h (am_R h 248 l0) = 3) ∧ vp_in l5 (am_N h (am_R h 248 l0)) ∧ am_T h (am_R h 248 l0) = 1 ∧ vp_in l5 (am_N h (am_R h 248 l0)) ∧ (∀ h1 : am_H, h1 = am_xI h (am_R h 248 l0) l5.toNatClampNeg ((am_aI h (am_R h 248 l0) l5.toNatClampNeg) + (1 : Int32)) → am_P d mi_M_frame 177 [some (.inr (.inr l0)), some (.inl l1), some (.inl l2), some (.inl l3), none, some (.inl l5), some (.inl (0 : Int32)), some (.inl (0 : Int32)), some (.inl (1 : Int32)), none] [] h1 Q)) : am_P d mi_M_frame 157 [some (.inr (.inr l0)), some (.inl l1), some (.inl l2), some (.inl l3), y4, some (.inl l5), y6, y7, y8, y9] [] h Q := am_P_le (l := [some (.inr (.inr l0)), some (.inl l1), some (.inl l2), some (.inl l3), none, some (.inl l5), none, none, none, none]) ⟨Or.inr rfl, Or.inr rfl, Or.inr rfl, Or.inr rfl, Or.inl rfl, Or.inr rfl, Or.inl rfl, Or.inl rfl, Or.inl rfl, Or.inl rfl, trivial⟩ (am_B_P (k := 16) (stops := [157, 177, 228, 245]) H)
set_option maxRecDepth 100000 in
theorem bk_M_frame_177 {d : Nat} {l0 : Nat} {l1 : Int32} {l2 : Int32} {l3 : Int32} {l6 : Int32} {l7 : Int32} {l8 : Int32} {y4 y5 y9 : Option am_V} {h : am_H} {Q : Option am_V → am_H → Prop} (H : am_T h l0 = 17 ∧ (((am_I h 225 l0) < l8) → am_T h l0 = 17 ∧ ((l7 = 0) → am_T h l0 = 17 ∧ (am_T h (am_R h 254 l0) = 1 ∨ am_T h (am_R h 254 l0) = 3) ∧ vp_in (2 : Int32) (am_N h (am_R h 254 l0)) ∧ am_T h (am_R h 254 l0) = 1 ∧ vp_in (2 : Int32) (am_N h (am_R h 254 l0)) ∧ (∀ h1 : am_H, h1 = am_xI h (am_R h 254 l0) (2 : Int32).toNatClampNeg ((am_aI h (am_R h 254 l0) (2 : Int32).toNatClampNeg) + (1 : Int32)) → Q (some (.inl l6)) h1)) ∧ (¬ (l7 = 0) → am_T h l0 = 17 ∧ (am_T h (am_R h 254 l0) = 1 ∨ am_T h (am_R h 254 l0) = 3) ∧ vp_in (2 : Int32) (am_N h (am_R h 254 l0)) ∧ am_T h (am_R h 254 l0) = 1 ∧ vp_in (2 : Int32) (am_N h (am_R h 254 l0)) ∧ (∀ h2 : am_H, h2 = am_xI h (am_R h 254 l0) (2 : Int32).toNatClampNeg (am_aI h (am_R h 254 l0) (2 : Int32).toNatClampNeg) → Q (some (.inl l6)) h2))) ∧ (¬ ((am_I h 225 l0) < l8) → ((l8 = l1) → am_P d mi_M_frame 228 [some (.inr (.inr l0)), some (.inl l1), some (.inl l2), some (.inl l3), none, none, some (.inl l6), some (.inl l7), some (.inl l8), none] [.inl (0 : Int32)] h Q) ∧ (¬ (l8 = l1) → am_T h l0 = 17 ∧ am_T h (am_R h 228 l0) = 2 ∧ vp_in l8 (am_N h (am_R h 228 l0)) ∧ (((lg_cmp (am_aJ h (am_R h 228 l0) l8.toNatClampNeg) (0 : Int64)) ≤ 0) → am_P d mi_M_frame 228 [some (.inr (.inr l0)), some (.inl l1), some (.inl l2), some (.inl l3), none, none, some (.inl l6), some (.inl l7), some (.inl l8), none] [.inl (0 : Int32)] h Q) ∧ (¬ ((lg_cmp (am_aJ h (am_R h 228 l0) l8.toNatClampNeg) (0 : Int64)) ≤ 0) → am_T h l0 = 17 ∧ am_PC d mi_M_isAt [.inr (.inr l0), .inl l2] h (fun r3 h4 => ∃ x5 : Int32, r3 = some (.inl x5) ∧ ((x5 = 0) → am_P d mi_M_frame 228 [some (.inr (.inr l0)), some (.inl l1), some (.inl l2), some (.inl l3), none, none, some (.inl l6), some (.inl l7), some (.inl l8), none] [.inl (1 : Int32)] h4 Q) ∧ (¬ (x5 = 0) → am_T h4 l0 = 17 ∧ (am_T h4 (am_R h4 244 l0) = 1 ∨ am_T h4 (am_R h4 244 l0) = 3) ∧ vp_in l2 (am_N h4 (am_R h4 244 l0)) ∧ (((am_aI h4 (am_R h4 244 l0) l2.toNatClampNeg) = l8) → am_P d mi_M_frame 228 [some (.inr (.inr l0)), some (.inl l1), some (.inl l2), some (.inl l3), none, none, some (.inl l6), some (.inl l7), some (.inl l8), none] [.inl (1 : Int32)] h4 Q) ∧ (¬ ((am_aI h4 (am_R h4 244 l0) l2.toNatClampNeg) = l8) → am_P d mi_M_frame 228 [some (.inr (.inr l0)), some (.inl l1), some (.inl l2), some (.inl l3), none, none, some (.inl l6), some (.inl l7), some (.inl l8), none] [.inl (0 : Int32)] h4 Q))))))) : am_P d mi_M_frame 177 [some (.inr (.inr l0)), some (.inl l1), some (.inl l2), some (.inl l3), y4, y5, some (.inl l6), some (.inl l7), some (.inl l8), y9] [] h Q := am_P_le (l := [some (.inr (.inr l0)), some (.inl l1), some (.inl l2), some (.inl l3), none, none, some (.inl l6), some (.inl l7), some (.inl l8), none]) ⟨Or.inr rfl, Or.inr rfl, Or.inr rfl, Or.inr rfl, Or.inl rfl, Or.inl rfl, Or.inr rfl, Or.inr rfl, Or.inr rfl, Or.inl rfl, trivial⟩ (am_B_P (k := 28) (stops := [157, 177, 228, 245]) H)
set_option maxRecDepth 100000 in
theorem bk_M_frame_228 {d : Nat} {l0 : Nat} {l1 : Int32} {l2 : Int32} {l3 : Int32} {l6 : Int32} {l7 : Int32} {l8 : Int32} {s0 : Int32} {y4 y5 y9 : Option am_V} {h : am_H} {Q : Option am_V → am_H → Prop} (H : ((l7 = 0) → ((s0 = 0) → am_P d mi_M_frame 245 [some (.inr (.inr l0)), some (.inl l1), some (.inl l2), some (.inl l3), none, none, some (.inl l6), some (.inl l7), some (.inl l8), some (.inl s0)] [.inl (0 : Int32)] h Q) ∧ (¬ (s0 = 0) → am_P d mi_M_frame 245 [some (.inr (.inr l0)), some (.inl l1), some (.inl l2), some (.inl l3), none, none, some (.inl l6), some (.inl l7), some (.inl l8), some (.inl s0)] [.inl (1 : Int32)] h Q)) ∧ (¬ (l7 = 0) → am_P d mi_M_frame 245 [some (.inr (.inr l0)), some (.inl l1), some (.inl l2), some (.inl l3), none, none, some (.inl l6), some (.inl l7), some (.inl l8), some (.inl s0)] [.inl (1 : Int32)] h Q)) : am_P d mi_M_frame 228 [some (.inr (.inr l0)), some (.inl l1), some (.inl l2), some (.inl l3), y4, y5, some (.inl l6), some (.inl l7), some (.inl l8), y9] [.inl s0] h Q := am_P_le (l := [some (.inr (.inr l0)), some (.inl l1), some (.inl l2), some (.inl l3), none, none, some (.inl l6), some (.inl l7), some (.inl l8), none]) ⟨Or.inr rfl, Or.inr rfl, Or.inr rfl, Or.inr rfl, Or.inl rfl, Or.inl rfl, Or.inr rfl, Or.inr rfl, Or.inr rfl, Or.inl rfl, trivial⟩ (am_B_P (k := 9) (stops := [157, 177, 228, 245]) H)
set_option maxRecDepth 100000 in
theorem bk_M_frame_245 {d : Nat} {l0 : Nat} {l1 : Int32} {l2 : Int32} {l3 : Int32} {l6 : Int32} {l8 : Int32} {l9 : Int32} {s0 : Int32} {y4 y5 y7 : Option am_V} {h : am_H} {Q : Option am_V → am_H → Prop} (H : ((l9 = 0) → am_P d mi_M_frame 177 [some (.inr (.inr l0)), some (.inl l1), some (.inl l2), some (.inl l3), none, none, some (.inl l6), some (.inl s0), some (.inl (l8 + (1 : Int32))), some (.inl l9)] [] h Q) ∧ (¬ (l9 = 0) → am_T h l0 = 17 ∧ am_T h l0 = 17 ∧ am_PC d mi_M_enter [.inr (.inr l0), .inl l8, .inl l3, .inl (am_I h 242 l0)] h (fun r1 h2 => ∃ x3 : Int32, r1 = some (.inl x3) ∧ ((x3 ≤ 0) → am_P d mi_M_frame 177 [some (.inr (.inr l0)), some (.inl l1), some (.inl l2), some (.inl l3), none, none, some (.inl l6), some (.inl s0), some (.inl (l8 + (1 : Int32))), some (.inl l9)] [] h2 Q) ∧ (¬ (x3 ≤ 0) → am_T h2 l0 = 17 ∧ am_P d mi_M_frame 177 [some (.inr (.inr l0)), some (.inl l1), some (.inl l2), some (.inl l3), none, none, some (.inl (am_I h2 242 l0)), some (.inl s0), some (.inl (l8 + (1 : Int32))), some (.inl l9)] [] h2 Q)))) : am_P d mi_M_frame 245 [some (.inr (.inr l0)), some (.inl l1), some (.inl l2), some (.inl l3), y4, y5, some (.inl l6), y7, some (.inl l8), some (.inl l9)] [.inl s0] h Q := am_P_le (l := [some (.inr (.inr l0)), some (.inl l1), some (.inl l2), some (.inl l3), none, none, some (.inl l6), none, some (.inl l8), some (.inl l9)]) ⟨Or.inr rfl, Or.inr rfl, Or.inr rfl, Or.inr rfl, Or.inl rfl, Or.inl rfl, Or.inr rfl, Or.inl rfl, Or.inr rfl, Or.inr rfl, trivial⟩ (am_B_P (k := 18) (stops := [157, 177, 228, 245]) H)
set_option maxRecDepth 100000 in
theorem bk_M_enter {d : Nat} {l0 : Nat} {l1 : Int32} {l2 : Int32} {l3 : Int32} {h : am_H} {Q : Option am_V → am_H → Prop} (H : am_T h l0 = 17 ∧ (am_T h (am_R h 234 l0) = 1 ∨ am_T h (am_R h 234 l0) = 3) ∧ vp_in (((8 : Int32) * l1) + l2) (am_N h (am_R h 234 l0)) ∧ (((am_aI h (am_R h 234 l0) (((8 : Int32) * l1) + l2).toNatClampNeg) = (16 : Int32)) → am_T h l0 = 17 ∧ 1 = 1 ∧ 1 = 1 ∧ (am_T h (am_R h 254 l0) = 1 ∨ am_T h (am_R h 254 l0) = 3) ∧ vp_in (0 : Int32) (am_N h (am_R h 254 l0)) ∧ am_T h (am_R h 254 l0) = 1 ∧ vp_in (0 : Int32) (am_N h (am_R h 254 l0)) ∧ (∀ h1 : am_H, h1 = am_xI h (am_R h 254 l0) (0 : Int32).toNatClampNeg ((am_aI h (am_R h 254 l0) (0 : Int32).toNatClampNeg) + (1 : Int32)) → Q (some (.inl (0 : Int32))) h1)) ∧ (¬ ((am_aI h (am_R h 234 l0) (((8 : Int32) * l1) + l2).toNatClampNeg) = (16 : Int32)) → am_T h l0 = 17 ∧ am_T h l0 = 17 ∧ (am_T h (am_R h 234 l0) = 1 ∨ am_T h (am_R h 234 l0) = 3) ∧ vp_in (((8 : Int32) * l1) + l2) (am_N h (am_R h 234 l0)) ∧ am_T h (am_R h 235 l0) = 1 ∧ vp_in (((16 : Int32) * (((8 : Int32) * l1) + l2)) + (am_aI h (am_R h 234 l0) (((8 : Int32) * l1) + l2).toNatClampNeg)) (am_N h (am_R h 235 l0)) ∧ (∀ h2 : am_H, h2 = am_xI h (am_R h 235 l0) (((16 : Int32) * (((8 : Int32) * l1) + l2)) + (am_aI h (am_R h 234 l0) (((8 : Int32) * l1) + l2).toNatClampNeg)).toNatClampNeg l3 → am_T h2 l0 = 17 ∧ 1 = 1 ∧ 1 = 1 ∧ (am_T h2 (am_R h2 234 l0) = 1 ∨ am_T h2 (am_R h2 234 l0) = 3) ∧ vp_in (((8 : Int32) * l1) + l2) (am_N h2 (am_R h2 234 l0)) ∧ am_T h2 (am_R h2 234 l0) = 1 ∧ vp_in (((8 : Int32) * l1) + l2) (am_N h2 (am_R h2 234 l0)) ∧ (∀ h3 : am_H, h3 = am_xI h2 (am_R h2 234 l0) (((8 : Int32) * l1) + l2).toNatClampNeg ((am_aI h2 (am_R h2 234 l0) (((8 : Int32) * l1) + l2).toNatClampNeg) + (1 : Int32)) → Q (some (.inl l3)) h3)))) : am_PC (d + 1) mi_M_enter [.inr (.inr l0), .inl l1, .inl l2, .inl l3] h Q := am_B_P (k := 35) (stops := []) (d := d) (mid := mi_M_enter) (pc := 0) (l := [some (.inr (.inr l0)), some (.inl l1), some (.inl l2), some (.inl l3), none]) (st := []) (h := h) (Q := Q) H
set_option maxRecDepth 100000 in
theorem bk_M_run {d : Nat} {l0 : Nat} {l1 : Int64} {h : am_H} {Q : Option am_V → am_H → Prop} (H : am_T h l0 = 17 ∧ (∀ h1 : am_H, h1 = am_sI h 224 l0 (0 : Int32) → (((lg_cmp l1 (0 : Int64)) < 0) → Q (some (.inl (-2 : Int32))) h1) ∧ (¬ ((lg_cmp l1 (0 : Int64)) < 0) → (((lg_cmp l1 (2000 : Int64)) ≤ 0) → am_T h1 l0 = 17 ∧ am_P d mi_M_run 30 [some (.inr (.inr l0)), some (.inr (.inl l1)), none, some (.inl (am_I h1 251 l0)), some (.inr (.inl (0 : Int64))), none] [] h1 Q) ∧ (¬ ((lg_cmp l1 (2000 : Int64)) ≤ 0) → Q (some (.inl (-2 : Int32))) h1)))) : am_PC (d + 1) mi_M_run [.inr (.inr l0), .inr (.inl l1)] h Q := am_B_P (k := 18) (stops := [30]) (d := d) (mid := mi_M_run) (pc := 0) (l := [some (.inr (.inr l0)), some (.inr (.inl l1)), none, none, none, none]) (st := []) (h := h) (Q := Q) H
set_option maxRecDepth 100000 in
theorem bk_M_run_30 {d : Nat} {l0 : Nat} {l1 : Int64} {l3 : Int32} {l4 : Int64} {y2 y5 : Option am_V} {h : am_H} {Q : Option am_V → am_H → Prop} (H : ((0 ≤ (lg_cmp l4 l1)) → am_T h l0 = 17 ∧ Q (some (.inl ((am_I h 251 l0) - l3))) h) ∧ (¬ (0 ≤ (lg_cmp l4 l1)) → am_T h l0 = 17 ∧ am_PC d mi_M_tick [.inr (.inr l0)] h (fun r1 h2 => r1 = none ∧ am_P d mi_M_run 30 [some (.inr (.inr l0)), some (.inr (.inl l1)), none, some (.inl l3), some (.inr (.inl (l4 + (1 : Int64)))), none] [] h2 Q))) : am_P d mi_M_run 30 [some (.inr (.inr l0)), some (.inr (.inl l1)), y2, some (.inl l3), some (.inr (.inl l4)), y5] [] h Q := am_P_le (l := [some (.inr (.inr l0)), some (.inr (.inl l1)), none, some (.inl l3), some (.inr (.inl l4)), none]) ⟨Or.inr rfl, Or.inr rfl, Or.inl rfl, Or.inr rfl, Or.inr rfl, Or.inl rfl, trivial⟩ (am_B_P (k := 13) (stops := [30]) H)
set_option maxRecDepth 100000 in
theorem bk_M_tick {d : Nat} {l0 : Nat} {h : am_H} {Q : Option am_V → am_H → Prop} (H : am_P d mi_M_tick 2 [some (.inr (.inr l0)), some (.inl (1 : Int32)), none] [] h Q) : am_PC (d + 1) mi_M_tick [.inr (.inr l0)] h Q := am_B_P (k := 4) (stops := [2, 122, 147, 158, 212, 300]) (d := d) (mid := mi_M_tick) (pc := 0) (l := [some (.inr (.inr l0)), none, none]) (st := []) (h := h) (Q := Q) H
set_option maxRecDepth 100000 in
theorem bk_M_tick_2 {d : Nat} {l0 : Nat} {l1 : Int32} {y2 : Option am_V} {h : am_H} {Q : Option am_V → am_H → Prop} (H : am_T h l0 = 17 ∧ (((am_I h 225 l0) < l1) → am_P d mi_M_tick 147 [some (.inr (.inr l0)), some (.inl (1 : Int32)), none] [] h Q) ∧ (¬ ((am_I h 225 l0) < l1) → am_T h l0 = 17 ∧ (am_T h (am_R h 230 l0) = 1 ∨ am_T h (am_R h 230 l0) = 3) ∧ vp_in l1 (am_N h (am_R h 230 l0)) ∧ (((am_aI h (am_R h 230 l0) l1.toNatClampNeg) ≤ 0) → am_P d mi_M_tick 2 [some (.inr (.inr l0)), some (.inl (l1 + (1 : Int32))), none] [] h Q) ∧ (¬ ((am_aI h (am_R h 230 l0) l1.toNatClampNeg) ≤ 0) → am_T h l0 = 17 ∧ am_T h (am_R h 233 l0) = 2 ∧ vp_in l1 (am_N h (am_R h 233 l0)) ∧ am_T h l0 = 17 ∧ (((lg_cmp (am_aJ h (am_R h 233 l0) l1.toNatClampNeg) (am_J h 227 l0)) = 0) → am_T h l0 = 17 ∧ (((5000 : Int32) ≤ (am_I h 252 l0)) → am_P d mi_M_tick 122 [some (.inr (.inr l0)), some (.inl l1), none] [] h Q) ∧ (¬ ((5000 : Int32) ≤ (am_I h 252 l0)) → am_T h l0 = 17 ∧ am_T h l0 = 17 ∧ am_T h l0 = 17 ∧ (am_T h (am_R h 230 l0) = 1 ∨ am_T h (am_R h 230 l0) = 3) ∧ vp_in l1 (am_N h (am_R h 230 l0)) ∧ am_T h (am_R h 253 l0) = 1 ∧ vp_in ((4 : Int32) * (am_I h 252 l0)) (am_N h (am_R h 253 l0)) ∧ (∀ h1 : am_H, h1 = am_xI h (am_R h 253 l0) ((4 : Int32) * (am_I h 252 l0)).toNatClampNeg (am_aI h (am_R h 230 l0) l1.toNatClampNeg) → am_T h1 l0 = 17 ∧ am_T h1 l0 = 17 ∧ am_T h1 (am_R h1 253 l0) = 1 ∧ vp_in (((4 : Int32) * (am_I h1 252 l0)) + (1 : Int32)) (am_N h1 (am_R h1 253 l0)) ∧ (∀ h2 : am_H, h2 = am_xI h1 (am_R h1 253 l0) (((4 : Int32) * (am_I h1 252 l0)) + (1 : Int32)).toNatClampNeg l1 → am_T h2 l0 = 17 ∧ am_T h2 l0 = 17 ∧ am_T h2 l0 = 17 ∧ am_T h2 (am_R h2 232 l0) = 2 ∧ vp_in l1 (am_N h2 (am_R h2 232 l0)) ∧ am_T h2 (am_R h2 253 l0) = 1 ∧ vp_in (((4 : Int32) * (am_I h2 252 l0)) + (2 : Int32)) (am_N h2 (am_R h2 253 l0)) ∧ (∀ h3 : am_H, h3 = am_xI h2 (am_R h2 253 l0) (((4 : Int32) * (am_I h2 252 l0)) + (2 : Int32)).toNatClampNeg ((am_aJ h2 (am_R h2 232 l0) l1.toNatClampNeg).toInt32) → am_T h3 l0 = 17 ∧ am_T h3 l0 = 17 ∧ am_T h3 l0 = 17 ∧ am_T h3 (am_R h3 253 l0) = 1 ∧ vp_in (((4 : Int32) * (am_I h3 252 l0)) + (3 : Int32)) (am_N h3 (am_R h3 253 l0)) ∧ (∀ h4 : am_H, h4 = am_xI h3 (am_R h3 253 l0) (((4 : Int32) * (am_I h3 252 l0)) + (3 : Int32)).toNatClampNeg ((am_J h3 227 l0).toInt32) → 1 = 1 ∧ am_T h4 l0 = 17 ∧ am_T h4 l0 = 17 ∧ (∀ h5 : am_H, h5 = am_sI h4 252 l0 ((am_I h4 252 l0) + (1 : Int32)) → am_P d mi_M_tick 122 [some (.inr (.inr l0)), some (.inl l1), none] [] h5 Q))))))) ∧ (¬ ((lg_cmp (am_aJ h (am_R h 233 l0) l1.toNatClampNeg) (am_J h 227 l0)) = 0) → am_P d mi_M_tick 2 [some (.inr (.inr l0)), some (.inl (l1 + (1 : Int32))), none] [] h Q)))) : am_P d mi_M_tick 2 [some (.inr (.inr l0)), some (.inl l1), y2] [] h Q := am_P_le (l := [some (.inr (.inr l0)), some (.inl l1), none]) ⟨Or.inr rfl, Or.inr rfl, Or.inl rfl, trivial⟩ (am_B_P (k := 76) (stops := [2, 122, 147, 158, 212, 300]) H)
set_option maxRecDepth 100000 in
theorem bk_M_tick_122 {d : Nat} {l0 : Nat} {l1 : Int32} {y2 : Option am_V} {h : am_H} {Q : Option am_V → am_H → Prop} (H : 1 = 1 ∧ am_T h l0 = 17 ∧ am_T h l0 = 17 ∧ (∀ h1 : am_H, h1 = am_sI h 251 l0 ((am_I h 251 l0) + (1 : Int32)) → am_T h1 l0 = 17 ∧ am_T h1 (am_R h1 230 l0) = 1 ∧ vp_in l1 (am_N h1 (am_R h1 230 l0)) ∧ (∀ h2 : am_H, h2 = am_xI h1 (am_R h1 230 l0) l1.toNatClampNeg (0 : Int32) → am_P d mi_M_tick 2 [some (.inr (.inr l0)), some (.inl (l1 + (1 : Int32))), none] [] h2 Q))) : am_P d mi_M_tick 122 [some (.inr (.inr l0)), some (.inl l1), y2] [] h Q := am_P_le (l := [some (.inr (.inr l0)), some (.inl l1), none]) ⟨Or.inr rfl, Or.inr rfl, Or.inl rfl, trivial⟩ (am_B_P (k := 15) (stops := [2, 122, 147, 158, 212, 300]) H)
set_option maxRecDepth 100000 in
theorem bk_M_tick_147 {d : Nat} {l0 : Nat} {l1 : Int32} {y2 : Option am_V} {h : am_H} {Q : Option am_V → am_H → Prop} (H : am_T h l0 = 17 ∧ (((am_I h 225 l0) < l1) → am_P d mi_M_tick 212 [some (.inr (.inr l0)), some (.inl (8 : Int32)), none] [] h Q) ∧ (¬ ((am_I h 225 l0) < l1) → am_P d mi_M_tick 158 [some (.inr (.inr l0)), some (.inl l1), some (.inl (7 : Int32))] [] h Q)) : am_P d mi_M_tick 147 [some (.inr (.inr l0)), some (.inl l1), y2] [] h Q := am_P_le (l := [some (.inr (.inr l0)), some (.inl l1), none]) ⟨Or.inr rfl, Or.inr rfl, Or.inl rfl, trivial⟩ (am_B_P (k := 8) (stops := [2, 122, 147, 158, 212, 300]) H)
set_option maxRecDepth 100000 in
theorem bk_M_tick_158 {d : Nat} {l0 : Nat} {l1 : Int32} {l2 : Int32} {h : am_H} {Q : Option am_V → am_H → Prop} (H : ((l2 < 0) → am_P d mi_M_tick 147 [some (.inr (.inr l0)), some (.inl (l1 + (1 : Int32))), some (.inl l2)] [] h Q) ∧ (¬ (l2 < 0) → am_T h l0 = 17 ∧ am_T h (am_R h 228 l0) = 2 ∧ vp_in l1 (am_N h (am_R h 228 l0)) ∧ (((lg_cmp (am_aJ h (am_R h 228 l0) l1.toNatClampNeg) (0 : Int64)) ≤ 0) → am_P d mi_M_tick 158 [some (.inr (.inr l0)), some (.inl l1), some (.inl (l2 + (-1 : Int32)))] [] h Q) ∧ (¬ ((lg_cmp (am_aJ h (am_R h 228 l0) l1.toNatClampNeg) (0 : Int64)) ≤ 0) → am_T h l0 = 17 ∧ (am_T h (am_R h 230 l0) = 1 ∨ am_T h (am_R h 230 l0) = 3) ∧ vp_in l1 (am_N h (am_R h 230 l0)) ∧ (((am_aI h (am_R h 230 l0) l1.toNatClampNeg) = 0) → am_T h l0 = 17 ∧ am_PC d mi_M_may [.inr (.inr l0), .inl l1, .inl l2] h (fun r1 h2 => ∃ x3 : Int32, r1 = some (.inl x3) ∧ ((x3 = 0) → am_P d mi_M_tick 158 [some (.inr (.inr l0)), some (.inl l1), some (.inl (l2 + (-1 : Int32)))] [] h2 Q) ∧ (¬ (x3 = 0) → am_T h2 l0 = 17 ∧ am_PC d mi_M_begin [.inr (.inr l0), .inl l1, .inl l2] h2 (fun r4 h5 => r4 = none ∧ am_P d mi_M_tick 158 [some (.inr (.inr l0)), some (.inl l1), some (.inl (l2 + (-1 : Int32)))] [] h5 Q)))) ∧ (¬ ((am_aI h (am_R h 230 l0) l1.toNatClampNeg) = 0) → am_P d mi_M_tick 158 [some (.inr (.inr l0)), some (.inl l1), some (.inl (l2 + (-1 : Int32)))] [] h Q)))) : am_P d mi_M_tick 158 [some (.inr (.inr l0)), some (.inl l1), some (.inl l2)] [] h Q := am_P_le (l := [some (.inr (.inr l0)), some (.inl l1), some (.inl l2)]) ⟨Or.inr rfl, Or.inr rfl, Or.inr rfl, trivial⟩ (am_B_P (k := 27) (stops := [2, 122, 147, 158, 212, 300]) H)
set_option maxRecDepth 100000 in
theorem bk_M_tick_212 {d : Nat} {l0 : Nat} {l1 : Int32} {y2 : Option am_V} {h : am_H} {Q : Option am_V → am_H → Prop} (H : am_T h l0 = 17 ∧ (((((8 : Int32) * (am_I h 225 l0)) + (8 : Int32)) ≤ l1) → 1 = 1 ∧ am_T h l0 = 17 ∧ am_T h l0 = 17 ∧ (∀ h1 : am_H, h1 = am_sJ h 227 l0 ((am_J h 227 l0) + (1 : Int64)) → Q none h1)) ∧ (¬ ((((8 : Int32) * (am_I h 225 l0)) + (8 : Int32)) ≤ l1) → ¬ (8 : Int32) = 0 ∧ am_T h l0 = 17 ∧ am_T h (am_R h 239 l0) = 2 ∧ vp_in l1 (am_N h (am_R h 239 l0)) ∧ (((lg_cmp (am_aJ h (am_R h 239 l0) l1.toNatClampNeg) (0 : Int64)) ≤ 0) → am_P d mi_M_tick 212 [some (.inr (.inr l0)), some (.inl (l1 + (1 : Int32))), some (.inl (l1 / (8 : Int32)))] [] h Q) ∧ (¬ ((lg_cmp (am_aJ h (am_R h 239 l0) l1.toNatClampNeg) (0 : Int64)) ≤ 0) → am_T h l0 = 17 ∧ (am_T h (am_R h 230 l0) = 1 ∨ am_T h (am_R h 230 l0) = 3) ∧ vp_in (l1 / (8 : Int32)) (am_N h (am_R h 230 l0)) ∧ (((am_aI h (am_R h 230 l0) (l1 / (8 : Int32)).toNatClampNeg) ≤ 0) → am_P d mi_M_tick 300 [some (.inr (.inr l0)), some (.inl l1), some (.inl (l1 / (8 : Int32)))] [] h Q) ∧ (¬ ((am_aI h (am_R h 230 l0) (l1 / (8 : Int32)).toNatClampNeg) ≤ 0) → am_T h l0 = 17 ∧ (am_T h (am_R h 231 l0) = 1 ∨ am_T h (am_R h 231 l0) = 3) ∧ vp_in (l1 / (8 : Int32)) (am_N h (am_R h 231 l0)) ∧ ¬ (8 : Int32) = 0 ∧ (((am_aI h (am_R h 231 l0) (l1 / (8 : Int32)).toNatClampNeg) = (l1 - l1 / (8 : Int32) * (8 : Int32))) → am_T h l0 = 17 ∧ am_T h l0 = 17 ∧ am_T h (am_R h 241 l0) = 2 ∧ vp_in l1 (am_N h (am_R h 241 l0)) ∧ am_T h l0 = 17 ∧ am_T h (am_R h 239 l0) = 2 ∧ vp_in l1 (am_N h (am_R h 239 l0)) ∧ am_T h l0 = 17 ∧ am_T h (am_R h 228 l0) = 2 ∧ vp_in (l1 / (8 : Int32)) (am_N h (am_R h 228 l0)) ∧ am_T h l0 = 17 ∧ am_T h (am_R h 240 l0) = 2 ∧ vp_in l1 (am_N h (am_R h 240 l0)) ∧ am_T h (am_R h 241 l0) = 2 ∧ vp_in l1 (am_N h (am_R h 241 l0)) ∧ (∀ h2 : am_H, h2 = am_xJ h (am_R h 241 l0) l1.toNatClampNeg (((am_aJ h (am_R h 241 l0) l1.toNatClampNeg) + (am_aJ h (am_R h 239 l0) l1.toNatClampNeg)) - ((am_aJ h (am_R h 228 l0) (l1 / (8 : Int32)).toNatClampNeg) * (am_aJ h (am_R h 240 l0) l1.toNatClampNeg))) → am_P d mi_M_tick 212 [some (.inr (.inr l0)), some (.inl (l1 + (1 : Int32))), some (.inl (l1 / (8 : Int32)))] [] h2 Q)) ∧ (¬ ((am_aI h (am_R h 231 l0) (l1 / (8 : Int32)).toNatClampNeg) = (l1 - l1 / (8 : Int32) * (8 : Int32))) → am_P d mi_M_tick 300 [some (.inr (.inr l0)), some (.inl l1), some (.inl (l1 / (8 : Int32)))] [] h Q))))) : am_P d mi_M_tick 212 [some (.inr (.inr l0)), some (.inl l1), y2] [] h Q := am_P_le (l := [some (.inr (.inr l0)), some (.inl l1), none]) ⟨Or.inr rfl, Or.inr rfl, Or.inl rfl, trivial⟩ (am_B_P (k := 60) (stops := [2, 122, 147, 158, 212, 300]) H)
set_option maxRecDepth 100000 in
theorem bk_M_tick_300 {d : Nat} {l0 : Nat} {l1 : Int32} {y2 : Option am_V} {h : am_H} {Q : Option am_V → am_H → Prop} (H : am_T h l0 = 17 ∧ (am_T h (am_R h 234 l0) = 1 ∨ am_T h (am_R h 234 l0) = 3) ∧ vp_in l1 (am_N h (am_R h 234 l0)) ∧ (((am_aI h (am_R h 234 l0) l1.toNatClampNeg) ≤ 0) → am_T h l0 = 17 ∧ am_T h l0 = 17 ∧ am_T h (am_R h 241 l0) = 2 ∧ vp_in l1 (am_N h (am_R h 241 l0)) ∧ am_T h l0 = 17 ∧ am_T h (am_R h 239 l0) = 2 ∧ vp_in l1 (am_N h (am_R h 239 l0)) ∧ ((0 ≤ (lg_cmp ((am_aJ h (am_R h 241 l0) l1.toNatClampNeg) + (am_aJ h (am_R h 239 l0) l1.toNatClampNeg)) (0 : Int64))) → am_T h (am_R h 241 l0) = 2 ∧ vp_in l1 (am_N h (am_R h 241 l0)) ∧ (∀ h1 : am_H, h1 = am_xJ h (am_R h 241 l0) l1.toNatClampNeg (0 : Int64) → am_P d mi_M_tick 212 [some (.inr (.inr l0)), some (.inl (l1 + (1 : Int32))), none] [] h1 Q)) ∧ (¬ (0 ≤ (lg_cmp ((am_aJ h (am_R h 241 l0) l1.toNatClampNeg) + (am_aJ h (am_R h 239 l0) l1.toNatClampNeg)) (0 : Int64))) → am_T h l0 = 17 ∧ am_T h (am_R h 241 l0) = 2 ∧ vp_in l1 (am_N h (am_R h 241 l0)) ∧ am_T h l0 = 17 ∧ am_T h (am_R h 239 l0) = 2 ∧ vp_in l1 (am_N h (am_R h 239 l0)) ∧ am_T h (am_R h 241 l0) = 2 ∧ vp_in l1 (am_N h (am_R h 241 l0)) ∧ (∀ h2 : am_H, h2 = am_xJ h (am_R h 241 l0) l1.toNatClampNeg ((am_aJ h (am_R h 241 l0) l1.toNatClampNeg) + (am_aJ h (am_R h 239 l0) l1.toNatClampNeg)) → am_P d mi_M_tick 212 [some (.inr (.inr l0)), some (.inl (l1 + (1 : Int32))), none] [] h2 Q))) ∧ (¬ ((am_aI h (am_R h 234 l0) l1.toNatClampNeg) ≤ 0) → am_T h l0 = 17 ∧ am_T h l0 = 17 ∧ am_T h (am_R h 241 l0) = 2 ∧ vp_in l1 (am_N h (am_R h 241 l0)) ∧ am_T h l0 = 17 ∧ am_T h (am_R h 239 l0) = 2 ∧ vp_in l1 (am_N h (am_R h 239 l0)) ∧ am_T h (am_R h 241 l0) = 2 ∧ vp_in l1 (am_N h (am_R h 241 l0)) ∧ (∀ h3 : am_H, h3 = am_xJ h (am_R h 241 l0) l1.toNatClampNeg ((am_aJ h (am_R h 241 l0) l1.toNatClampNeg) + (am_aJ h (am_R h 239 l0) l1.toNatClampNeg)) → am_P d mi_M_tick 212 [some (.inr (.inr l0)), some (.inl (l1 + (1 : Int32))), none] [] h3 Q))) : am_P d mi_M_tick 300 [some (.inr (.inr l0)), some (.inl l1), y2] [] h Q := am_P_le (l := [some (.inr (.inr l0)), some (.inl l1), none]) ⟨Or.inr rfl, Or.inr rfl, Or.inl rfl, trivial⟩ (am_B_P (k := 35) (stops := [2, 122, 147, 158, 212, 300]) H)
set_option maxRecDepth 100000 in
theorem bk_M_may {d : Nat} {l0 : Nat} {l1 : Int32} {l2 : Int32} {h : am_H} {Q : Option am_V → am_H → Prop} (H : am_T h l0 = 17 ∧ (am_T h (am_R h 234 l0) = 1 ∨ am_T h (am_R h 234 l0) = 3) ∧ vp_in (((8 : Int32) * l1) + l2) (am_N h (am_R h 234 l0)) ∧ (((am_aI h (am_R h 234 l0) (((8 : Int32) * l1) + l2).toNatClampNeg) = 0) → ((0 : Int32) = 0 ∨ (0 : Int32) = 1) ∧ Q (some (.inl (0 : Int32))) h) ∧ (¬ ((am_aI h (am_R h 234 l0) (((8 : Int32) * l1) + l2).toNatClampNeg) = 0) → am_T h l0 = 17 ∧ am_T h (am_R h 239 l0) = 2 ∧ vp_in (((8 : Int32) * l1) + l2) (am_N h (am_R h 239 l0)) ∧ (((lg_cmp (am_aJ h (am_R h 239 l0) (((8 : Int32) * l1) + l2).toNatClampNeg) (0 : Int64)) = 0) → am_P d mi_M_may 45 [some (.inr (.inr l0)), some (.inl l1), some (.inl l2), some (.inl (((8 : Int32) * l1) + l2)), none] [.inl (1 : Int32)] h Q) ∧ (¬ ((lg_cmp (am_aJ h (am_R h 239 l0) (((8 : Int32) * l1) + l2).toNatClampNeg) (0 : Int64)) = 0) → am_T h l0 = 17 ∧ am_T h (am_R h 241 l0) = 2 ∧ vp_in (((8 : Int32) * l1) + l2) (am_N h (am_R h 241 l0)) ∧ (((lg_cmp (am_aJ h (am_R h 241 l0) (((8 : Int32) * l1) + l2).toNatClampNeg) (0 : Int64)) < 0) → am_P d mi_M_may 45 [some (.inr (.inr l0)), some (.inl l1), some (.inl l2), some (.inl (((8 : Int32) * l1) + l2)), none] [.inl (0 : Int32)] h Q) ∧ (¬ ((lg_cmp (am_aJ h (am_R h 241 l0) (((8 : Int32) * l1) + l2).toNatClampNeg) (0 : Int64)) < 0) → am_P d mi_M_may 45 [some (.inr (.inr l0)), some (.inl l1), some (.inl l2), some (.inl (((8 : Int32) * l1) + l2)), none] [.inl (1 : Int32)] h Q)))) : am_PC (d + 1) mi_M_may [.inr (.inr l0), .inl l1, .inl l2] h Q := am_B_P (k := 29) (stops := [45]) (d := d) (mid := mi_M_may) (pc := 0) (l := [some (.inr (.inr l0)), some (.inl l1), some (.inl l2), none, none]) (st := []) (h := h) (Q := Q) H
set_option maxRecDepth 100000 in
theorem bk_M_may_45 {d : Nat} {l0 : Nat} {l1 : Int32} {l3 : Int32} {s0 : Int32} {y2 y4 : Option am_V} {h : am_H} {Q : Option am_V → am_H → Prop} (H : ((s0 = 0) → ((0 : Int32) = 0 ∨ (0 : Int32) = 1) ∧ Q (some (.inl (0 : Int32))) h) ∧ (¬ (s0 = 0) → am_T h l0 = 17 ∧ am_T h l0 = 17 ∧ am_T h (am_R h 229 l0) = 2 ∧ vp_in l1 (am_N h (am_R h 229 l0)) ∧ am_T h l0 = 17 ∧ ¬ (am_J h 226 l0) = 0 ∧ am_T h l0 = 17 ∧ (am_T h (am_R h 235 l0) = 1 ∨ am_T h (am_R h 235 l0) = 3) ∧ vp_in ((16 : Int32) * l3) (am_N h (am_R h 235 l0)) ∧ am_T h l0 = 17 ∧ am_PC d mi_M_time [.inr (.inr l0), .inl l1, .inl (am_aI h (am_R h 235 l0) ((16 : Int32) * l3).toNatClampNeg)] h (fun r1 h2 => ∃ x3 : Int64, r1 = some (.inr (.inl x3)) ∧ am_T h2 l0 = 17 ∧ am_PC d mi_M_open [.inr (.inr l0), .inl l3, .inr (.inl (((am_J h 227 l0) + (am_aJ h (am_R h 229 l0) l1.toNatClampNeg)) - ((am_J h 227 l0) + (am_aJ h (am_R h 229 l0) l1.toNatClampNeg)) / (am_J h 226 l0) * (am_J h 226 l0))), .inr (.inl x3)] h2 (fun r4 h5 => ∃ x6 : Int32, r4 = some (.inl x6) ∧ ((x6 = 0) → ((0 : Int32) = 0 ∨ (0 : Int32) = 1) ∧ Q (some (.inl (0 : Int32))) h5) ∧ (¬ (x6 = 0) → ((1 : Int32) = 0 ∨ (1 : Int32) = 1) ∧ Q (some (.inl (1 : Int32))) h5))))) : am_P d mi_M_may 45 [some (.inr (.inr l0)), some (.inl l1), y2, some (.inl l3), y4] [.inl s0] h Q := am_P_le (l := [some (.inr (.inr l0)), some (.inl l1), none, some (.inl l3), none]) ⟨Or.inr rfl, Or.inr rfl, Or.inl rfl, Or.inr rfl, Or.inl rfl, trivial⟩ (am_B_P (k := 30) (stops := [45]) H)
set_option maxRecDepth 100000 in
theorem bk_M_time {d : Nat} {l0 : Nat} {l1 : Int32} {l2 : Int32} {h : am_H} {Q : Option am_V → am_H → Prop} (H : am_T h l0 = 17 ∧ (am_T h (am_R h 243 l0) = 1 ∨ am_T h (am_R h 243 l0) = 3) ∧ vp_in l2 (am_N h (am_R h 243 l0)) ∧ am_T h l0 = 17 ∧ am_T h (am_R h 228 l0) = 2 ∧ vp_in l1 (am_N h (am_R h 228 l0)) ∧ ¬ (am_aJ h (am_R h 228 l0) l1.toNatClampNeg) = 0 ∧ (((lg_cmp ((((8 : Int64) * (am_aI h (am_R h 243 l0) l2.toNatClampNeg).toInt64) + (160 : Int64)) - (((8 : Int64) * (am_aI h (am_R h 243 l0) l2.toNatClampNeg).toInt64) + (160 : Int64)) / (am_aJ h (am_R h 228 l0) l1.toNatClampNeg) * (am_aJ h (am_R h 228 l0) l1.toNatClampNeg)) (0 : Int64)) = 0) → am_T h l0 = 17 ∧ am_T h (am_R h 228 l0) = 2 ∧ vp_in l1 (am_N h (am_R h 228 l0)) ∧ ¬ (am_aJ h (am_R h 228 l0) l1.toNatClampNeg) = 0 ∧ Q (some (.inr (.inl ((((8 : Int64) * (am_aI h (am_R h 243 l0) l2.toNatClampNeg).toInt64) + (160 : Int64)) / (am_aJ h (am_R h 228 l0) l1.toNatClampNeg))))) h) ∧ (¬ ((lg_cmp ((((8 : Int64) * (am_aI h (am_R h 243 l0) l2.toNatClampNeg).toInt64) + (160 : Int64)) - (((8 : Int64) * (am_aI h (am_R h 243 l0) l2.toNatClampNeg).toInt64) + (160 : Int64)) / (am_aJ h (am_R h 228 l0) l1.toNatClampNeg) * (am_aJ h (am_R h 228 l0) l1.toNatClampNeg)) (0 : Int64)) = 0) → am_T h l0 = 17 ∧ am_T h (am_R h 228 l0) = 2 ∧ vp_in l1 (am_N h (am_R h 228 l0)) ∧ ¬ (am_aJ h (am_R h 228 l0) l1.toNatClampNeg) = 0 ∧ Q (some (.inr (.inl (((((8 : Int64) * (am_aI h (am_R h 243 l0) l2.toNatClampNeg).toInt64) + (160 : Int64)) / (am_aJ h (am_R h 228 l0) l1.toNatClampNeg)) + (1 : Int64))))) h)) : am_PC (d + 1) mi_M_time [.inr (.inr l0), .inl l1, .inl l2] h Q := am_B_P (k := 29) (stops := []) (d := d) (mid := mi_M_time) (pc := 0) (l := [some (.inr (.inr l0)), some (.inl l1), some (.inl l2), none, none]) (st := []) (h := h) (Q := Q) H
set_option maxRecDepth 100000 in
theorem bk_M_open {d : Nat} {l0 : Nat} {l1 : Int32} {l2 : Int64} {l4 : Int64} {h : am_H} {Q : Option am_V → am_H → Prop} (H : am_T h l0 = 17 ∧ (am_T h (am_R h 236 l0) = 1 ∨ am_T h (am_R h 236 l0) = 3) ∧ vp_in l1 (am_N h (am_R h 236 l0)) ∧ (((am_aI h (am_R h 236 l0) l1.toNatClampNeg) = 0) → am_P d mi_M_open 19 [some (.inr (.inr l0)), some (.inl l1), some (.inr (.inl l2)), none, some (.inr (.inl l4)), none, some (.inl (1 : Int32)), some (.inl (0 : Int32))] [] h Q) ∧ (¬ ((am_aI h (am_R h 236 l0) l1.toNatClampNeg) = 0) → am_P d mi_M_open 19 [some (.inr (.inr l0)), some (.inl l1), some (.inr (.inl l2)), none, some (.inr (.inl l4)), none, some (.inl (0 : Int32)), some (.inl (0 : Int32))] [] h Q)) : am_PC (d + 1) mi_M_open [.inr (.inr l0), .inl l1, .inr (.inl l2), .inr (.inl l4)] h Q := am_B_P (k := 12) (stops := [19]) (d := d) (mid := mi_M_open) (pc := 0) (l := [some (.inr (.inr l0)), some (.inl l1), some (.inr (.inl l2)), none, some (.inr (.inl l4)), none, none, none]) (st := []) (h := h) (Q := Q) H
set_option maxRecDepth 100000 in
theorem bk_M_open_19 {d : Nat} {l0 : Nat} {l1 : Int32} {l2 : Int64} {l4 : Int64} {l6 : Int32} {l7 : Int32} {y3 y5 : Option am_V} {h : am_H} {Q : Option am_V → am_H → Prop} (H : am_T h l0 = 17 ∧ (am_T h (am_R h 236 l0) = 1 ∨ am_T h (am_R h 236 l0) = 3) ∧ vp_in l1 (am_N h (am_R h 236 l0)) ∧ (((am_aI h (am_R h 236 l0) l1.toNatClampNeg) ≤ l7) → (l6 = 0 ∨ l6 = 1) ∧ Q (some (.inl l6)) h) ∧ (¬ ((am_aI h (am_R h 236 l0) l1.toNatClampNeg) ≤ l7) → ((l6 = 0) → am_T h l0 = 17 ∧ am_T h (am_R h 237 l0) = 2 ∧ vp_in (((8 : Int32) * l1) + l7) (am_N h (am_R h 237 l0)) ∧ ((0 < (lg_cmp (am_aJ h (am_R h 237 l0) (((8 : Int32) * l1) + l7).toNatClampNeg) l2)) → am_P d mi_M_open 19 [some (.inr (.inr l0)), some (.inl l1), some (.inr (.inl l2)), none, some (.inr (.inl l4)), none, some (.inl (0 : Int32)), some (.inl (l7 + (1 : Int32)))] [] h Q) ∧ (¬ (0 < (lg_cmp (am_aJ h (am_R h 237 l0) (((8 : Int32) * l1) + l7).toNatClampNeg) l2)) → am_T h l0 = 17 ∧ am_T h (am_R h 238 l0) = 2 ∧ vp_in (((8 : Int32) * l1) + l7) (am_N h (am_R h 238 l0)) ∧ (((lg_cmp (am_aJ h (am_R h 238 l0) (((8 : Int32) * l1) + l7).toNatClampNeg) (l2 + l4)) < 0) → am_P d mi_M_open 19 [some (.inr (.inr l0)), some (.inl l1), some (.inr (.inl l2)), none, some (.inr (.inl l4)), none, some (.inl (0 : Int32)), some (.inl (l7 + (1 : Int32)))] [] h Q) ∧ (¬ ((lg_cmp (am_aJ h (am_R h 238 l0) (((8 : Int32) * l1) + l7).toNatClampNeg) (l2 + l4)) < 0) → am_T h l0 = 17 ∧ am_T h (am_R h 238 l0) = 2 ∧ vp_in (((8 : Int32) * l1) + l7) (am_N h (am_R h 238 l0)) ∧ (((lg_cmp (am_aJ h (am_R h 238 l0) (((8 : Int32) * l1) + l7).toNatClampNeg) l2) ≤ 0) → am_P d mi_M_open 19 [some (.inr (.inr l0)), some (.inl l1), some (.inr (.inl l2)), none, some (.inr (.inl l4)), none, some (.inl (0 : Int32)), some (.inl (l7 + (1 : Int32)))] [] h Q) ∧ (¬ ((lg_cmp (am_aJ h (am_R h 238 l0) (((8 : Int32) * l1) + l7).toNatClampNeg) l2) ≤ 0) → am_P d mi_M_open 19 [some (.inr (.inr l0)), some (.inl l1), some (.inr (.inl l2)), none, some (.inr (.inl l4)), none, some (.inl (1 : Int32)), some (.inl (l7 + (1 : Int32)))] [] h Q)))) ∧ (¬ (l6 = 0) → am_P d mi_M_open 19 [some (.inr (.inr l0)), some (.inl l1), some (.inr (.inl l2)), none, some (.inr (.inl l4)), none, some (.inl (1 : Int32)), some (.inl (l7 + (1 : Int32)))] [] h Q))) : am_P d mi_M_open 19 [some (.inr (.inr l0)), some (.inl l1), some (.inr (.inl l2)), y3, some (.inr (.inl l4)), y5, some (.inl l6), some (.inl l7)] [] h Q := am_P_le (l := [some (.inr (.inr l0)), some (.inl l1), some (.inr (.inl l2)), none, some (.inr (.inl l4)), none, some (.inl l6), some (.inl l7)]) ⟨Or.inr rfl, Or.inr rfl, Or.inr rfl, Or.inl rfl, Or.inr rfl, Or.inl rfl, Or.inr rfl, Or.inr rfl, trivial⟩ (am_B_P (k := 50) (stops := [19]) H)
set_option maxRecDepth 100000 in
theorem bk_M_begin {d : Nat} {l0 : Nat} {l1 : Int32} {l2 : Int32} {h : am_H} {Q : Option am_V → am_H → Prop} (H : am_T h l0 = 17 ∧ am_T h l0 = 17 ∧ (am_T h (am_R h 235 l0) = 1 ∨ am_T h (am_R h 235 l0) = 3) ∧ vp_in ((16 : Int32) * (((8 : Int32) * l1) + l2)) (am_N h (am_R h 235 l0)) ∧ am_T h (am_R h 230 l0) = 1 ∧ vp_in l1 (am_N h (am_R h 230 l0)) ∧ (∀ h1 : am_H, h1 = am_xI h (am_R h 230 l0) l1.toNatClampNeg (am_aI h (am_R h 235 l0) ((16 : Int32) * (((8 : Int32) * l1) + l2)).toNatClampNeg) → am_T h1 l0 = 17 ∧ am_T h1 (am_R h1 231 l0) = 1 ∧ vp_in l1 (am_N h1 (am_R h1 231 l0)) ∧ (∀ h2 : am_H, h2 = am_xI h1 (am_R h1 231 l0) l1.toNatClampNeg l2 → am_T h2 l0 = 17 ∧ am_T h2 l0 = 17 ∧ am_T h2 (am_R h2 232 l0) = 2 ∧ vp_in l1 (am_N h2 (am_R h2 232 l0)) ∧ (∀ h3 : am_H, h3 = am_xJ h2 (am_R h2 232 l0) l1.toNatClampNeg (am_J h2 227 l0) → am_T h3 l0 = 17 ∧ am_T h3 l0 = 17 ∧ am_T h3 l0 = 17 ∧ (am_T h3 (am_R h3 230 l0) = 1 ∨ am_T h3 (am_R h3 230 l0) = 3) ∧ vp_in l1 (am_N h3 (am_R h3 230 l0)) ∧ am_T h3 l0 = 17 ∧ am_PC d mi_M_time [.inr (.inr l0), .inl l1, .inl (am_aI h3 (am_R h3 230 l0) l1.toNatClampNeg)] h3 (fun r4 h5 => ∃ x6 : Int64, r4 = some (.inr (.inl x6)) ∧ am_T h5 (am_R h3 233 l0) = 2 ∧ vp_in l1 (am_N h5 (am_R h3 233 l0)) ∧ (∀ h7 : am_H, h7 = am_xJ h5 (am_R h3 233 l0) l1.toNatClampNeg ((am_J h3 227 l0) + x6) → am_T h7 l0 = 17 ∧ 1 = 1 ∧ 1 = 1 ∧ (am_T h7 (am_R h7 234 l0) = 1 ∨ am_T h7 (am_R h7 234 l0) = 3) ∧ vp_in (((8 : Int32) * l1) + l2) (am_N h7 (am_R h7 234 l0)) ∧ am_T h7 (am_R h7 234 l0) = 1 ∧ vp_in (((8 : Int32) * l1) + l2) (am_N h7 (am_R h7 234 l0)) ∧ (∀ h8 : am_H, h8 = am_xI h7 (am_R h7 234 l0) (((8 : Int32) * l1) + l2).toNatClampNeg ((am_aI h7 (am_R h7 234 l0) (((8 : Int32) * l1) + l2).toNatClampNeg) - (1 : Int32)) → am_P d mi_M_begin 74 [some (.inr (.inr l0)), some (.inl l1), some (.inl l2), some (.inl (((8 : Int32) * l1) + l2)), some (.inl (0 : Int32))] [] h8 Q))))))) : am_PC (d + 1) mi_M_begin [.inr (.inr l0), .inl l1, .inl l2] h Q := am_B_P (k := 53) (stops := [74]) (d := d) (mid := mi_M_begin) (pc := 0) (l := [some (.inr (.inr l0)), some (.inl l1), some (.inl l2), none, none]) (st := []) (h := h) (Q := Q) H
set_option maxRecDepth 100000 in
theorem bk_M_begin_74 {d : Nat} {l0 : Nat} {l3 : Int32} {l4 : Int32} {y1 y2 : Option am_V} {h : am_H} {Q : Option am_V → am_H → Prop} (H : am_T h l0 = 17 ∧ (am_T h (am_R h 234 l0) = 1 ∨ am_T h (am_R h 234 l0) = 3) ∧ vp_in l3 (am_N h (am_R h 234 l0)) ∧ (((am_aI h (am_R h 234 l0) l3.toNatClampNeg) ≤ l4) → Q none h) ∧ (¬ ((am_aI h (am_R h 234 l0) l3.toNatClampNeg) ≤ l4) → am_T h l0 = 17 ∧ am_T h l0 = 17 ∧ (am_T h (am_R h 235 l0) = 1 ∨ am_T h (am_R h 235 l0) = 3) ∧ vp_in ((((16 : Int32) * l3) + l4) + (1 : Int32)) (am_N h (am_R h 235 l0)) ∧ am_T h (am_R h 235 l0) = 1 ∧ vp_in (((16 : Int32) * l3) + l4) (am_N h (am_R h 235 l0)) ∧ (∀ h1 : am_H, h1 = am_xI h (am_R h 235 l0) (((16 : Int32) * l3) + l4).toNatClampNeg (am_aI h (am_R h 235 l0) ((((16 : Int32) * l3) + l4) + (1 : Int32)).toNatClampNeg) → am_P d mi_M_begin 74 [some (.inr (.inr l0)), none, none, some (.inl l3), some (.inl (l4 + (1 : Int32)))] [] h1 Q))) : am_P d mi_M_begin 74 [some (.inr (.inr l0)), y1, y2, some (.inl l3), some (.inl l4)] [] h Q := am_P_le (l := [some (.inr (.inr l0)), none, none, some (.inl l3), some (.inl l4)]) ⟨Or.inr rfl, Or.inl rfl, Or.inl rfl, Or.inr rfl, Or.inr rfl, trivial⟩ (am_B_P (k := 28) (stops := [74]) H)
set_option maxRecDepth 100000 in
theorem bk_M_left {d : Nat} {l0 : Nat} {l1 : Int32} {l2 : Int32} {h : am_H} {Q : Option am_V → am_H → Prop} (H : am_T h l0 = 17 ∧ (∀ h1 : am_H, h1 = am_sI h 224 l0 (0 : Int32) → ((l1 = (-1 : Int32)) → ((l2 = 0) → am_T h1 l0 = 17 ∧ Q (some (.inl (am_I h1 251 l0))) h1) ∧ (¬ (l2 = 0) → am_P d mi_M_left 19 [some (.inr (.inr l0)), some (.inl l1), some (.inl l2)] [] h1 Q)) ∧ (¬ (l1 = (-1 : Int32)) → am_P d mi_M_left 19 [some (.inr (.inr l0)), some (.inl l1), some (.inl l2)] [] h1 Q))) : am_PC (d + 1) mi_M_left [.inr (.inr l0), .inl l1, .inl l2] h Q := am_B_P (k := 12) (stops := [19]) (d := d) (mid := mi_M_left) (pc := 0) (l := [some (.inr (.inr l0)), some (.inl l1), some (.inl l2)]) (st := []) (h := h) (Q := Q) H
set_option maxRecDepth 100000 in
theorem bk_M_left_19 {d : Nat} {l0 : Nat} {l1 : Int32} {l2 : Int32} {h : am_H} {Q : Option am_V → am_H → Prop} (H : ((l1 < 0) → Q (some (.inl (-1 : Int32))) h) ∧ (¬ (l1 < 0) → am_T h l0 = 17 ∧ ((l1 < (am_I h 252 l0)) → ((l2 < 0) → Q (some (.inl (-2 : Int32))) h) ∧ (¬ (l2 < 0) → ((l2 ≤ (3 : Int32)) → am_T h l0 = 17 ∧ (am_T h (am_R h 253 l0) = 1 ∨ am_T h (am_R h 253 l0) = 3) ∧ vp_in (((4 : Int32) * l1) + l2) (am_N h (am_R h 253 l0)) ∧ Q (some (.inl (am_aI h (am_R h 253 l0) (((4 : Int32) * l1) + l2).toNatClampNeg))) h) ∧ (¬ (l2 ≤ (3 : Int32)) → Q (some (.inl (-2 : Int32))) h))) ∧ (¬ (l1 < (am_I h 252 l0)) → Q (some (.inl (-1 : Int32))) h))) : am_P d mi_M_left 19 [some (.inr (.inr l0)), some (.inl l1), some (.inl l2)] [] h Q := am_P_le (l := [some (.inr (.inr l0)), some (.inl l1), some (.inl l2)]) ⟨Or.inr rfl, Or.inr rfl, Or.inr rfl, trivial⟩ (am_B_P (k := 21) (stops := [19]) H)
set_option maxRecDepth 100000 in
theorem bk_M_dropped {d : Nat} {l0 : Nat} {l1 : Int32} {h : am_H} {Q : Option am_V → am_H → Prop} (H : am_T h l0 = 17 ∧ (∀ h1 : am_H, h1 = am_sI h 224 l0 (0 : Int32) → ((l1 < 0) → Q (some (.inl (-2 : Int32))) h1) ∧ (¬ (l1 < 0) → ((l1 ≤ (3 : Int32)) → am_T h1 l0 = 17 ∧ (am_T h1 (am_R h1 254 l0) = 1 ∨ am_T h1 (am_R h1 254 l0) = 3) ∧ vp_in l1 (am_N h1 (am_R h1 254 l0)) ∧ Q (some (.inl (am_aI h1 (am_R h1 254 l0) l1.toNatClampNeg))) h1) ∧ (¬ (l1 ≤ (3 : Int32)) → Q (some (.inl (-2 : Int32))) h1)))) : am_PC (d + 1) mi_M_dropped [.inr (.inr l0), .inl l1] h Q := am_B_P (k := 14) (stops := []) (d := d) (mid := mi_M_dropped) (pc := 0) (l := [some (.inr (.inr l0)), some (.inl l1)]) (st := []) (h := h) (Q := Q) H
end
section
/-! BLOCKS, written by program: the run from a place comes to Q if this formula holds -/
set_option maxRecDepth 100000 in
theorem bk_L_init {d : Nat} {l0 : Nat} {h : am_H} {Q : Option am_V → am_H → Prop} (H : ¬ l0 = 0 ∧ am_PC d mi_L1_init [.inr (.inr l0)] h (fun r1 h2 => r1 = none ∧ am_T h2 l0 = 16 ∧ (∀ h3 : am_H, h3 = am_sR h2 192 l0 (am_R h2 9000 0) → Q none h3))) : am_PC (d + 1) mi_L_init [.inr (.inr l0)] h Q := am_B_P (k := 7) (stops := []) (d := d) (mid := mi_L_init) (pc := 0) (l := [some (.inr (.inr l0))]) (st := []) (h := h) (Q := Q) H
set_option maxRecDepth 100000 in
theorem bk_L1_init {d : Nat} {l0 : Nat} {h : am_H} {Q : Option am_V → am_H → Prop} (H : ¬ l0 = 0 ∧ am_PC d mi_L0_init [.inr (.inr l0)] h (fun r1 h2 => r1 = none ∧ am_T h2 l0 = 16 ∧ (∀ h3 : am_H, h3 = am_sI h2 194 l0 (0 : Int32) → Q none h3))) : am_PC (d + 1) mi_L1_init [.inr (.inr l0)] h Q := am_B_P (k := 7) (stops := []) (d := d) (mid := mi_L1_init) (pc := 0) (l := [some (.inr (.inr l0))]) (st := []) (h := h) (Q := Q) H
set_option maxRecDepth 100000 in
theorem bk_L0_init {d : Nat} {l0 : Nat} {h : am_H} {Q : Option am_V → am_H → Prop} (H : ¬ l0 = 0 ∧ Q none h) : am_PC (d + 1) mi_L0_init [.inr (.inr l0)] h Q := am_B_P (k := 4) (stops := []) (d := d) (mid := mi_L0_init) (pc := 0) (l := [some (.inr (.inr l0))]) (st := []) (h := h) (Q := Q) H
set_option maxRecDepth 100000 in
theorem bk_L_size {d : Nat} {l0 : Nat} {h : am_H} {Q : Option am_V → am_H → Prop} (H : am_T h l0 = 16 ∧ Q (some (.inl (am_I h 193 l0))) h) : am_PC (d + 1) mi_L_size [.inr (.inr l0)] h Q := am_B_P (k := 4) (stops := []) (d := d) (mid := mi_L_size) (pc := 0) (l := [some (.inr (.inr l0))]) (st := []) (h := h) (Q := Q) H
set_option maxRecDepth 100000 in
theorem bk_L_add {d : Nat} {l0 : Nat} {l1 : Nat} {h : am_H} {Q : Option am_V → am_H → Prop} (H : 1 = 1 ∧ am_T h l0 = 16 ∧ am_T h l0 = 16 ∧ (∀ h1 : am_H, h1 = am_sI h 194 l0 ((am_I h 194 l0) + (1 : Int32)) → am_T h1 l0 = 16 ∧ am_T h1 l0 = 16 ∧ am_T h1 l0 = 16 ∧ am_PC d mi_L_add2 [.inr (.inr l0), .inr (.inr l1), .inr (.inr (am_R h1 192 l0)), .inl (am_I h1 193 l0)] h1 (fun r2 h3 => r2 = none ∧ ((1 : Int32) = 0 ∨ (1 : Int32) = 1) ∧ Q (some (.inl (1 : Int32))) h3))) : am_PC (d + 1) mi_L_add [.inr (.inr l0), .inr (.inr l1)] h Q := am_B_P (k := 16) (stops := []) (d := d) (mid := mi_L_add) (pc := 0) (l := [some (.inr (.inr l0)), some (.inr (.inr l1))]) (st := []) (h := h) (Q := Q) H
set_option maxRecDepth 100000 in
theorem bk_L_add2 {d : Nat} {l0 : Nat} {l1 : Nat} {l2 : Nat} {l3 : Int32} {h : am_H} {Q : Option am_V → am_H → Prop} (H : (am_T h l2 = 1 ∨ am_T h l2 = 2 ∨ am_T h l2 = 3 ∨ am_T h l2 = 4 ∨ 100 ≤ am_T h l2) ∧ ((l3 = (Int32.ofNat (am_N h l2))) → am_T h l0 = 16 ∧ am_PC d mi_L_grow [.inr (.inr l0)] h (fun r1 h2 => ∃ x3 : Nat, r1 = some (.inr (.inr x3)) ∧ am_P d mi_L_add2 11 [some (.inr (.inr l0)), some (.inr (.inr l1)), some (.inr (.inr x3)), some (.inl l3)] [] h2 Q)) ∧ (¬ (l3 = (Int32.ofNat (am_N h l2))) → am_P d mi_L_add2 11 [some (.inr (.inr l0)), some (.inr (.inr l1)), some (.inr (.inr l2)), some (.inl l3)] [] h Q)) : am_PC (d + 1) mi_L_add2 [.inr (.inr l0), .inr (.inr l1), .inr (.inr l2), .inl l3] h Q := am_B_P (k := 9) (stops := [11]) (d := d) (mid := mi_L_add2) (pc := 0) (l := [some (.inr (.inr l0)), some (.inr (.inr l1)), some (.inr (.inr l2)), some (.inl l3)]) (st := []) (h := h) (Q := Q) H
set_option maxRecDepth 100000 in
theorem bk_L_add2_11 {d : Nat} {l0 : Nat} {l1 : Nat} {l2 : Nat} {l3 : Int32} {h : am_H} {Q : Option am_V → am_H → Prop} (H : 100 ≤ am_T h l2 ∧ vp_in l3 (am_N h l2) ∧ (l1 = 0 ∨ (10 ≤ am_T h l1 ∧ am_asg (am_T h l2 - 100) (am_T h l1 - 10) = true)) ∧ (∀ h1 : am_H, h1 = am_xR h l2 l3.toNatClampNeg l1 → am_T h1 l0 = 16 ∧ (∀ h2 : am_H, h2 = am_sI h1 193 l0 (l3 + (1 : Int32)) → Q none h2))) : am_P d mi_L_add2 11 [some (.inr (.inr l0)), some (.inr (.inr l1)), some (.inr (.inr l2)), some (.inl l3)] [] h Q := am_P_le (l := [some (.inr (.inr l0)), some (.inr (.inr l1)), some (.inr (.inr l2)), some (.inl l3)]) ⟨Or.inr rfl, Or.inr rfl, Or.inr rfl, Or.inr rfl, trivial⟩ (am_B_P (k := 11) (stops := [11]) H)
set_option maxRecDepth 100000 in
theorem bk_L_grow {d : Nat} {l0 : Nat} {h : am_H} {Q : Option am_V → am_H → Prop} (H : am_T h l0 = 16 ∧ am_T h l0 = 16 ∧ am_PC d mi_L_grow2 [.inr (.inr l0), .inl ((am_I h 193 l0) + (1 : Int32))] h (fun r1 h2 => ∃ x3 : Nat, r1 = some (.inr (.inr x3)) ∧ Q (some (.inr (.inr x3))) h2)) : am_PC (d + 1) mi_L_grow [.inr (.inr l0)] h Q := am_B_P (k := 8) (stops := []) (d := d) (mid := mi_L_grow) (pc := 0) (l := [some (.inr (.inr l0))]) (st := []) (h := h) (Q := Q) H
set_option maxRecDepth 100000 in
theorem bk_L_grow2 {d : Nat} {l0 : Nat} {l1 : Int32} {h : am_H} {Q : Option am_V → am_H → Prop} (H : am_T h l0 = 16 ∧ (am_T h (am_R h 192 l0) = 1 ∨ am_T h (am_R h 192 l0) = 2 ∨ am_T h (am_R h 192 l0) = 3 ∨ am_T h (am_R h 192 l0) = 4 ∨ 100 ≤ am_T h (am_R h 192 l0)) ∧ ((0 < (Int32.ofNat (am_N h (am_R h 192 l0)))) → am_P d mi_L_grow2 20 [some (.inr (.inr l0)), some (.inl l1), some (.inl (Int32.ofNat (am_N h (am_R h 192 l0)))), none] [] h Q) ∧ (¬ (0 < (Int32.ofNat (am_N h (am_R h 192 l0)))) → am_T h l0 = 16 ∧ (((am_R h 192 l0) = (am_R h 9000 0)) → (¬ (if (10 : Int32) < l1 then l1 else (10 : Int32)) < 0) ∧ (if (10 : Int32) < l1 then l1 else (10 : Int32)).toNatClampNeg ≤ 1000000 ∧ (∀ h1 : am_H, h1 = am_nA h 104 (if (10 : Int32) < l1 then l1 else (10 : Int32)).toNatClampNeg → 1 = 1 ∧ 1 = 1 ∧ am_T h1 l0 = 16 ∧ (∀ h2 : am_H, h2 = am_sR h1 192 l0 (am_Z h + 1) → Q (some (.inr (.inr (am_Z h + 1)))) h2))) ∧ (¬ ((am_R h 192 l0) = (am_R h 9000 0)) → am_P d mi_L_grow2 20 [some (.inr (.inr l0)), some (.inl l1), some (.inl (Int32.ofNat (am_N h (am_R h 192 l0)))), none] [] h Q))) : am_PC (d + 1) mi_L_grow2 [.inr (.inr l0), .inl l1] h Q := am_B_P (k := 19) (stops := [20]) (d := d) (mid := mi_L_grow2) (pc := 0) (l := [some (.inr (.inr l0)), some (.inl l1), none, none]) (st := []) (h := h) (Q := Q) H
set_option maxRecDepth 100000 in
theorem bk_L_grow2_20 {d : Nat} {l0 : Nat} {l1 : Int32} {l2 : Int32} {y3 : Option am_V} {h : am_H} {Q : Option am_V → am_H → Prop} (H : am_PC d mi_Q_newLength [.inl l2, .inl (l1 - l2), .inl (l2 >>> ((1 : Int32) &&& 31))] h (fun r1 h2 => ∃ x3 : Int32, r1 = some (.inl x3) ∧ am_T h2 l0 = 16 ∧ am_PC d mi_R_copyOf [.inr (.inr (am_R h2 192 l0)), .inl x3] h2 (fun r4 h5 => ∃ x6 : Nat, r4 = some (.inr (.inr x6)) ∧ 1 = 1 ∧ 1 = 1 ∧ am_T h5 l0 = 16 ∧ (∀ h7 : am_H, h7 = am_sR h5 192 l0 x6 → Q (some (.inr (.inr x6))) h7)))) : am_P d mi_L_grow2 20 [some (.inr (.inr l0)), some (.inl l1), some (.inl l2), y3] [] h Q := am_P_le (l := [some (.inr (.inr l0)), some (.inl l1), some (.inl l2), none]) ⟨Or.inr rfl, Or.inr rfl, Or.inr rfl, Or.inl rfl, trivial⟩ (am_B_P (k := 18) (stops := [20]) H)
set_option maxRecDepth 100000 in
theorem bk_Q_newLength {d : Nat} {l0 : Int32} {l1 : Int32} {l2 : Int32} {h : am_H} {Q : Option am_V → am_H → Prop} (H : (((l0 + (if l1 < l2 then l2 else l1)) ≤ (0 : Int32)) → am_PC d mi_Q_hugeLength [.inl l0, .inl l1] h (fun r1 h2 => ∃ x3 : Int32, r1 = some (.inl x3) ∧ Q (some (.inl x3)) h2)) ∧ (¬ ((l0 + (if l1 < l2 then l2 else l1)) ≤ (0 : Int32)) → (((2147483639 : Int32) < (l0 + (if l1 < l2 then l2 else l1))) → am_PC d mi_Q_hugeLength [.inl l0, .inl l1] h (fun r4 h5 => ∃ x6 : Int32, r4 = some (.inl x6) ∧ Q (some (.inl x6)) h5)) ∧ (¬ ((2147483639 : Int32) < (l0 + (if l1 < l2 then l2 else l1))) → Q (some (.inl (l0 + (if l1 < l2 then l2 else l1)))) h))) : am_PC (d + 1) mi_Q_newLength [.inl l0, .inl l1, .inl l2] h Q := am_B_P (k := 17) (stops := []) (d := d) (mid := mi_Q_newLength) (pc := 0) (l := [some (.inl l0), some (.inl l1), some (.inl l2), none]) (st := []) (h := h) (Q := Q) H
set_option maxRecDepth 100000 in
theorem bk_L_get {d : Nat} {l0 : Nat} {l1 : Int32} {h : am_H} {Q : Option am_V → am_H → Prop} (H : am_T h l0 = 16 ∧ am_PC d mi_O_checkIndex [.inl l1, .inl (am_I h 193 l0)] h (fun r1 h2 => ∃ x3 : Int32, r1 = some (.inl x3) ∧ 1 = 1 ∧ am_T h2 l0 = 16 ∧ am_PC d mi_L_elementData [.inr (.inr l0), .inl l1] h2 (fun r4 h5 => ∃ x6 : Nat, r4 = some (.inr (.inr x6)) ∧ Q (some (.inr (.inr x6))) h5))) : am_PC (d + 1) mi_L_get [.inr (.inr l0), .inl l1] h Q := am_B_P (k := 10) (stops := []) (d := d) (mid := mi_L_get) (pc := 0) (l := [some (.inr (.inr l0)), some (.inl l1)]) (st := []) (h := h) (Q := Q) H
set_option maxRecDepth 100000 in
theorem bk_O_checkIndex {d : Nat} {l0 : Int32} {l1 : Int32} {h : am_H} {Q : Option am_V → am_H → Prop} (H : am_PC d mi_V_checkIndex [.inl l0, .inl l1, .inr (.inr 0)] h (fun r1 h2 => ∃ x3 : Int32, r1 = some (.inl x3) ∧ Q (some (.inl x3)) h2)) : am_PC (d + 1) mi_O_checkIndex [.inl l0, .inl l1] h Q := am_B_P (k := 6) (stops := []) (d := d) (mid := mi_O_checkIndex) (pc := 0) (l := [some (.inl l0), some (.inl l1)]) (st := []) (h := h) (Q := Q) H
set_option maxRecDepth 100000 in
theorem bk_V_checkIndex {d : Nat} {l0 : Int32} {l1 : Int32} {l2 : Nat} {h : am_H} {Q : Option am_V → am_H → Prop} (H : ((l0 < 0) → False) ∧ (¬ (l0 < 0) → ((l0 < l1) → Q (some (.inl l0)) h) ∧ (¬ (l0 < l1) → False))) : am_PC (d + 1) mi_V_checkIndex [.inl l0, .inl l1, .inr (.inr l2)] h Q := am_B_P (k := 10) (stops := []) (d := d) (mid := mi_V_checkIndex) (pc := 0) (l := [some (.inl l0), some (.inl l1), some (.inr (.inr l2))]) (st := []) (h := h) (Q := Q) H
set_option maxRecDepth 100000 in
theorem bk_L_elementData {d : Nat} {l0 : Nat} {l1 : Int32} {h : am_H} {Q : Option am_V → am_H → Prop} (H : am_T h l0 = 16 ∧ 100 ≤ am_T h (am_R h 192 l0) ∧ vp_in l1 (am_N h (am_R h 192 l0)) ∧ Q (some (.inr (.inr (am_aR h (am_R h 192 l0) l1.toNatClampNeg)))) h) : am_PC (d + 1) mi_L_elementData [.inr (.inr l0), .inl l1] h Q := am_B_P (k := 6) (stops := []) (d := d) (mid := mi_L_elementData) (pc := 0) (l := [some (.inr (.inr l0)), some (.inl l1)]) (st := []) (h := h) (Q := Q) H
/-! BLOCKS, written by program: the run from a place comes to Q if this formula holds -/
set_option maxRecDepth 100000 in
theorem bk_W_cell {d : Nat} {l0 : Nat} {l1 : Int32} {h : am_H} {Q : Option am_V → am_H → Prop} (H : (am_T h l0 = 1 ∨ am_T h l0 = 2 ∨ am_T h l0 = 3 ∨ am_T h l0 = 4 ∨ 100 ≤ am_T h l0) ∧ (((Int32.ofNat (am_N h l0)) ≤ l1) → Q (some (.inl (0 : Int32))) h) ∧ (¬ ((Int32.ofNat (am_N h l0)) ≤ l1) → (am_T h l0 = 1 ∨ am_T h l0 = 3) ∧ vp_in l1 (am_N h l0) ∧ Q (some (.inl (am_aI h l0 l1.toNatClampNeg))) h)) : am_PC (d + 1) mi_W_cell [.inr (.inr l0), .inl l1] h Q := am_B_P (k := 10) (stops := []) (d := d) (mid := mi_W_cell) (pc := 0) (l := [some (.inr (.inr l0)), some (.inl l1)]) (st := []) (h := h) (Q := Q) H
set_option maxRecDepth 100000 in
theorem bk_W_law {d : Nat} {l0 : Nat} {h : am_H} {Q : Option am_V → am_H → Prop} (H : (∀ h1 : am_H, h1 = am_nO h 0 11 → 1 = 1 ∧ am_PC d mi_W_cell [.inr (.inr l0), .inl (0 : Int32)] h1 (fun r2 h3 => ∃ x4 : Int32, r2 = some (.inl x4) ∧ ¬ (am_Z h + 1) = 0 ∧ am_PC d mi_X_init [.inr (.inr (am_Z h + 1)), .inl x4] h3 (fun r5 h6 => r5 = none ∧ (∀ h7 : am_H, h7 = am_nO h6 7 31 → 1 = 1 ∧ am_PC d mi_W_cell [.inr (.inr l0), .inl (0 : Int32)] h7 (fun r8 h9 => ∃ x10 : Int32, r8 = some (.inl x10) ∧ ¬ (am_Z h6 + 1) = 0 ∧ am_PC d mi_M_init [.inr (.inr (am_Z h6 + 1)), .inl x10] h9 (fun r11 h12 => r11 = none ∧ (¬ (1 : Int32) < 0) ∧ (1 : Int32).toNatClampNeg ≤ 1000000 ∧ (∀ h13 : am_H, h13 = am_nA h12 2 (1 : Int32).toNatClampNeg → am_P d mi_W_law 33 [some (.inr (.inr l0)), some (.inr (.inr (am_Z h + 1))), some (.inr (.inr (am_Z h6 + 1))), some (.inr (.inr (am_Z h12 + 1))), some (.inl (1 : Int32)), none, none] [] h13 Q)))))))) : am_PC (d + 1) mi_W_law [.inr (.inr l0)] h Q := am_B_P (k := 21) (stops := [33]) (d := d) (mid := mi_W_law) (pc := 0) (l := [some (.inr (.inr l0)), none, none, none, none, none, none]) (st := []) (h := h) (Q := Q) H
set_option maxRecDepth 100000 in
theorem bk_W_law_33 {d : Nat} {l0 : Nat} {l1 : Nat} {l2 : Nat} {l3 : Nat} {l4 : Int32} {y5 y6 : Option am_V} {h : am_H} {Q : Option am_V → am_H → Prop} (H : (am_T h l0 = 1 ∨ am_T h l0 = 2 ∨ am_T h l0 = 3 ∨ am_T h l0 = 4 ∨ 100 ≤ am_T h l0) ∧ ((((Int32.ofNat (am_N h l0)) - (7 : Int32)) < l4) → ((1 : Int32) = 0 ∨ (1 : Int32) = 1) ∧ Q (some (.inl (1 : Int32))) h) ∧ (¬ (((Int32.ofNat (am_N h l0)) - (7 : Int32)) < l4) → (am_T h l0 = 1 ∨ am_T h l0 = 3) ∧ vp_in l4 (am_N h l0) ∧ (((am_aI h l0 l4.toNatClampNeg) &&& (15 : Int32)) = (0 : Int32) → (am_T h l0 = 1 ∨ am_T h l0 = 3) ∧ vp_in (l4 + (1 : Int32)) (am_N h l0) ∧ (am_T h l0 = 1 ∨ am_T h l0 = 3) ∧ vp_in (l4 + (2 : Int32)) (am_N h l0) ∧ (am_T h l0 = 1 ∨ am_T h l0 = 3) ∧ vp_in (l4 + (3 : Int32)) (am_N h l0) ∧ am_T h l1 = 10 ∧ am_PC d mi_X_link [.inr (.inr l1), .inl (am_aI h l0 (l4 + (1 : Int32)).toNatClampNeg), .inr (.inl (((am_aI h l0 (l4 + (2 : Int32)).toNatClampNeg).toInt64 <<< ((32 : Int32).toInt64 &&& 63)) ||| ((am_aI h l0 (l4 + (3 : Int32)).toNatClampNeg).toInt64 &&& (4294967295 : Int64))))] h (fun r61 h62 => ∃ x63 : Int32, r61 = some (.inl x63) ∧ (am_T h62 l0 = 1 ∨ am_T h62 l0 = 3) ∧ vp_in (l4 + (1 : Int32)) (am_N h62 l0) ∧ (am_T h62 l0 = 1 ∨ am_T h62 l0 = 3) ∧ vp_in (l4 + (2 : Int32)) (am_N h62 l0) ∧ (am_T h62 l0 = 1 ∨ am_T h62 l0 = 3) ∧ vp_in (l4 + (3 : Int32)) (am_N h62 l0) ∧ am_T h62 l2 = 17 ∧ am_PC d mi_M_link [.inr (.inr l2), .inl (am_aI h62 l0 (l4 + (1 : Int32)).toNatClampNeg), .inr (.inl (((am_aI h62 l0 (l4 + (2 : Int32)).toNatClampNeg).toInt64 <<< ((32 : Int32).toInt64 &&& 63)) ||| ((am_aI h62 l0 (l4 + (3 : Int32)).toNatClampNeg).toInt64 &&& (4294967295 : Int64))))] h62 (fun r64 h65 => ∃ x66 : Int32, r64 = some (.inl x66) ∧ ((x63 = x66) → am_P d mi_W_law 33 [some (.inr (.inr l0)), some (.inr (.inr l1)), some (.inr (.inr l2)), some (.inr (.inr l3)), some (.inl (l4 + (7 : Int32))), none, none] [] h65 Q) ∧ (¬ (x63 = x66) → ((0 : Int32) = 0 ∨ (0 : Int32) = 1) ∧ Q (some (.inl (0 : Int32))) h65)))) ∧ (¬ ((am_aI h l0 l4.toNatClampNeg) &&& (15 : Int32)) = (0 : Int32) → (((am_aI h l0 l4.toNatClampNeg) &&& (15 : Int32)) = (1 : Int32) → (am_T h l0 = 1 ∨ am_T h l0 = 3) ∧ vp_in (l4 + (1 : Int32)) (am_N h l0) ∧ (am_T h l0 = 1 ∨ am_T h l0 = 3) ∧ vp_in (l4 + (2 : Int32)) (am_N h l0) ∧ (am_T h l0 = 1 ∨ am_T h l0 = 3) ∧ vp_in (l4 + (3 : Int32)) (am_N h l0) ∧ (am_T h l0 = 1 ∨ am_T h l0 = 3) ∧ vp_in (l4 + (4 : Int32)) (am_N h l0) ∧ (am_T h l0 = 1 ∨ am_T h l0 = 3) ∧ vp_in (l4 + (5 : Int32)) (am_N h l0) ∧ (am_T h l0 = 1 ∨ am_T h l0 = 3) ∧ vp_in (l4 + (6 : Int32)) (am_N h l0) ∧ am_T h l1 = 10 ∧ am_PC d mi_X_gate [.inr (.inr l1), .inl (am_aI h l0 (l4 + (1 : Int32)).toNatClampNeg), .inl (am_aI h l0 (l4 + (2 : Int32)).toNatClampNeg), .inr (.inl (((am_aI h l0 (l4 + (3 : Int32)).toNatClampNeg).toInt64 <<< ((32 : Int32).toInt64 &&& 63)) ||| ((am_aI h l0 (l4 + (4 : Int32)).toNatClampNeg).toInt64 &&& (4294967295 : Int64)))), .inr (.inl (((am_aI h l0 (l4 + (5 : Int32)).toNatClampNeg).toInt64 <<< ((32 : Int32).toInt64 &&& 63)) ||| ((am_aI h l0 (l4 + (6 : Int32)).toNatClampNeg).toInt64 &&& (4294967295 : Int64))))] h (fun r55 h56 => ∃ x57 : Int32, r55 = some (.inl x57) ∧ (am_T h56 l0 = 1 ∨ am_T h56 l0 = 3) ∧ vp_in (l4 + (1 : Int32)) (am_N h56 l0) ∧ (am_T h56 l0 = 1 ∨ am_T h56 l0 = 3) ∧ vp_in (l4 + (2 : Int32)) (am_N h56 l0) ∧ (am_T h56 l0 = 1 ∨ am_T h56 l0 = 3) ∧ vp_in (l4 + (3 : Int32)) (am_N h56 l0) ∧ (am_T h56 l0 = 1 ∨ am_T h56 l0 = 3) ∧ vp_in (l4 + (4 : Int32)) (am_N h56 l0) ∧ (am_T h56 l0 = 1 ∨ am_T h56 l0 = 3) ∧ vp_in (l4 + (5 : Int32)) (am_N h56 l0) ∧ (am_T h56 l0 = 1 ∨ am_T h56 l0 = 3) ∧ vp_in (l4 + (6 : Int32)) (am_N h56 l0) ∧ am_T h56 l2 = 17 ∧ am_PC d mi_M_gate [.inr (.inr l2), .inl (am_aI h56 l0 (l4 + (1 : Int32)).toNatClampNeg), .inl (am_aI h56 l0 (l4 + (2 : Int32)).toNatClampNeg), .inr (.inl (((am_aI h56 l0 (l4 + (3 : Int32)).toNatClampNeg).toInt64 <<< ((32 : Int32).toInt64 &&& 63)) ||| ((am_aI h56 l0 (l4 + (4 : Int32)).toNatClampNeg).toInt64 &&& (4294967295 : Int64)))), .inr (.inl (((am_aI h56 l0 (l4 + (5 : Int32)).toNatClampNeg).toInt64 <<< ((32 : Int32).toInt64 &&& 63)) ||| ((am_aI h56 l0 (l4 + (6 : Int32)).toNatClampNeg).toInt64 &&& (4294967295 : Int64))))] h56 (fun r58 h59 => ∃ x60 : Int32, r58 = some (.inl x60) ∧ ((x57 = x60) → am_P d mi_W_law 33 [some (.inr (.inr l0)), some (.inr (.inr l1)), some (.inr (.inr l2)), some (.inr (.inr l3)), some (.inl (l4 + (7 : Int32))), none, none] [] h59 Q) ∧ (¬ (x57 = x60) → ((0 : Int32) = 0 ∨ (0 : Int32) = 1) ∧ Q (some (.inl (0 : Int32))) h59)))) ∧ (¬ ((am_aI h l0 l4.toNatClampNeg) &&& (15 : Int32)) = (1 : Int32) → (((am_aI h l0 l4.toNatClampNeg) &&& (15 : Int32)) = (2 : Int32) → (am_T h l0 = 1 ∨ am_T h l0 = 3) ∧ vp_in (l4 + (1 : Int32)) (am_N h l0) ∧ (am_T h l0 = 1 ∨ am_T h l0 = 3) ∧ vp_in (l4 + (2 : Int32)) (am_N h l0) ∧ False) ∧ (¬ ((am_aI h l0 l4.toNatClampNeg) &&& (15 : Int32)) = (2 : Int32) → (((am_aI h l0 l4.toNatClampNeg) &&& (15 : Int32)) = (3 : Int32) → (am_T h l0 = 1 ∨ am_T h l0 = 3) ∧ vp_in (l4 + (1 : Int32)) (am_N h l0) ∧ (am_T h l0 = 1 ∨ am_T h l0 = 3) ∧ vp_in (l4 + (2 : Int32)) (am_N h l0) ∧ (am_T h l0 = 1 ∨ am_T h l0 = 3) ∧ vp_in (l4 + (3 : Int32)) (am_N h l0) ∧ (am_T h l0 = 1 ∨ am_T h l0 = 3) ∧ vp_in (l4 + (4 : Int32)) (am_N h l0) ∧ am_T h l1 = 10 ∧ am_PC d mi_X_frame [.inr (.inr l1), .inl (am_aI h l0 (l4 + (1 : Int32)).toNatClampNeg), .inl (am_aI h l0 (l4 + (2 : Int32)).toNatClampNeg), .inl (am_aI h l0 (l4 + (3 : Int32)).toNatClampNeg), .inl (am_aI h l0 (l4 + (4 : Int32)).toNatClampNeg)] h (fun r49 h50 => ∃ x51 : Int32, r49 = some (.inl x51) ∧ (am_T h50 l0 = 1 ∨ am_T h50 l0 = 3) ∧ vp_in (l4 + (1 : Int32)) (am_N h50 l0) ∧ (am_T h50 l0 = 1 ∨ am_T h50 l0 = 3) ∧ vp_in (l4 + (2 : Int32)) (am_N h50 l0) ∧ (am_T h50 l0 = 1 ∨ am_T h50 l0 = 3) ∧ vp_in (l4 + (3 : Int32)) (am_N h50 l0) ∧ (am_T h50 l0 = 1 ∨ am_T h50 l0 = 3) ∧ vp_in (l4 + (4 : Int32)) (am_N h50 l0) ∧ am_T h50 l2 = 17 ∧ am_PC d mi_M_frame [.inr (.inr l2), .inl (am_aI h50 l0 (l4 + (1 : Int32)).toNatClampNeg), .inl (am_aI h50 l0 (l4 + (2 : Int32)).toNatClampNeg), .inl (am_aI h50 l0 (l4 + (3 : Int32)).toNatClampNeg), .inl (am_aI h50 l0 (l4 + (4 : Int32)).toNatClampNeg)] h50 (fun r52 h53 => ∃ x54 : Int32, r52 = some (.inl x54) ∧ ((x51 = x54) → am_P d mi_W_law 33 [some (.inr (.inr l0)), some (.inr (.inr l1)), some (.inr (.inr l2)), some (.inr (.inr l3)), some (.inl (l4 + (7 : Int32))), none, none] [] h53 Q) ∧ (¬ (x51 = x54) → ((0 : Int32) = 0 ∨ (0 : Int32) = 1) ∧ Q (some (.inl (0 : Int32))) h53)))) ∧ (¬ ((am_aI h l0 l4.toNatClampNeg) &&& (15 : Int32)) = (3 : Int32) → (((am_aI h l0 l4.toNatClampNeg) &&& (15 : Int32)) = (4 : Int32) → (am_T h l0 = 1 ∨ am_T h l0 = 3) ∧ vp_in (l4 + (1 : Int32)) (am_N h l0) ∧ (am_T h l0 = 1 ∨ am_T h l0 = 3) ∧ vp_in (l4 + (2 : Int32)) (am_N h l0) ∧ am_T h l1 = 10 ∧ am_PC d mi_X_run [.inr (.inr l1), .inr (.inl (((am_aI h l0 (l4 + (1 : Int32)).toNatClampNeg).toInt64 <<< ((32 : Int32).toInt64 &&& 63)) ||| ((am_aI h l0 (l4 + (2 : Int32)).toNatClampNeg).toInt64 &&& (4294967295 : Int64))))] h (fun r43 h44 => ∃ x45 : Int32, r43 = some (.inl x45) ∧ (am_T h44 l0 = 1 ∨ am_T h44 l0 = 3) ∧ vp_in (l4 + (1 : Int32)) (am_N h44 l0) ∧ (am_T h44 l0 = 1 ∨ am_T h44 l0 = 3) ∧ vp_in (l4 + (2 : Int32)) (am_N h44 l0) ∧ am_T h44 l2 = 17 ∧ am_PC d mi_M_run [.inr (.inr l2), .inr (.inl (((am_aI h44 l0 (l4 + (1 : Int32)).toNatClampNeg).toInt64 <<< ((32 : Int32).toInt64 &&& 63)) ||| ((am_aI h44 l0 (l4 + (2 : Int32)).toNatClampNeg).toInt64 &&& (4294967295 : Int64))))] h44 (fun r46 h47 => ∃ x48 : Int32, r46 = some (.inl x48) ∧ ((x45 = x48) → am_P d mi_W_law 33 [some (.inr (.inr l0)), some (.inr (.inr l1)), some (.inr (.inr l2)), some (.inr (.inr l3)), some (.inl (l4 + (7 : Int32))), none, none] [] h47 Q) ∧ (¬ (x45 = x48) → ((0 : Int32) = 0 ∨ (0 : Int32) = 1) ∧ Q (some (.inl (0 : Int32))) h47)))) ∧ (¬ ((am_aI h l0 l4.toNatClampNeg) &&& (15 : Int32)) = (4 : Int32) → (((am_aI h l0 l4.toNatClampNeg) &&& (15 : Int32)) = (5 : Int32) → (am_T h l0 = 1 ∨ am_T h l0 = 3) ∧ vp_in (l4 + (1 : Int32)) (am_N h l0) ∧ (am_T h l0 = 1 ∨ am_T h l0 = 3) ∧ vp_in (l4 + (2 : Int32)) (am_N h l0) ∧ am_T h l1 = 10 ∧ am_PC d mi_X_left [.inr (.inr l1), .inl (am_aI h l0 (l4 + (1 : Int32)).toNatClampNeg), .inl (am_aI h l0 (l4 + (2 : Int32)).toNatClampNeg)] h (fun r37 h38 => ∃ x39 : Int32, r37 = some (.inl x39) ∧ (am_T h38 l0 = 1 ∨ am_T h38 l0 = 3) ∧ vp_in (l4 + (1 : Int32)) (am_N h38 l0) ∧ (am_T h38 l0 = 1 ∨ am_T h38 l0 = 3) ∧ vp_in (l4 + (2 : Int32)) (am_N h38 l0) ∧ am_T h38 l2 = 17 ∧ am_PC d mi_M_left [.inr (.inr l2), .inl (am_aI h38 l0 (l4 + (1 : Int32)).toNatClampNeg), .inl (am_aI h38 l0 (l4 + (2 : Int32)).toNatClampNeg)] h38 (fun r40 h41 => ∃ x42 : Int32, r40 = some (.inl x42) ∧ ((x39 = x42) → am_P d mi_W_law 33 [some (.inr (.inr l0)), some (.inr (.inr l1)), some (.inr (.inr l2)), some (.inr (.inr l3)), some (.inl (l4 + (7 : Int32))), none, none] [] h41 Q) ∧ (¬ (x39 = x42) → ((0 : Int32) = 0 ∨ (0 : Int32) = 1) ∧ Q (some (.inl (0 : Int32))) h41)))) ∧ (¬ ((am_aI h l0 l4.toNatClampNeg) &&& (15 : Int32)) = (5 : Int32) → (((am_aI h l0 l4.toNatClampNeg) &&& (15 : Int32)) = (6 : Int32) → (am_T h l0 = 1 ∨ am_T h l0 = 3) ∧ vp_in (l4 + (1 : Int32)) (am_N h l0) ∧ (am_T h l0 = 1 ∨ am_T h l0 = 3) ∧ vp_in (l4 + (2 : Int32)) (am_N h l0) ∧ (am_T h l0 = 1 ∨ am_T h l0 = 3) ∧ vp_in (l4 + (3 : Int32)) (am_N h l0) ∧ (am_T h l0 = 1 ∨ am_T h l0 = 3) ∧ vp_in (l4 + (4 : Int32)) (am_N h l0) ∧ am_T h l1 = 10 ∧ am_PC d mi_X_learn [.inr (.inr l1), .inl (am_aI h l0 (l4 + (1 : Int32)).toNatClampNeg), .inl (am_aI h l0 (l4 + (2 : Int32)).toNatClampNeg), .inr (.inl (((am_aI h l0 (l4 + (3 : Int32)).toNatClampNeg).toInt64 <<< ((32 : Int32).toInt64 &&& 63)) ||| ((am_aI h l0 (l4 + (4 : Int32)).toNatClampNeg).toInt64 &&& (4294967295 : Int64))))] h (fun r31 h32 => ∃ x33 : Int32, r31 = some (.inl x33) ∧ (am_T h32 l0 = 1 ∨ am_T h32 l0 = 3) ∧ vp_in (l4 + (1 : Int32)) (am_N h32 l0) ∧ (am_T h32 l0 = 1 ∨ am_T h32 l0 = 3) ∧ vp_in (l4 + (2 : Int32)) (am_N h32 l0) ∧ (am_T h32 l0 = 1 ∨ am_T h32 l0 = 3) ∧ vp_in (l4 + (3 : Int32)) (am_N h32 l0) ∧ (am_T h32 l0 = 1 ∨ am_T h32 l0 = 3) ∧ vp_in (l4 + (4 : Int32)) (am_N h32 l0) ∧ am_T h32 l2 = 17 ∧ am_PC d mi_M_learn [.inr (.inr l2), .inl (am_aI h32 l0 (l4 + (1 : Int32)).toNatClampNeg), .inl (am_aI h32 l0 (l4 + (2 : Int32)).toNatClampNeg), .inr (.inl (((am_aI h32 l0 (l4 + (3 : Int32)).toNatClampNeg).toInt64 <<< ((32 : Int32).toInt64 &&& 63)) ||| ((am_aI h32 l0 (l4 + (4 : Int32)).toNatClampNeg).toInt64 &&& (4294967295 : Int64))))] h32 (fun r34 h35 => ∃ x36 : Int32, r34 = some (.inl x36) ∧ ((x33 = x36) → am_P d mi_W_law 33 [some (.inr (.inr l0)), some (.inr (.inr l1)), some (.inr (.inr l2)), some (.inr (.inr l3)), some (.inl (l4 + (7 : Int32))), none, none] [] h35 Q) ∧ (¬ (x33 = x36) → ((0 : Int32) = 0 ∨ (0 : Int32) = 1) ∧ Q (some (.inl (0 : Int32))) h35)))) ∧ (¬ ((am_aI h l0 l4.toNatClampNeg) &&& (15 : Int32)) = (6 : Int32) → (((am_aI h l0 l4.toNatClampNeg) &&& (15 : Int32)) = (7 : Int32) → (am_T h l0 = 1 ∨ am_T h l0 = 3) ∧ vp_in (l4 + (1 : Int32)) (am_N h l0) ∧ (am_T h l0 = 1 ∨ am_T h l0 = 3) ∧ vp_in (l4 + (2 : Int32)) (am_N h l0) ∧ (am_T h l0 = 1 ∨ am_T h l0 = 3) ∧ vp_in (l4 + (3 : Int32)) (am_N h l0) ∧ (am_T h l0 = 1 ∨ am_T h l0 = 3) ∧ vp_in (l4 + (4 : Int32)) (am_N h l0) ∧ (am_T h l0 = 1 ∨ am_T h l0 = 3) ∧ vp_in (l4 + (5 : Int32)) (am_N h l0) ∧ (am_T h l0 = 1 ∨ am_T h l0 = 3) ∧ vp_in (l4 + (6 : Int32)) (am_N h l0) ∧ am_T h l1 = 10 ∧ am_PC d mi_X_credit [.inr (.inr l1), .inl (am_aI h l0 (l4 + (1 : Int32)).toNatClampNeg), .inl (am_aI h l0 (l4 + (2 : Int32)).toNatClampNeg), .inr (.inl (((am_aI h l0 (l4 + (3 : Int32)).toNatClampNeg).toInt64 <<< ((32 : Int32).toInt64 &&& 63)) ||| ((am_aI h l0 (l4 + (4 : Int32)).toNatClampNeg).toInt64 &&& (4294967295 : Int64)))), .inr (.inl (((am_aI h l0 (l4 + (5 : Int32)).toNatClampNeg).toInt64 <<< ((32 : Int32).toInt64 &&& 63)) ||| ((am_aI h l0 (l4 + (6 : Int32)).toNatClampNeg).toInt64 &&& (4294967295 : Int64))))] h (fun r25 h26 => ∃ x27 : Int32, r25 = some (.inl x27) ∧ (am_T h26 l0 = 1 ∨ am_T h26 l0 = 3) ∧ vp_in (l4 + (1 : Int32)) (am_N h26 l0) ∧ (am_T h26 l0 = 1 ∨ am_T h26 l0 = 3) ∧ vp_in (l4 + (2 : Int32)) (am_N h26 l0) ∧ (am_T h26 l0 = 1 ∨ am_T h26 l0 = 3) ∧ vp_in (l4 + (3 : Int32)) (am_N h26 l0) ∧ (am_T h26 l0 = 1 ∨ am_T h26 l0 = 3) ∧ vp_in (l4 + (4 : Int32)) (am_N h26 l0) ∧ (am_T h26 l0 = 1 ∨ am_T h26 l0 = 3) ∧ vp_in (l4 + (5 : Int32)) (am_N h26 l0) ∧ (am_T h26 l0 = 1 ∨ am_T h26 l0 = 3) ∧ vp_in (l4 + (6 : Int32)) (am_N h26 l0) ∧ am_T h26 l2 = 17 ∧ am_PC d mi_M_credit [.inr (.inr l2), .inl (am_aI h26 l0 (l4 + (1 : Int32)).toNatClampNeg), .inl (am_aI h26 l0 (l4 + (2 : Int32)).toNatClampNeg), .inr (.inl (((am_aI h26 l0 (l4 + (3 : Int32)).toNatClampNeg).toInt64 <<< ((32 : Int32).toInt64 &&& 63)) ||| ((am_aI h26 l0 (l4 + (4 : Int32)).toNatClampNeg).toInt64 &&& (4294967295 : Int64)))), .inr (.inl (((am_aI h26 l0 (l4 + (5 : Int32)).toNatClampNeg).toInt64 <<< ((32 : Int32).toInt64 &&& 63)) ||| ((am_aI h26 l0 (l4 + (6 : Int32)).toNatClampNeg).toInt64 &&& (4294967295 : Int64))))] h26 (fun r28 h29 => ∃ x30 : Int32, r28 = some (.inl x30) ∧ ((x27 = x30) → am_P d mi_W_law 33 [some (.inr (.inr l0)), some (.inr (.inr l1)), some (.inr (.inr l2)), some (.inr (.inr l3)), some (.inl (l4 + (7 : Int32))), none, none] [] h29 Q) ∧ (¬ (x27 = x30) → ((0 : Int32) = 0 ∨ (0 : Int32) = 1) ∧ Q (some (.inl (0 : Int32))) h29)))) ∧ (¬ ((am_aI h l0 l4.toNatClampNeg) &&& (15 : Int32)) = (7 : Int32) → (((am_aI h l0 l4.toNatClampNeg) &&& (15 : Int32)) = (8 : Int32) → (am_T h l0 = 1 ∨ am_T h l0 = 3) ∧ vp_in (l4 + (1 : Int32)) (am_N h l0) ∧ (am_T h l0 = 1 ∨ am_T h l0 = 3) ∧ vp_in (l4 + (2 : Int32)) (am_N h l0) ∧ (am_T h l0 = 1 ∨ am_T h l0 = 3) ∧ vp_in (l4 + (3 : Int32)) (am_N h l0) ∧ am_T h l1 = 10 ∧ am_PC d mi_X_filter [.inr (.inr l1), .inl (am_aI h l0 (l4 + (1 : Int32)).toNatClampNeg), .inr (.inl (((am_aI h l0 (l4 + (2 : Int32)).toNatClampNeg).toInt64 <<< ((32 : Int32).toInt64 &&& 63)) ||| ((am_aI h l0 (l4 + (3 : Int32)).toNatClampNeg).toInt64 &&& (4294967295 : Int64))))] h (fun r19 h20 => ∃ x21 : Int32, r19 = some (.inl x21) ∧ (am_T h20 l0 = 1 ∨ am_T h20 l0 = 3) ∧ vp_in (l4 + (1 : Int32)) (am_N h20 l0) ∧ (am_T h20 l0 = 1 ∨ am_T h20 l0 = 3) ∧ vp_in (l4 + (2 : Int32)) (am_N h20 l0) ∧ (am_T h20 l0 = 1 ∨ am_T h20 l0 = 3) ∧ vp_in (l4 + (3 : Int32)) (am_N h20 l0) ∧ am_T h20 l2 = 17 ∧ am_PC d mi_M_filter [.inr (.inr l2), .inl (am_aI h20 l0 (l4 + (1 : Int32)).toNatClampNeg), .inr (.inl (((am_aI h20 l0 (l4 + (2 : Int32)).toNatClampNeg).toInt64 <<< ((32 : Int32).toInt64 &&& 63)) ||| ((am_aI h20 l0 (l4 + (3 : Int32)).toNatClampNeg).toInt64 &&& (4294967295 : Int64))))] h20 (fun r22 h23 => ∃ x24 : Int32, r22 = some (.inl x24) ∧ ((x21 = x24) → am_P d mi_W_law 33 [some (.inr (.inr l0)), some (.inr (.inr l1)), some (.inr (.inr l2)), some (.inr (.inr l3)), some (.inl (l4 + (7 : Int32))), none, none] [] h23 Q) ∧ (¬ (x21 = x24) → ((0 : Int32) = 0 ∨ (0 : Int32) = 1) ∧ Q (some (.inl (0 : Int32))) h23)))) ∧ (¬ ((am_aI h l0 l4.toNatClampNeg) &&& (15 : Int32)) = (8 : Int32) → (((am_aI h l0 l4.toNatClampNeg) &&& (15 : Int32)) = (9 : Int32) → (am_T h l0 = 1 ∨ am_T h l0 = 3) ∧ vp_in (l4 + (1 : Int32)) (am_N h l0) ∧ (am_T h l0 = 1 ∨ am_T h l0 = 3) ∧ vp_in (l4 + (2 : Int32)) (am_N h l0) ∧ (am_T h l0 = 1 ∨ am_T h l0 = 3) ∧ vp_in (l4 + (3 : Int32)) (am_N h l0) ∧ am_T h l1 = 10 ∧ am_PC d mi_X_clock [.inr (.inr l1), .inl (am_aI h l0 (l4 + (1 : Int32)).toNatClampNeg), .inr (.inl (((am_aI h l0 (l4 + (2 : Int32)).toNatClampNeg).toInt64 <<< ((32 : Int32).toInt64 &&& 63)) ||| ((am_aI h l0 (l4 + (3 : Int32)).toNatClampNeg).toInt64 &&& (4294967295 : Int64))))] h (fun r13 h14 => ∃ x15 : Int32, r13 = some (.inl x15) ∧ (am_T h14 l0 = 1 ∨ am_T h14 l0 = 3) ∧ vp_in (l4 + (1 : Int32)) (am_N h14 l0) ∧ (am_T h14 l0 = 1 ∨ am_T h14 l0 = 3) ∧ vp_in (l4 + (2 : Int32)) (am_N h14 l0) ∧ (am_T h14 l0 = 1 ∨ am_T h14 l0 = 3) ∧ vp_in (l4 + (3 : Int32)) (am_N h14 l0) ∧ am_T h14 l2 = 17 ∧ am_PC d mi_M_clock [.inr (.inr l2), .inl (am_aI h14 l0 (l4 + (1 : Int32)).toNatClampNeg), .inr (.inl (((am_aI h14 l0 (l4 + (2 : Int32)).toNatClampNeg).toInt64 <<< ((32 : Int32).toInt64 &&& 63)) ||| ((am_aI h14 l0 (l4 + (3 : Int32)).toNatClampNeg).toInt64 &&& (4294967295 : Int64))))] h14 (fun r16 h17 => ∃ x18 : Int32, r16 = some (.inl x18) ∧ ((x15 = x18) → am_P d mi_W_law 33 [some (.inr (.inr l0)), some (.inr (.inr l1)), some (.inr (.inr l2)), some (.inr (.inr l3)), some (.inl (l4 + (7 : Int32))), none, none] [] h17 Q) ∧ (¬ (x15 = x18) → ((0 : Int32) = 0 ∨ (0 : Int32) = 1) ∧ Q (some (.inl (0 : Int32))) h17)))) ∧ (¬ ((am_aI h l0 l4.toNatClampNeg) &&& (15 : Int32)) = (9 : Int32) → (((am_aI h l0 l4.toNatClampNeg) &&& (15 : Int32)) = (10 : Int32) → (am_T h l0 = 1 ∨ am_T h l0 = 3) ∧ vp_in (l4 + (1 : Int32)) (am_N h l0) ∧ am_T h l1 = 10 ∧ am_PC d mi_X_dropped [.inr (.inr l1), .inl (am_aI h l0 (l4 + (1 : Int32)).toNatClampNeg)] h (fun r7 h8 => ∃ x9 : Int32, r7 = some (.inl x9) ∧ (am_T h8 l0 = 1 ∨ am_T h8 l0 = 3) ∧ vp_in (l4 + (1 : Int32)) (am_N h8 l0) ∧ am_T h8 l2 = 17 ∧ am_PC d mi_M_dropped [.inr (.inr l2), .inl (am_aI h8 l0 (l4 + (1 : Int32)).toNatClampNeg)] h8 (fun r10 h11 => ∃ x12 : Int32, r10 = some (.inl x12) ∧ ((x9 = x12) → am_P d mi_W_law 33 [some (.inr (.inr l0)), some (.inr (.inr l1)), some (.inr (.inr l2)), some (.inr (.inr l3)), some (.inl (l4 + (7 : Int32))), none, none] [] h11 Q) ∧ (¬ (x9 = x12) → ((0 : Int32) = 0 ∨ (0 : Int32) = 1) ∧ Q (some (.inl (0 : Int32))) h11)))) ∧ (¬ ((am_aI h l0 l4.toNatClampNeg) &&& (15 : Int32)) = (10 : Int32) → (((am_aI h l0 l4.toNatClampNeg) &&& (15 : Int32)) = (11 : Int32) → (am_T h l0 = 1 ∨ am_T h l0 = 3) ∧ vp_in (l4 + (1 : Int32)) (am_N h l0) ∧ (am_T h l0 = 1 ∨ am_T h l0 = 3) ∧ vp_in (l4 + (2 : Int32)) (am_N h l0) ∧ am_T h l1 = 10 ∧ am_PC d mi_X_service [.inr (.inr l1), .inl (am_aI h l0 (l4 + (1 : Int32)).toNatClampNeg), .inl (am_aI h l0 (l4 + (2 : Int32)).toNatClampNeg)] h (fun r1 h2 => ∃ x3 : Int32, r1 = some (.inl x3) ∧ (am_T h2 l0 = 1 ∨ am_T h2 l0 = 3) ∧ vp_in (l4 + (1 : Int32)) (am_N h2 l0) ∧ (am_T h2 l0 = 1 ∨ am_T h2 l0 = 3) ∧ vp_in (l4 + (2 : Int32)) (am_N h2 l0) ∧ am_T h2 l2 = 17 ∧ am_PC d mi_M_service [.inr (.inr l2), .inl (am_aI h2 l0 (l4 + (1 : Int32)).toNatClampNeg), .inl (am_aI h2 l0 (l4 + (2 : Int32)).toNatClampNeg)] h2 (fun r4 h5 => ∃ x6 : Int32, r4 = some (.inl x6) ∧ ((x3 = x6) → am_P d mi_W_law 33 [some (.inr (.inr l0)), some (.inr (.inr l1)), some (.inr (.inr l2)), some (.inr (.inr l3)), some (.inl (l4 + (7 : Int32))), none, none] [] h5 Q) ∧ (¬ (x3 = x6) → ((0 : Int32) = 0 ∨ (0 : Int32) = 1) ∧ Q (some (.inl (0 : Int32))) h5)))) ∧ (¬ ((am_aI h l0 l4.toNatClampNeg) &&& (15 : Int32)) = (11 : Int32) → am_P d mi_W_law 33 [some (.inr (.inr l0)), some (.inr (.inr l1)), some (.inr (.inr l2)), some (.inr (.inr l3)), some (.inl (l4 + (7 : Int32))), none, none] [] h Q)))))))))))))) : am_P d mi_W_law 33 [some (.inr (.inr l0)), some (.inr (.inr l1)), some (.inr (.inr l2)), some (.inr (.inr l3)), some (.inl l4), y5, y6] [] h Q := am_P_le (l := [some (.inr (.inr l0)), some (.inr (.inr l1)), some (.inr (.inr l2)), some (.inr (.inr l3)), some (.inl l4), none, none]) ⟨Or.inr rfl, Or.inr rfl, Or.inr rfl, Or.inr rfl, Or.inr rfl, Or.inl rfl, Or.inl rfl, trivial⟩ (am_B_P (k := 109) (stops := [33]) H)
end
section
/-! PLACES of the class's cells: x the object (n ports), then its ports' array, its ports (42 cells each), addresses, list, drops, offerers, times -/
def px (x i : Nat) : Nat := x + 2 + 42 * i
def kx (x i r : Nat) : Nat := x + 4 + 42 * i + 5 * r
def ax (x n : Nat) : Nat := x + 2 + 42 * n
/-- the class's cells are where they are -/
def SX (h : am_H) (x n : Nat) : Prop := (1 ≤ n ∧ n ≤ 16) ∧ am_T h x = 10 ∧ (am_R h 0 x = x + 1 ∧ am_T h (x + 1) = 100 ∧ am_N h (x + 1) = n ∧ ∀ i, i < n → am_aR h (x + 1) i = px x i) ∧
  (∀ i, i < n → am_T h (px x i) = 11 ∧ am_I h 32 (px x i) = nI (i + 1) ∧ am_R h 33 (px x i) = px x i + 1 ∧ am_T h (px x i + 1) = 101 ∧ am_N h (px x i + 1) = 8 ∧ ∀ r, r < 8 → am_aR h (px x i + 1) r = kx x i r) ∧
  (∀ i r, i < n → r < 8 → am_T h (kx x i r) = 12 ∧ am_R h 64 (kx x i r) = kx x i r + 1 ∧ am_R h 65 (kx x i r) = kx x i r + 2 ∧ am_R h 68 (kx x i r) = kx x i r + 3 ∧ am_R h 69 (kx x i r) = kx x i r + 4 ∧
    am_T h (kx x i r + 1) = 1 ∧ am_T h (kx x i r + 2) = 1 ∧ am_T h (kx x i r + 3) = 2 ∧ am_T h (kx x i r + 4) = 2 ∧ am_N h (kx x i r + 1) = 16 ∧ am_N h (kx x i r + 2) = 16 ∧ am_N h (kx x i r + 3) = 8 ∧ am_N h (kx x i r + 4) = 8) ∧
  (am_R h 1 x = ax x n ∧ am_T h (ax x n) = 102 ∧ am_N h (ax x n) = 1001) ∧ (am_R h 2 x = ax x n + 1 ∧ am_T h (ax x n + 1) = 16) ∧ (am_R h 3 x = ax x n + 2 ∧ am_T h (ax x n + 2) = 1 ∧ am_N h (ax x n + 2) = 4) ∧
  (am_R h 4 x = ax x n + 3 ∧ am_T h (ax x n + 3) = 1 ∧ am_N h (ax x n + 3) = 101) ∧ (am_R h 5 x = ax x n + 4 ∧ am_T h (ax x n + 4) = 2 ∧ am_N h (ax x n + 4) = 101)
/-- an int is below 1, above n, or one of 1 .. n -/
theorem ix1 (p : Int32) {n : Nat} (hn : n < 2 ^ 31) : p < 1 ∨ (¬ p < 1 ∧ nI n < p) ∨ ∃ i, i < n ∧ p = nI (i + 1) ∧ ¬ p < 1 ∧ ¬ nI n < p := by
  by_cases h1 : p < 1
  · exact Or.inl h1
  · by_cases h2 : nI n < p
    · exact Or.inr (Or.inl ⟨h1, h2⟩)
    · refine Or.inr (Or.inr ?_)
      have a1 : (1 : Int32).toInt ≤ p.toInt := Int32.le_iff_toInt_le.mp (Int32.not_lt.mp h1)
      have a2 : p.toInt ≤ (nI n).toInt := Int32.le_iff_toInt_le.mp (Int32.not_lt.mp h2)
      rw [nI_toInt hn] at a2
      have e1 : (1 : Int32).toInt = 1 := rfl
      rw [e1] at a1
      refine ⟨p.toInt.toNat - 1, by omega, ?_, h1, h2⟩
      apply Int32.toInt_inj.mp
      rw [nI_toInt (by omega)]
      omega
/-- an int is below 0, at n or above, or one of 0 .. n - 1 -/
theorem ix0 (p : Int32) {n : Nat} (hn : n < 2 ^ 31) : p < 0 ∨ (¬ p < 0 ∧ nI n ≤ p) ∨ ∃ i, i < n ∧ p = nI i ∧ ¬ p < 0 ∧ ¬ nI n ≤ p := by
  rcases pk_ix p hn with h | h | ⟨j, h1, h2⟩
  · exact Or.inl h
  · by_cases h0 : p < 0
    · exact Or.inl h0
    · exact Or.inr (Or.inl ⟨h0, h⟩)
  · refine Or.inr (Or.inr ⟨j, h1, h2, ?_, ?_⟩)
    · rw [h2]; exact nI_pos (by omega)
    · rw [h2]; exact nI_ge h1 hn
theorem sp_isRank_t {d : Nat} {r : Int32} {h : am_H} {Q : Option am_V → am_H → Prop} (h1 : ¬ r < 0) (h2 : ¬ nI 8 ≤ r) (hQ : Q (some (.inl 1)) h) : am_PC (d + 1) mi_X_isRank [.inl r] h Q :=
  bk_X_isRank ⟨fun q => absurd q h1, fun _ => ⟨fun q => absurd q h2, fun _ => ⟨Or.inr rfl, hQ⟩⟩⟩
theorem sp_isRank_f {d : Nat} {r : Int32} {h : am_H} {Q : Option am_V → am_H → Prop} (h1 : r < 0 ∨ (¬ r < 0 ∧ nI 8 ≤ r)) (hQ : Q (some (.inl 0)) h) : am_PC (d + 1) mi_X_isRank [.inl r] h Q :=
  bk_X_isRank ⟨fun _ => ⟨Or.inl rfl, hQ⟩, fun q => ⟨fun _ => ⟨Or.inl rfl, hQ⟩, fun q2 => by rcases h1 with z | z; exact absurd z q; exact absurd z.2 q2⟩⟩
theorem sp_isAddress_t {d : Nat} {r : Int32} {h : am_H} {Q : Option am_V → am_H → Prop} (h1 : ¬ r < 1) (h2 : ¬ nI 1000 < r) (hQ : Q (some (.inl 1)) h) : am_PC (d + 1) mi_X_isAddress [.inl r] h Q :=
  bk_X_isAddress ⟨fun q => absurd q h1, fun _ => ⟨fun q => absurd q h2, fun _ => ⟨Or.inr rfl, hQ⟩⟩⟩
theorem sp_isAddress_f {d : Nat} {r : Int32} {h : am_H} {Q : Option am_V → am_H → Prop} (h1 : r < 1 ∨ (¬ r < 1 ∧ nI 1000 < r)) (hQ : Q (some (.inl 0)) h) : am_PC (d + 1) mi_X_isAddress [.inl r] h Q :=
  bk_X_isAddress ⟨fun _ => ⟨Or.inl rfl, hQ⟩, fun q => ⟨fun _ => ⟨Or.inl rfl, hQ⟩, fun q2 => by rcases h1 with z | z; exact absurd z q; exact absurd z.2 q2⟩⟩
theorem sp_isService_t {d : Nat} {r : Int32} {h : am_H} {Q : Option am_V → am_H → Prop} (h1 : ¬ r < 1) (h2 : ¬ nI 100 < r) (hQ : Q (some (.inl 1)) h) : am_PC (d + 1) mi_X_isService [.inl r] h Q :=
  bk_X_isService ⟨fun q => absurd q h1, fun _ => ⟨fun q => absurd q h2, fun _ => ⟨Or.inr rfl, hQ⟩⟩⟩
theorem sp_isService_f {d : Nat} {r : Int32} {h : am_H} {Q : Option am_V → am_H → Prop} (h1 : r < 1 ∨ (¬ r < 1 ∧ nI 100 < r)) (hQ : Q (some (.inl 0)) h) : am_PC (d + 1) mi_X_isService [.inl r] h Q :=
  bk_X_isService ⟨fun _ => ⟨Or.inl rfl, hQ⟩, fun q => ⟨fun _ => ⟨Or.inl rfl, hQ⟩, fun q2 => by rcases h1 with z | z; exact absurd z q; exact absurd z.2 q2⟩⟩
theorem sp_findPort_f {d : Nat} {x n : Nat} {p : Int32} {h : am_H} {Q : Option am_V → am_H → Prop} (hS : SX h x n) (h1 : p < 1 ∨ (¬ p < 1 ∧ nI n < p)) (hQ : Q (some (.inr (.inr 0))) h) : am_PC (d + 1) mi_X_findPort [.inr (.inr x), .inl p] h Q := by
  obtain ⟨hn, hT, ⟨hR, hT1, hN, hA⟩, -⟩ := hS
  refine bk_X_findPort ⟨fun _ => hQ, fun q => ⟨hT, ?_⟩⟩
  rw [hR, hT1, hN]
  exact ⟨by omega, fun _ => hQ, fun q2 => by rcases h1 with z | z; exact absurd z q; exact absurd z.2 q2⟩
theorem sp_findPort_t {d : Nat} {x n i : Nat} {p : Int32} {h : am_H} {Q : Option am_V → am_H → Prop} (hS : SX h x n) (hi : i < n) (hp : p = nI (i + 1)) (h1 : ¬ p < 1) (h2 : ¬ nI n < p) (hQ : Q (some (.inr (.inr (px x i)))) h) : am_PC (d + 1) mi_X_findPort [.inr (.inr x), .inl p] h Q := by
  obtain ⟨hn, hT, ⟨hR, hT1, hN, hA⟩, -⟩ := hS
  refine bk_X_findPort ⟨fun q => absurd q h1, fun q => ⟨hT, ?_⟩⟩
  rw [hR, hT1, hN]
  have e : p - 1 = nI i := by rw [hp]; exact nI_pred i
  refine ⟨by omega, fun q => absurd q h2, fun _ => ⟨hT, by omega, ?_⟩⟩
  rw [e, nI_clamp (by omega), hA i hi]
  exact ⟨vp_in_nI hi (by omega), hQ⟩
end
section
/-! NUMBERS: the machine's ints and longs as whole numbers -/
def jJ (z : Int) : Int64 := Int64.ofInt z
def iI (z : Int) : Int32 := Int32.ofInt z
theorem jJ_add (a b : Int) : jJ a + jJ b = jJ (a + b) := (Int64.ofInt_add a b).symm
theorem jJ_sub (a b : Int) : jJ a - jJ b = jJ (a - b) := (Int64.ofInt_sub a b).symm
theorem jJ_mul (a b : Int) : jJ a * jJ b = jJ (a * b) := (Int64.ofInt_mul a b).symm
theorem jJ_neg (a : Int) : -jJ a = jJ (-a) := (Int64.ofInt_neg a).symm
theorem iI_add (a b : Int) : iI a + iI b = iI (a + b) := (Int32.ofInt_add a b).symm
theorem iI_sub (a b : Int) : iI a - iI b = iI (a - b) := (Int32.ofInt_sub a b).symm
theorem iI_mul (a b : Int) : iI a * iI b = iI (a * b) := (Int32.ofInt_mul a b).symm
theorem jJ_toInt {a : Int} (h1 : -9223372036854775808 ≤ a) (h2 : a < 9223372036854775808) : (jJ a).toInt = a := Int64.toInt_ofInt_of_le h1 h2
theorem iI_toInt {a : Int} (h1 : -2147483648 ≤ a) (h2 : a < 2147483648) : (iI a).toInt = a := Int32.toInt_ofInt_of_le h1 h2
/-- a long's whole number lies in the longs' range; an int's likewise -/
def rJ (a : Int) : Prop := -9223372036854775808 ≤ a ∧ a < 9223372036854775808
def rI (a : Int) : Prop := -2147483648 ≤ a ∧ a < 2147483648
theorem jJ_lt {a b : Int} (ha : rJ a) (hb : rJ b) : jJ a < jJ b ↔ a < b := by
  rw [Int64.lt_iff_toInt_lt, jJ_toInt ha.1 ha.2, jJ_toInt hb.1 hb.2]
theorem jJ_le {a b : Int} (ha : rJ a) (hb : rJ b) : jJ a ≤ jJ b ↔ a ≤ b := by
  rw [Int64.le_iff_toInt_le, jJ_toInt ha.1 ha.2, jJ_toInt hb.1 hb.2]
theorem jJ_eq {a b : Int} (ha : rJ a) (hb : rJ b) : jJ a = jJ b ↔ a = b := by
  rw [← Int64.toInt_inj, jJ_toInt ha.1 ha.2, jJ_toInt hb.1 hb.2]
theorem iI_lt {a b : Int} (ha : rI a) (hb : rI b) : iI a < iI b ↔ a < b := by
  rw [Int32.lt_iff_toInt_lt, iI_toInt ha.1 ha.2, iI_toInt hb.1 hb.2]
theorem iI_le {a b : Int} (ha : rI a) (hb : rI b) : iI a ≤ iI b ↔ a ≤ b := by
  rw [Int32.le_iff_toInt_le, iI_toInt ha.1 ha.2, iI_toInt hb.1 hb.2]
theorem iI_eq {a b : Int} (ha : rI a) (hb : rI b) : iI a = iI b ↔ a = b := by
  rw [← Int32.toInt_inj, iI_toInt ha.1 ha.2, iI_toInt hb.1 hb.2]
theorem jJ_self (x : Int64) : jJ x.toInt = x := Int64.ofInt_toInt x
theorem iI_self (x : Int32) : iI x.toInt = x := Int32.ofInt_toInt x
theorem rJ_self (x : Int64) : rJ x.toInt := ⟨Int64.le_toInt x, Int64.toInt_lt x⟩
theorem rI_self (x : Int32) : rI x.toInt := ⟨Int32.le_toInt x, Int32.toInt_lt x⟩
theorem jJ_nat (n : Nat) : jJ n = lN n := by rw [jJ, lN, Int64.ofInt_eq_ofNat]
theorem iI_nat (n : Nat) : iI n = nI n := by rw [iI, nI, Int32.ofInt_eq_ofNat]
theorem jJ_div {a b : Int} (ha : 0 ≤ a) (hb : 0 < b) (ha2 : rJ a) (hb2 : rJ b) : jJ a / jJ b = jJ (a / b) := by
  obtain ⟨n, rfl⟩ := Int.eq_ofNat_of_zero_le ha
  obtain ⟨m, rfl⟩ := Int.eq_ofNat_of_zero_le (Int.le_of_lt hb)
  unfold rJ at ha2 hb2
  rw [jJ_nat, jJ_nat, pk_lDiv (by omega) (by omega) (by omega), ← Int.natCast_ediv, jJ_nat]
theorem jJ_mod {a b : Int} (ha : 0 ≤ a) (hb : 0 < b) (ha2 : rJ a) (hb2 : rJ b) : jJ a - jJ a / jJ b * jJ b = jJ (a % b) := by
  rw [jJ_div ha hb ha2 hb2, jJ_mul, jJ_sub]
  congr 1
  have := Int.mul_ediv_add_emod a b
  rw [Int.mul_comm] at this
  omega
theorem iI_div {a b : Int} (ha : 0 ≤ a) (hb : 0 < b) (ha2 : rI a) (hb2 : rI b) : iI a / iI b = iI (a / b) := by
  obtain ⟨n, rfl⟩ := Int.eq_ofNat_of_zero_le ha
  obtain ⟨m, rfl⟩ := Int.eq_ofNat_of_zero_le (Int.le_of_lt hb)
  unfold rI at ha2 hb2
  rw [iI_nat, iI_nat, pk_div (by omega) (by omega) (by omega), ← Int.natCast_ediv, iI_nat]
theorem iI_mod {a b : Int} (ha : 0 ≤ a) (hb : 0 < b) (ha2 : rI a) (hb2 : rI b) : iI a - iI a / iI b * iI b = iI (a % b) := by
  rw [iI_div ha hb ha2 hb2, iI_mul, iI_sub]
  congr 1
  have := Int.mul_ediv_add_emod a b
  rw [Int.mul_comm] at this
  omega
theorem iI_l {a : Int} (h : rI a) : (iI a).toInt64 = jJ a := by
  rw [← jJ_self (iI a).toInt64]
  congr 1
  rw [Int32.toInt_toInt64, iI_toInt h.1 h.2]
theorem jJ_i {a : Int} (h : rI a) : (jJ a).toInt32 = iI a := by
  rw [← iI_l h, Int32.toInt32_toInt64]
theorem iI_clamp {a : Int} (h0 : 0 ≤ a) (h : rI a) : (iI a).toNatClampNeg = a.toNat := by
  obtain ⟨n, rfl⟩ := Int.eq_ofNat_of_zero_le h0
  unfold rI at h
  rw [iI_nat, nI_clamp (by omega)]
  rfl
theorem iI_in {a : Int} {n : Nat} (h0 : 0 ≤ a) (h1 : a < n) (hn : n < 2 ^ 31) : vp_in (iI a) n := by
  obtain ⟨k, rfl⟩ := Int.eq_ofNat_of_zero_le h0
  rw [iI_nat]
  exact vp_in_nI (by omega) hn
/-- comparisons of longs, through lcmp -/
theorem cmp_lt {a b : Int} (ha : rJ a) (hb : rJ b) : lg_cmp (jJ a) (jJ b) < 0 ↔ a < b := by
  unfold lg_cmp
  simp only [GT.gt, jJ_lt hb ha, jJ_eq ha hb]
  by_cases h1 : b < a
  · simp only [if_pos h1]; constructor
    · intro h; exact absurd h (by decide)
    · intro h; omega
  · by_cases h2 : a = b
    · simp only [if_neg h1, if_pos h2]; constructor
      · intro h; exact absurd h (by decide)
      · intro h; omega
    · simp only [if_neg h1, if_neg h2]; constructor
      · intro _; omega
      · intro _; decide
theorem cmp_gt {a b : Int} (ha : rJ a) (hb : rJ b) : 0 < lg_cmp (jJ a) (jJ b) ↔ b < a := by
  unfold lg_cmp
  simp only [GT.gt, jJ_lt hb ha, jJ_eq ha hb]
  by_cases h1 : b < a
  · simp only [if_pos h1]; constructor
    · intro _; exact h1
    · intro _; decide
  · by_cases h2 : a = b
    · simp only [if_neg h1, if_pos h2]; constructor
      · intro h; exact absurd h (by decide)
      · intro h; omega
    · simp only [if_neg h1, if_neg h2]; constructor
      · intro h; exact absurd h (by decide)
      · intro h; omega
theorem cmp_le {a b : Int} (ha : rJ a) (hb : rJ b) : lg_cmp (jJ a) (jJ b) ≤ 0 ↔ a ≤ b := by
  rw [← Int32.not_lt, cmp_gt ha hb]; omega
theorem cmp_ge {a b : Int} (ha : rJ a) (hb : rJ b) : 0 ≤ lg_cmp (jJ a) (jJ b) ↔ b ≤ a := by
  rw [← Int32.not_lt, cmp_lt ha hb]; omega
theorem cmp_eq {a b : Int} (ha : rJ a) (hb : rJ b) : lg_cmp (jJ a) (jJ b) = 0 ↔ a = b := by
  unfold lg_cmp
  simp only [GT.gt, jJ_lt hb ha, jJ_eq ha hb]
  by_cases h1 : b < a
  · simp only [if_pos h1]; constructor
    · intro h; exact absurd h (by decide)
    · intro h; omega
  · by_cases h2 : a = b
    · simp only [if_neg h1, if_pos h2]; exact ⟨fun _ => h2, fun _ => trivial⟩
    · simp only [if_neg h1, if_neg h2]; constructor
      · intro h; exact absurd h (by decide)
      · intro h; exact absurd h h2
end
section
/-! THE STATE, as whole numbers: sg k j. k = 0: j 0 the time, 1 the cycle, 2 the frames, 3 all that left, 4 those told. k from 1 on: the reference's arrays, in the order in which it makes them: 1 speed, 2 offset, 3 sends, 4 sentRank, 5 began, 6 ends, 7 size, 8 queue, 9 windows, 10 from, 11 to, 12 up, 13 down, 14 credit, 15 length, 16 place, 17 since, 18 rate, 19 thousand, 20 taken, 21 offered, 22 until, 23 left, 24 dropped -/
abbrev sg : Type := Nat → Nat → Int
/-- equal on the cells of S -/
def eqon (S : Nat → Prop) (h h' : am_H) : Prop := ∀ a, S a → am_T h' a = am_T h a ∧ am_N h' a = am_N h a ∧ (∀ f, am_I h' f a = am_I h f a) ∧ (∀ f, am_J h' f a = am_J h f a) ∧ (∀ f, am_R h' f a = am_R h f a) ∧ (∀ j, am_aI h' a j = am_aI h a j) ∧ (∀ j, am_aJ h' a j = am_aJ h a j) ∧ (∀ j, am_aR h' a j = am_aR h a j)
theorem eqon_rf (S : Nat → Prop) (h : am_H) : eqon S h h := fun _ _ => ⟨rfl, rfl, fun _ => rfl, fun _ => rfl, fun _ => rfl, fun _ => rfl, fun _ => rfl, fun _ => rfl⟩
theorem eqon_tr {S : Nat → Prop} {h1 h2 h3 : am_H} (a : eqon S h1 h2) (b : eqon S h2 h3) : eqon S h1 h3 := fun q hq => by
  obtain ⟨a1, a2, a3, a4, a5, a6, a7, a8⟩ := a q hq
  obtain ⟨b1, b2, b3, b4, b5, b6, b7, b8⟩ := b q hq
  exact ⟨b1.trans a1, b2.trans a2, fun f => (b3 f).trans (a3 f), fun f => (b4 f).trans (a4 f), fun f => (b5 f).trans (a5 f), fun f => (b6 f).trans (a6 f), fun f => (b7 f).trans (a7 f), fun f => (b8 f).trans (a8 f)⟩
theorem eqon_mono {S S' : Nat → Prop} {h h' : am_H} (hs : ∀ a, S' a → S a) (a : eqon S h h') : eqon S' h h' := fun q hq => a q (hs q hq)
theorem eqon_sI {S : Nat → Prop} {h : am_H} {f a : Nat} {v : Int32} (ha : ¬ S a) : eqon S h (am_sI h f a v) := fun q hq => ⟨rfl, rfl, fun g => by rw [hp_I_sI, if_neg]; rintro ⟨-, rfl⟩; exact ha hq, fun _ => rfl, fun _ => rfl, fun _ => rfl, fun _ => rfl, fun _ => rfl⟩
theorem eqon_sJ {S : Nat → Prop} {h : am_H} {f a : Nat} {v : Int64} (ha : ¬ S a) : eqon S h (am_sJ h f a v) := fun q hq => ⟨rfl, rfl, fun _ => rfl, fun g => by rw [hp_J_sJ, if_neg]; rintro ⟨-, rfl⟩; exact ha hq, fun _ => rfl, fun _ => rfl, fun _ => rfl, fun _ => rfl⟩
theorem eqon_sR {S : Nat → Prop} {h : am_H} {f a v : Nat} (ha : ¬ S a) : eqon S h (am_sR h f a v) := fun q hq => ⟨rfl, rfl, fun _ => rfl, fun _ => rfl, fun g => by rw [hp_R_sR, if_neg]; rintro ⟨-, rfl⟩; exact ha hq, fun _ => rfl, fun _ => rfl, fun _ => rfl⟩
theorem eqon_xI {S : Nat → Prop} {h : am_H} {a j : Nat} {v : Int32} (ha : ¬ S a) : eqon S h (am_xI h a j v) := fun q hq => ⟨rfl, rfl, fun _ => rfl, fun _ => rfl, fun _ => rfl, fun g => by rw [hp_aI_xI, if_neg]; rintro ⟨rfl, -⟩; exact ha hq, fun _ => rfl, fun _ => rfl⟩
theorem eqon_xJ {S : Nat → Prop} {h : am_H} {a j : Nat} {v : Int64} (ha : ¬ S a) : eqon S h (am_xJ h a j v) := fun q hq => ⟨rfl, rfl, fun _ => rfl, fun _ => rfl, fun _ => rfl, fun _ => rfl, fun g => by rw [hp_aJ_xJ, if_neg]; rintro ⟨rfl, -⟩; exact ha hq, fun _ => rfl⟩
theorem eqon_xR {S : Nat → Prop} {h : am_H} {a j v : Nat} (ha : ¬ S a) : eqon S h (am_xR h a j v) := fun q hq => ⟨rfl, rfl, fun _ => rfl, fun _ => rfl, fun _ => rfl, fun _ => rfl, fun _ => rfl, fun g => by rw [hp_aR_xR, if_neg]; rintro ⟨rfl, -⟩; exact ha hq⟩
theorem eqon_nO {S : Nat → Prop} {h : am_H} {c n : Nat} (ha : ¬ S (am_Z h + 1)) : eqon S h (am_nO h c n) := fun q hq => by
  have hne : ¬ q = am_Z h + 1 := fun z => ha (z ▸ hq)
  exact ⟨by rw [hp_T_nO, if_neg hne], rfl, fun g => by rw [hp_I_nO, if_neg hne], fun g => by rw [hp_J_nO, if_neg hne], fun g => by rw [hp_R_nO, if_neg hne], fun _ => rfl, fun _ => rfl, fun _ => rfl⟩
theorem eqon_nA {S : Nat → Prop} {h : am_H} {c n : Nat} (ha : ¬ S (am_Z h + 1)) : eqon S h (am_nA h c n) := fun q hq => by
  have hne : ¬ q = am_Z h + 1 := fun z => ha (z ▸ hq)
  exact ⟨by rw [hp_T_nA, if_neg hne], by rw [hp_N_nA, if_neg hne], fun _ => rfl, fun _ => rfl, fun _ => rfl, fun g => by rw [hp_aI_nA, if_neg hne], fun g => by rw [hp_aJ_nA, if_neg hne], fun g => by rw [hp_aR_nA, if_neg hne]⟩
/-! THE REFERENCE: its object m, its arrays behind it -/
def fM (k : Nat) : Nat := if k ≤ 14 then 227 + k else if k ≤ 22 then 228 + k else 230 + k
def tM (k : Nat) : Nat := [0, 2, 2, 1, 1, 2, 2, 1, 1, 1, 2, 2, 2, 2, 2, 1, 1, 2, 2, 2, 1, 1, 2, 1, 1].getD k 0
def nM (k : Nat) : Nat := [0, 17, 17, 17, 17, 17, 17, 136, 2176, 136, 1088, 1088, 136, 136, 136, 5001, 1001, 1001, 8008, 8008, 8008, 101, 101, 20000, 4].getD k 0
def RM (h : am_H) (m n : Nat) (σ : sg) : Prop := (1 ≤ n ∧ n ≤ 16) ∧ am_T h m = 17 ∧ am_I h 225 m = nI n ∧ (∀ k, 1 ≤ k → k ≤ 24 → am_R h (fM k) m = m + k ∧ am_T h (m + k) = tM k ∧ am_N h (m + k) = nM k ∧ (tM k = 1 → ∀ j, am_aI h (m + k) j = iI (σ k j)) ∧ (tM k = 2 → ∀ j, am_aJ h (m + k) j = jJ (σ k j))) ∧
  am_J h 227 m = jJ (σ 0 0) ∧ am_J h 226 m = jJ (σ 0 1) ∧ am_I h 242 m = iI (σ 0 2) ∧ am_I h 251 m = iI (σ 0 3) ∧ am_I h 252 m = iI (σ 0 4)
/-- its cells -/
def CM (m : Nat) (a : Nat) : Prop := m ≤ a ∧ a ≤ m + 24
theorem RM_eqon {h h' : am_H} {m n : Nat} {σ : sg} (hM : RM h m n σ) (he : eqon (CM m) h h') : RM h' m n σ := by
  obtain ⟨hn, hT, hP, hA, s1, s2, s3, s4, s5⟩ := hM
  obtain ⟨e1, e2, e3, e4, e5, e6, e7, e8⟩ := he m ⟨Nat.le_refl _, by omega⟩
  refine ⟨hn, by rw [e1]; exact hT, by rw [e3]; exact hP, fun k k1 k2 => ?_, by rw [e4]; exact s1, by rw [e4]; exact s2, by rw [e3]; exact s3, by rw [e3]; exact s4, by rw [e3]; exact s5⟩
  obtain ⟨a1, a2, a3, a4, a5⟩ := hA k k1 k2
  obtain ⟨g1, g2, g3, g4, g5, g6, g7, g8⟩ := he (m + k) ⟨by omega, by omega⟩
  exact ⟨by rw [e5]; exact a1, by rw [g1]; exact a2, by rw [g2]; exact a3, fun t j => by rw [g6]; exact a4 t j, fun t j => by rw [g7]; exact a5 t j⟩
/-- a place of one of its arrays is written -/
theorem RM_xI {h : am_H} {m n k j : Nat} {σ : sg} {v : Int} (hM : RM h m n σ) (hk : 1 ≤ k ∧ k ≤ 24) (ht : tM k = 1) : RM (am_xI h (m + k) j (iI v)) m n (am_u2 σ k j v) := by
  obtain ⟨hn, hT, hP, hA, s1, s2, s3, s4, s5⟩ := hM
  have hz : ∀ j', am_u2 σ k j v 0 j' = σ 0 j' := fun j' => by rw [am_u2, if_neg (fun q => by omega)]
  refine ⟨hn, hT, hP, fun k' k1 k2 => ?_, by rw [hz]; exact s1, by rw [hz]; exact s2, by rw [hz]; exact s3, by rw [hz]; exact s4, by rw [hz]; exact s5⟩
  obtain ⟨a1, a2, a3, a4, a5⟩ := hA k' k1 k2
  refine ⟨a1, a2, a3, fun t j' => ?_, fun t j' => ?_⟩
  · rw [hp_aI_xI, am_u2]
    by_cases hq : k' = k ∧ j' = j
    · rw [if_pos hq, if_pos ⟨by omega, hq.2⟩]
    · rw [if_neg hq, if_neg (fun z => hq ⟨by omega, z.2⟩)]
      exact a4 t j'
  · rw [hp_aJ_xI, am_u2, if_neg (fun q => by rw [q.1, ht] at t; cases t)]
    exact a5 t j'
theorem RM_xJ {h : am_H} {m n k j : Nat} {σ : sg} {v : Int} (hM : RM h m n σ) (hk : 1 ≤ k ∧ k ≤ 24) (ht : tM k = 2) : RM (am_xJ h (m + k) j (jJ v)) m n (am_u2 σ k j v) := by
  obtain ⟨hn, hT, hP, hA, s1, s2, s3, s4, s5⟩ := hM
  have hz : ∀ j', am_u2 σ k j v 0 j' = σ 0 j' := fun j' => by rw [am_u2, if_neg (fun q => by omega)]
  refine ⟨hn, hT, hP, fun k' k1 k2 => ?_, by rw [hz]; exact s1, by rw [hz]; exact s2, by rw [hz]; exact s3, by rw [hz]; exact s4, by rw [hz]; exact s5⟩
  obtain ⟨a1, a2, a3, a4, a5⟩ := hA k' k1 k2
  refine ⟨a1, a2, a3, fun t j' => ?_, fun t j' => ?_⟩
  · rw [hp_aI_xJ, am_u2, if_neg (fun q => by rw [q.1, ht] at t; cases t)]
    exact a4 t j'
  · rw [hp_aJ_xJ, am_u2]
    by_cases hq : k' = k ∧ j' = j
    · rw [if_pos hq, if_pos ⟨by omega, hq.2⟩]
    · rw [if_neg hq, if_neg (fun z => hq ⟨by omega, z.2⟩)]
      exact a5 t j'
theorem RM_u0 {σ : sg} {j : Nat} {v : Int} {k : Nat} (hk : 1 ≤ k) (j' : Nat) : am_u2 σ 0 j v k j' = σ k j' := by rw [am_u2, if_neg (fun q => by omega)]
theorem RM_code {h : am_H} {m n : Nat} {σ : sg} {v : Int32} (hM : RM h m n σ) : RM (am_sI h 224 m v) m n σ := by
  obtain ⟨hn, hT, hP, hA, s1, s2, s3, s4, s5⟩ := hM
  exact ⟨hn, hT, hP, hA, s1, s2, s3, s4, s5⟩
theorem RM_now {h : am_H} {m n : Nat} {σ : sg} {v : Int} (hM : RM h m n σ) : RM (am_sJ h 227 m (jJ v)) m n (am_u2 σ 0 0 v) := by
  obtain ⟨hn, hT, hP, hA, s1, s2, s3, s4, s5⟩ := hM
  exact ⟨hn, hT, hP, fun k k1 k2 => by simp only [RM_u0 k1]; exact hA k k1 k2, by simp [hp_J_sJ, am_u2], s2, s3, s4, s5⟩
theorem RM_cyc {h : am_H} {m n : Nat} {σ : sg} {v : Int} (hM : RM h m n σ) : RM (am_sJ h 226 m (jJ v)) m n (am_u2 σ 0 1 v) := by
  obtain ⟨hn, hT, hP, hA, s1, s2, s3, s4, s5⟩ := hM
  exact ⟨hn, hT, hP, fun k k1 k2 => by simp only [RM_u0 k1]; exact hA k k1 k2, s1, by simp [hp_J_sJ, am_u2], s3, s4, s5⟩
theorem RM_frames {h : am_H} {m n : Nat} {σ : sg} {v : Int} (hM : RM h m n σ) : RM (am_sI h 242 m (iI v)) m n (am_u2 σ 0 2 v) := by
  obtain ⟨hn, hT, hP, hA, s1, s2, s3, s4, s5⟩ := hM
  exact ⟨hn, hT, hP, fun k k1 k2 => by simp only [RM_u0 k1]; exact hA k k1 k2, s1, s2, by simp [hp_I_sI, am_u2], s4, s5⟩
theorem RM_all {h : am_H} {m n : Nat} {σ : sg} {v : Int} (hM : RM h m n σ) : RM (am_sI h 251 m (iI v)) m n (am_u2 σ 0 3 v) := by
  obtain ⟨hn, hT, hP, hA, s1, s2, s3, s4, s5⟩ := hM
  exact ⟨hn, hT, hP, fun k k1 k2 => by simp only [RM_u0 k1]; exact hA k k1 k2, s1, s2, s3, by simp [hp_I_sI, am_u2], s5⟩
theorem RM_kept {h : am_H} {m n : Nat} {σ : sg} {v : Int} (hM : RM h m n σ) : RM (am_sI h 252 m (iI v)) m n (am_u2 σ 0 4 v) := by
  obtain ⟨hn, hT, hP, hA, s1, s2, s3, s4, s5⟩ := hM
  exact ⟨hn, hT, hP, fun k k1 k2 => by simp only [RM_u0 k1]; exact hA k k1 k2, s1, s2, s3, s4, by simp [hp_I_sI, am_u2]⟩
theorem RM_T {h : am_H} {m n : Nat} {σ : sg} (hM : RM h m n σ) : am_T h m = 17 := hM.2.1
theorem RM_n {h : am_H} {m n : Nat} {σ : sg} (hM : RM h m n σ) : am_I h 225 m = nI n := hM.2.2.1
theorem RM_J227 {h : am_H} {m n : Nat} {σ : sg} (hM : RM h m n σ) : am_J h 227 m = jJ (σ 0 0) := hM.2.2.2.2.1
theorem RM_J226 {h : am_H} {m n : Nat} {σ : sg} (hM : RM h m n σ) : am_J h 226 m = jJ (σ 0 1) := hM.2.2.2.2.2.1
theorem RM_I242 {h : am_H} {m n : Nat} {σ : sg} (hM : RM h m n σ) : am_I h 242 m = iI (σ 0 2) := hM.2.2.2.2.2.2.1
theorem RM_I251 {h : am_H} {m n : Nat} {σ : sg} (hM : RM h m n σ) : am_I h 251 m = iI (σ 0 3) := hM.2.2.2.2.2.2.2.1
theorem RM_I252 {h : am_H} {m n : Nat} {σ : sg} (hM : RM h m n σ) : am_I h 252 m = iI (σ 0 4) := hM.2.2.2.2.2.2.2.2
theorem RM_R228 {h : am_H} {m n : Nat} {σ : sg} (hM : RM h m n σ) : am_R h 228 m = m + 1 := (hM.2.2.2.1 1 (by decide) (by decide)).1
theorem RM_T1 {h : am_H} {m n : Nat} {σ : sg} (hM : RM h m n σ) : am_T h (m + 1) = 2 := (hM.2.2.2.1 1 (by decide) (by decide)).2.1
theorem RM_N1 {h : am_H} {m n : Nat} {σ : sg} (hM : RM h m n σ) : am_N h (m + 1) = 17 := (hM.2.2.2.1 1 (by decide) (by decide)).2.2.1
theorem RM_a1 {h : am_H} {m n : Nat} {σ : sg} (hM : RM h m n σ) (j : Nat) : am_aJ h (m + 1) j = jJ (σ 1 j) := (hM.2.2.2.1 1 (by decide) (by decide)).2.2.2.2 rfl j
theorem RM_R229 {h : am_H} {m n : Nat} {σ : sg} (hM : RM h m n σ) : am_R h 229 m = m + 2 := (hM.2.2.2.1 2 (by decide) (by decide)).1
theorem RM_T2 {h : am_H} {m n : Nat} {σ : sg} (hM : RM h m n σ) : am_T h (m + 2) = 2 := (hM.2.2.2.1 2 (by decide) (by decide)).2.1
theorem RM_N2 {h : am_H} {m n : Nat} {σ : sg} (hM : RM h m n σ) : am_N h (m + 2) = 17 := (hM.2.2.2.1 2 (by decide) (by decide)).2.2.1
theorem RM_a2 {h : am_H} {m n : Nat} {σ : sg} (hM : RM h m n σ) (j : Nat) : am_aJ h (m + 2) j = jJ (σ 2 j) := (hM.2.2.2.1 2 (by decide) (by decide)).2.2.2.2 rfl j
theorem RM_R230 {h : am_H} {m n : Nat} {σ : sg} (hM : RM h m n σ) : am_R h 230 m = m + 3 := (hM.2.2.2.1 3 (by decide) (by decide)).1
theorem RM_T3 {h : am_H} {m n : Nat} {σ : sg} (hM : RM h m n σ) : am_T h (m + 3) = 1 := (hM.2.2.2.1 3 (by decide) (by decide)).2.1
theorem RM_N3 {h : am_H} {m n : Nat} {σ : sg} (hM : RM h m n σ) : am_N h (m + 3) = 17 := (hM.2.2.2.1 3 (by decide) (by decide)).2.2.1
theorem RM_a3 {h : am_H} {m n : Nat} {σ : sg} (hM : RM h m n σ) (j : Nat) : am_aI h (m + 3) j = iI (σ 3 j) := (hM.2.2.2.1 3 (by decide) (by decide)).2.2.2.1 rfl j
theorem RM_R231 {h : am_H} {m n : Nat} {σ : sg} (hM : RM h m n σ) : am_R h 231 m = m + 4 := (hM.2.2.2.1 4 (by decide) (by decide)).1
theorem RM_T4 {h : am_H} {m n : Nat} {σ : sg} (hM : RM h m n σ) : am_T h (m + 4) = 1 := (hM.2.2.2.1 4 (by decide) (by decide)).2.1
theorem RM_N4 {h : am_H} {m n : Nat} {σ : sg} (hM : RM h m n σ) : am_N h (m + 4) = 17 := (hM.2.2.2.1 4 (by decide) (by decide)).2.2.1
theorem RM_a4 {h : am_H} {m n : Nat} {σ : sg} (hM : RM h m n σ) (j : Nat) : am_aI h (m + 4) j = iI (σ 4 j) := (hM.2.2.2.1 4 (by decide) (by decide)).2.2.2.1 rfl j
theorem RM_R232 {h : am_H} {m n : Nat} {σ : sg} (hM : RM h m n σ) : am_R h 232 m = m + 5 := (hM.2.2.2.1 5 (by decide) (by decide)).1
theorem RM_T5 {h : am_H} {m n : Nat} {σ : sg} (hM : RM h m n σ) : am_T h (m + 5) = 2 := (hM.2.2.2.1 5 (by decide) (by decide)).2.1
theorem RM_N5 {h : am_H} {m n : Nat} {σ : sg} (hM : RM h m n σ) : am_N h (m + 5) = 17 := (hM.2.2.2.1 5 (by decide) (by decide)).2.2.1
theorem RM_a5 {h : am_H} {m n : Nat} {σ : sg} (hM : RM h m n σ) (j : Nat) : am_aJ h (m + 5) j = jJ (σ 5 j) := (hM.2.2.2.1 5 (by decide) (by decide)).2.2.2.2 rfl j
theorem RM_R233 {h : am_H} {m n : Nat} {σ : sg} (hM : RM h m n σ) : am_R h 233 m = m + 6 := (hM.2.2.2.1 6 (by decide) (by decide)).1
theorem RM_T6 {h : am_H} {m n : Nat} {σ : sg} (hM : RM h m n σ) : am_T h (m + 6) = 2 := (hM.2.2.2.1 6 (by decide) (by decide)).2.1
theorem RM_N6 {h : am_H} {m n : Nat} {σ : sg} (hM : RM h m n σ) : am_N h (m + 6) = 17 := (hM.2.2.2.1 6 (by decide) (by decide)).2.2.1
theorem RM_a6 {h : am_H} {m n : Nat} {σ : sg} (hM : RM h m n σ) (j : Nat) : am_aJ h (m + 6) j = jJ (σ 6 j) := (hM.2.2.2.1 6 (by decide) (by decide)).2.2.2.2 rfl j
theorem RM_R234 {h : am_H} {m n : Nat} {σ : sg} (hM : RM h m n σ) : am_R h 234 m = m + 7 := (hM.2.2.2.1 7 (by decide) (by decide)).1
theorem RM_T7 {h : am_H} {m n : Nat} {σ : sg} (hM : RM h m n σ) : am_T h (m + 7) = 1 := (hM.2.2.2.1 7 (by decide) (by decide)).2.1
theorem RM_N7 {h : am_H} {m n : Nat} {σ : sg} (hM : RM h m n σ) : am_N h (m + 7) = 136 := (hM.2.2.2.1 7 (by decide) (by decide)).2.2.1
theorem RM_a7 {h : am_H} {m n : Nat} {σ : sg} (hM : RM h m n σ) (j : Nat) : am_aI h (m + 7) j = iI (σ 7 j) := (hM.2.2.2.1 7 (by decide) (by decide)).2.2.2.1 rfl j
theorem RM_R235 {h : am_H} {m n : Nat} {σ : sg} (hM : RM h m n σ) : am_R h 235 m = m + 8 := (hM.2.2.2.1 8 (by decide) (by decide)).1
theorem RM_T8 {h : am_H} {m n : Nat} {σ : sg} (hM : RM h m n σ) : am_T h (m + 8) = 1 := (hM.2.2.2.1 8 (by decide) (by decide)).2.1
theorem RM_N8 {h : am_H} {m n : Nat} {σ : sg} (hM : RM h m n σ) : am_N h (m + 8) = 2176 := (hM.2.2.2.1 8 (by decide) (by decide)).2.2.1
theorem RM_a8 {h : am_H} {m n : Nat} {σ : sg} (hM : RM h m n σ) (j : Nat) : am_aI h (m + 8) j = iI (σ 8 j) := (hM.2.2.2.1 8 (by decide) (by decide)).2.2.2.1 rfl j
theorem RM_R236 {h : am_H} {m n : Nat} {σ : sg} (hM : RM h m n σ) : am_R h 236 m = m + 9 := (hM.2.2.2.1 9 (by decide) (by decide)).1
theorem RM_T9 {h : am_H} {m n : Nat} {σ : sg} (hM : RM h m n σ) : am_T h (m + 9) = 1 := (hM.2.2.2.1 9 (by decide) (by decide)).2.1
theorem RM_N9 {h : am_H} {m n : Nat} {σ : sg} (hM : RM h m n σ) : am_N h (m + 9) = 136 := (hM.2.2.2.1 9 (by decide) (by decide)).2.2.1
theorem RM_a9 {h : am_H} {m n : Nat} {σ : sg} (hM : RM h m n σ) (j : Nat) : am_aI h (m + 9) j = iI (σ 9 j) := (hM.2.2.2.1 9 (by decide) (by decide)).2.2.2.1 rfl j
theorem RM_R237 {h : am_H} {m n : Nat} {σ : sg} (hM : RM h m n σ) : am_R h 237 m = m + 10 := (hM.2.2.2.1 10 (by decide) (by decide)).1
theorem RM_T10 {h : am_H} {m n : Nat} {σ : sg} (hM : RM h m n σ) : am_T h (m + 10) = 2 := (hM.2.2.2.1 10 (by decide) (by decide)).2.1
theorem RM_N10 {h : am_H} {m n : Nat} {σ : sg} (hM : RM h m n σ) : am_N h (m + 10) = 1088 := (hM.2.2.2.1 10 (by decide) (by decide)).2.2.1
theorem RM_a10 {h : am_H} {m n : Nat} {σ : sg} (hM : RM h m n σ) (j : Nat) : am_aJ h (m + 10) j = jJ (σ 10 j) := (hM.2.2.2.1 10 (by decide) (by decide)).2.2.2.2 rfl j
theorem RM_R238 {h : am_H} {m n : Nat} {σ : sg} (hM : RM h m n σ) : am_R h 238 m = m + 11 := (hM.2.2.2.1 11 (by decide) (by decide)).1
theorem RM_T11 {h : am_H} {m n : Nat} {σ : sg} (hM : RM h m n σ) : am_T h (m + 11) = 2 := (hM.2.2.2.1 11 (by decide) (by decide)).2.1
theorem RM_N11 {h : am_H} {m n : Nat} {σ : sg} (hM : RM h m n σ) : am_N h (m + 11) = 1088 := (hM.2.2.2.1 11 (by decide) (by decide)).2.2.1
theorem RM_a11 {h : am_H} {m n : Nat} {σ : sg} (hM : RM h m n σ) (j : Nat) : am_aJ h (m + 11) j = jJ (σ 11 j) := (hM.2.2.2.1 11 (by decide) (by decide)).2.2.2.2 rfl j
theorem RM_R239 {h : am_H} {m n : Nat} {σ : sg} (hM : RM h m n σ) : am_R h 239 m = m + 12 := (hM.2.2.2.1 12 (by decide) (by decide)).1
theorem RM_T12 {h : am_H} {m n : Nat} {σ : sg} (hM : RM h m n σ) : am_T h (m + 12) = 2 := (hM.2.2.2.1 12 (by decide) (by decide)).2.1
theorem RM_N12 {h : am_H} {m n : Nat} {σ : sg} (hM : RM h m n σ) : am_N h (m + 12) = 136 := (hM.2.2.2.1 12 (by decide) (by decide)).2.2.1
theorem RM_a12 {h : am_H} {m n : Nat} {σ : sg} (hM : RM h m n σ) (j : Nat) : am_aJ h (m + 12) j = jJ (σ 12 j) := (hM.2.2.2.1 12 (by decide) (by decide)).2.2.2.2 rfl j
theorem RM_R240 {h : am_H} {m n : Nat} {σ : sg} (hM : RM h m n σ) : am_R h 240 m = m + 13 := (hM.2.2.2.1 13 (by decide) (by decide)).1
theorem RM_T13 {h : am_H} {m n : Nat} {σ : sg} (hM : RM h m n σ) : am_T h (m + 13) = 2 := (hM.2.2.2.1 13 (by decide) (by decide)).2.1
theorem RM_N13 {h : am_H} {m n : Nat} {σ : sg} (hM : RM h m n σ) : am_N h (m + 13) = 136 := (hM.2.2.2.1 13 (by decide) (by decide)).2.2.1
theorem RM_a13 {h : am_H} {m n : Nat} {σ : sg} (hM : RM h m n σ) (j : Nat) : am_aJ h (m + 13) j = jJ (σ 13 j) := (hM.2.2.2.1 13 (by decide) (by decide)).2.2.2.2 rfl j
theorem RM_R241 {h : am_H} {m n : Nat} {σ : sg} (hM : RM h m n σ) : am_R h 241 m = m + 14 := (hM.2.2.2.1 14 (by decide) (by decide)).1
theorem RM_T14 {h : am_H} {m n : Nat} {σ : sg} (hM : RM h m n σ) : am_T h (m + 14) = 2 := (hM.2.2.2.1 14 (by decide) (by decide)).2.1
theorem RM_N14 {h : am_H} {m n : Nat} {σ : sg} (hM : RM h m n σ) : am_N h (m + 14) = 136 := (hM.2.2.2.1 14 (by decide) (by decide)).2.2.1
theorem RM_a14 {h : am_H} {m n : Nat} {σ : sg} (hM : RM h m n σ) (j : Nat) : am_aJ h (m + 14) j = jJ (σ 14 j) := (hM.2.2.2.1 14 (by decide) (by decide)).2.2.2.2 rfl j
theorem RM_R243 {h : am_H} {m n : Nat} {σ : sg} (hM : RM h m n σ) : am_R h 243 m = m + 15 := (hM.2.2.2.1 15 (by decide) (by decide)).1
theorem RM_T15 {h : am_H} {m n : Nat} {σ : sg} (hM : RM h m n σ) : am_T h (m + 15) = 1 := (hM.2.2.2.1 15 (by decide) (by decide)).2.1
theorem RM_N15 {h : am_H} {m n : Nat} {σ : sg} (hM : RM h m n σ) : am_N h (m + 15) = 5001 := (hM.2.2.2.1 15 (by decide) (by decide)).2.2.1
theorem RM_a15 {h : am_H} {m n : Nat} {σ : sg} (hM : RM h m n σ) (j : Nat) : am_aI h (m + 15) j = iI (σ 15 j) := (hM.2.2.2.1 15 (by decide) (by decide)).2.2.2.1 rfl j
theorem RM_R244 {h : am_H} {m n : Nat} {σ : sg} (hM : RM h m n σ) : am_R h 244 m = m + 16 := (hM.2.2.2.1 16 (by decide) (by decide)).1
theorem RM_T16 {h : am_H} {m n : Nat} {σ : sg} (hM : RM h m n σ) : am_T h (m + 16) = 1 := (hM.2.2.2.1 16 (by decide) (by decide)).2.1
theorem RM_N16 {h : am_H} {m n : Nat} {σ : sg} (hM : RM h m n σ) : am_N h (m + 16) = 1001 := (hM.2.2.2.1 16 (by decide) (by decide)).2.2.1
theorem RM_a16 {h : am_H} {m n : Nat} {σ : sg} (hM : RM h m n σ) (j : Nat) : am_aI h (m + 16) j = iI (σ 16 j) := (hM.2.2.2.1 16 (by decide) (by decide)).2.2.2.1 rfl j
theorem RM_R245 {h : am_H} {m n : Nat} {σ : sg} (hM : RM h m n σ) : am_R h 245 m = m + 17 := (hM.2.2.2.1 17 (by decide) (by decide)).1
theorem RM_T17 {h : am_H} {m n : Nat} {σ : sg} (hM : RM h m n σ) : am_T h (m + 17) = 2 := (hM.2.2.2.1 17 (by decide) (by decide)).2.1
theorem RM_N17 {h : am_H} {m n : Nat} {σ : sg} (hM : RM h m n σ) : am_N h (m + 17) = 1001 := (hM.2.2.2.1 17 (by decide) (by decide)).2.2.1
theorem RM_a17 {h : am_H} {m n : Nat} {σ : sg} (hM : RM h m n σ) (j : Nat) : am_aJ h (m + 17) j = jJ (σ 17 j) := (hM.2.2.2.1 17 (by decide) (by decide)).2.2.2.2 rfl j
theorem RM_R246 {h : am_H} {m n : Nat} {σ : sg} (hM : RM h m n σ) : am_R h 246 m = m + 18 := (hM.2.2.2.1 18 (by decide) (by decide)).1
theorem RM_T18 {h : am_H} {m n : Nat} {σ : sg} (hM : RM h m n σ) : am_T h (m + 18) = 2 := (hM.2.2.2.1 18 (by decide) (by decide)).2.1
theorem RM_N18 {h : am_H} {m n : Nat} {σ : sg} (hM : RM h m n σ) : am_N h (m + 18) = 8008 := (hM.2.2.2.1 18 (by decide) (by decide)).2.2.1
theorem RM_a18 {h : am_H} {m n : Nat} {σ : sg} (hM : RM h m n σ) (j : Nat) : am_aJ h (m + 18) j = jJ (σ 18 j) := (hM.2.2.2.1 18 (by decide) (by decide)).2.2.2.2 rfl j
theorem RM_R247 {h : am_H} {m n : Nat} {σ : sg} (hM : RM h m n σ) : am_R h 247 m = m + 19 := (hM.2.2.2.1 19 (by decide) (by decide)).1
theorem RM_T19 {h : am_H} {m n : Nat} {σ : sg} (hM : RM h m n σ) : am_T h (m + 19) = 2 := (hM.2.2.2.1 19 (by decide) (by decide)).2.1
theorem RM_N19 {h : am_H} {m n : Nat} {σ : sg} (hM : RM h m n σ) : am_N h (m + 19) = 8008 := (hM.2.2.2.1 19 (by decide) (by decide)).2.2.1
theorem RM_a19 {h : am_H} {m n : Nat} {σ : sg} (hM : RM h m n σ) (j : Nat) : am_aJ h (m + 19) j = jJ (σ 19 j) := (hM.2.2.2.1 19 (by decide) (by decide)).2.2.2.2 rfl j
theorem RM_R248 {h : am_H} {m n : Nat} {σ : sg} (hM : RM h m n σ) : am_R h 248 m = m + 20 := (hM.2.2.2.1 20 (by decide) (by decide)).1
theorem RM_T20 {h : am_H} {m n : Nat} {σ : sg} (hM : RM h m n σ) : am_T h (m + 20) = 1 := (hM.2.2.2.1 20 (by decide) (by decide)).2.1
theorem RM_N20 {h : am_H} {m n : Nat} {σ : sg} (hM : RM h m n σ) : am_N h (m + 20) = 8008 := (hM.2.2.2.1 20 (by decide) (by decide)).2.2.1
theorem RM_a20 {h : am_H} {m n : Nat} {σ : sg} (hM : RM h m n σ) (j : Nat) : am_aI h (m + 20) j = iI (σ 20 j) := (hM.2.2.2.1 20 (by decide) (by decide)).2.2.2.1 rfl j
theorem RM_R249 {h : am_H} {m n : Nat} {σ : sg} (hM : RM h m n σ) : am_R h 249 m = m + 21 := (hM.2.2.2.1 21 (by decide) (by decide)).1
theorem RM_T21 {h : am_H} {m n : Nat} {σ : sg} (hM : RM h m n σ) : am_T h (m + 21) = 1 := (hM.2.2.2.1 21 (by decide) (by decide)).2.1
theorem RM_N21 {h : am_H} {m n : Nat} {σ : sg} (hM : RM h m n σ) : am_N h (m + 21) = 101 := (hM.2.2.2.1 21 (by decide) (by decide)).2.2.1
theorem RM_a21 {h : am_H} {m n : Nat} {σ : sg} (hM : RM h m n σ) (j : Nat) : am_aI h (m + 21) j = iI (σ 21 j) := (hM.2.2.2.1 21 (by decide) (by decide)).2.2.2.1 rfl j
theorem RM_R250 {h : am_H} {m n : Nat} {σ : sg} (hM : RM h m n σ) : am_R h 250 m = m + 22 := (hM.2.2.2.1 22 (by decide) (by decide)).1
theorem RM_T22 {h : am_H} {m n : Nat} {σ : sg} (hM : RM h m n σ) : am_T h (m + 22) = 2 := (hM.2.2.2.1 22 (by decide) (by decide)).2.1
theorem RM_N22 {h : am_H} {m n : Nat} {σ : sg} (hM : RM h m n σ) : am_N h (m + 22) = 101 := (hM.2.2.2.1 22 (by decide) (by decide)).2.2.1
theorem RM_a22 {h : am_H} {m n : Nat} {σ : sg} (hM : RM h m n σ) (j : Nat) : am_aJ h (m + 22) j = jJ (σ 22 j) := (hM.2.2.2.1 22 (by decide) (by decide)).2.2.2.2 rfl j
theorem RM_R253 {h : am_H} {m n : Nat} {σ : sg} (hM : RM h m n σ) : am_R h 253 m = m + 23 := (hM.2.2.2.1 23 (by decide) (by decide)).1
theorem RM_T23 {h : am_H} {m n : Nat} {σ : sg} (hM : RM h m n σ) : am_T h (m + 23) = 1 := (hM.2.2.2.1 23 (by decide) (by decide)).2.1
theorem RM_N23 {h : am_H} {m n : Nat} {σ : sg} (hM : RM h m n σ) : am_N h (m + 23) = 20000 := (hM.2.2.2.1 23 (by decide) (by decide)).2.2.1
theorem RM_a23 {h : am_H} {m n : Nat} {σ : sg} (hM : RM h m n σ) (j : Nat) : am_aI h (m + 23) j = iI (σ 23 j) := (hM.2.2.2.1 23 (by decide) (by decide)).2.2.2.1 rfl j
theorem RM_R254 {h : am_H} {m n : Nat} {σ : sg} (hM : RM h m n σ) : am_R h 254 m = m + 24 := (hM.2.2.2.1 24 (by decide) (by decide)).1
theorem RM_T24 {h : am_H} {m n : Nat} {σ : sg} (hM : RM h m n σ) : am_T h (m + 24) = 1 := (hM.2.2.2.1 24 (by decide) (by decide)).2.1
theorem RM_N24 {h : am_H} {m n : Nat} {σ : sg} (hM : RM h m n σ) : am_N h (m + 24) = 4 := (hM.2.2.2.1 24 (by decide) (by decide)).2.2.1
theorem RM_a24 {h : am_H} {m n : Nat} {σ : sg} (hM : RM h m n σ) (j : Nat) : am_aI h (m + 24) j = iI (σ 24 j) := (hM.2.2.2.1 24 (by decide) (by decide)).2.2.2.1 rfl j
end
section
/-! THE REFERENCE'S METHODS: small ones -/
/-- what a call leaves beside its answer: the same cells elsewhere, the same room -/
def kp (S : Nat → Prop) (h h' : am_H) : Prop := eqon S h h' ∧ am_Z h' = am_Z h ∧ am_C h' = am_C h ∧ am_S h' = am_S h
theorem kp_rf (S : Nat → Prop) (h : am_H) : kp S h h := ⟨eqon_rf S h, rfl, rfl, rfl⟩
theorem kp_tr {S : Nat → Prop} {h1 h2 h3 : am_H} (a : kp S h1 h2) (b : kp S h2 h3) : kp S h1 h3 := ⟨eqon_tr a.1 b.1, b.2.1.trans a.2.1, b.2.2.1.trans a.2.2.1, b.2.2.2.trans a.2.2.2⟩
theorem kp_sI {S : Nat → Prop} {h : am_H} {f a : Nat} {v : Int32} (ha : ¬ S a) : kp S h (am_sI h f a v) := ⟨eqon_sI ha, rfl, rfl, rfl⟩
theorem kp_sJ {S : Nat → Prop} {h : am_H} {f a : Nat} {v : Int64} (ha : ¬ S a) : kp S h (am_sJ h f a v) := ⟨eqon_sJ ha, rfl, rfl, rfl⟩
theorem kp_sR {S : Nat → Prop} {h : am_H} {f a v : Nat} (ha : ¬ S a) : kp S h (am_sR h f a v) := ⟨eqon_sR ha, rfl, rfl, rfl⟩
theorem kp_xI {S : Nat → Prop} {h : am_H} {a j : Nat} {v : Int32} (ha : ¬ S a) : kp S h (am_xI h a j v) := ⟨eqon_xI ha, rfl, rfl, rfl⟩
theorem kp_xJ {S : Nat → Prop} {h : am_H} {a j : Nat} {v : Int64} (ha : ¬ S a) : kp S h (am_xJ h a j v) := ⟨eqon_xJ ha, rfl, rfl, rfl⟩
theorem kp_xR {S : Nat → Prop} {h : am_H} {a j v : Nat} (ha : ¬ S a) : kp S h (am_xR h a j v) := ⟨eqon_xR ha, rfl, rfl, rfl⟩
/-- cells that are not the reference's -/
def NM (m : Nat) (a : Nat) : Prop := ¬ CM m a
theorem NM_0 (m : Nat) : ¬ NM m m := fun h => h ⟨Nat.le_refl _, by omega⟩
theorem NM_k {m k : Nat} (hk : k ≤ 24) : ¬ NM m (m + k) := fun h => h ⟨by omega, by omega⟩
/-- what a call of the reference gives: answer and state -/
def gM (m n : Nat) (h : am_H) (σ' : sg) (h' : am_H) : Prop := RM h' m n σ' ∧ kp (NM m) h h'
theorem gM_rf {m n : Nat} {h : am_H} {σ : sg} (hM : RM h m n σ) : gM m n h σ h := ⟨hM, kp_rf _ _⟩
theorem gM_tr {m n : Nat} {h h1 h2 : am_H} {σ σ' : sg} (a : gM m n h σ h1) (b : gM m n h1 σ' h2) : gM m n h σ' h2 := ⟨b.1, kp_tr a.2 b.2⟩
theorem gM_code {m n : Nat} {h : am_H} {σ : sg} {v : Int32} (hM : RM h m n σ) : gM m n h σ (am_sI h 224 m v) := ⟨RM_code hM, kp_sI (NM_0 m)⟩
theorem gM_xI {h : am_H} {m n k j : Nat} {σ : sg} {v : Int} (hM : RM h m n σ) (hk : 1 ≤ k ∧ k ≤ 24) (ht : tM k = 1) : gM m n h (am_u2 σ k j v) (am_xI h (m + k) j (iI v)) := ⟨RM_xI hM hk ht, kp_xI (NM_k hk.2)⟩
theorem gM_xJ {h : am_H} {m n k j : Nat} {σ : sg} {v : Int} (hM : RM h m n σ) (hk : 1 ≤ k ∧ k ≤ 24) (ht : tM k = 2) : gM m n h (am_u2 σ k j v) (am_xJ h (m + k) j (jJ v)) := ⟨RM_xJ hM hk ht, kp_xJ (NM_k hk.2)⟩
theorem sp_M_none_bad {d m n : Nat} {p : Int32} {h : am_H} {σ : sg} {Q : Option am_V → am_H → Prop} (hM : RM h m n σ) (h1 : p < 1 ∨ (¬ p < 1 ∧ nI n < p)) (hQ : ∀ h', gM m n h σ h' → Q (some (.inl 1)) h') : am_PC (d + 1) mi_M_none [.inr (.inr m), .inl p] h Q := by
  refine bk_M_none ⟨RM_T hM, fun h2 e2 => ?_⟩
  have g : gM m n h σ h2 := by subst e2; exact gM_code hM
  refine ⟨fun _ => ⟨Or.inr rfl, hQ _ g⟩, fun q => ⟨RM_T g.1, ?_⟩⟩
  rw [RM_n g.1]
  refine ⟨fun q2 => ?_, fun _ => ⟨Or.inr rfl, hQ _ g⟩⟩
  rcases h1 with z | z
  · exact absurd z q
  · exact absurd q2 (Int32.not_le.mpr z.2)
theorem sp_M_none_ok {d m n : Nat} {p : Int32} {h : am_H} {σ : sg} {Q : Option am_V → am_H → Prop} (hM : RM h m n σ) (h1 : ¬ p < 1) (h9 : ¬ nI n < p) (hQ : ∀ h', gM m n h σ h' → Q (some (.inl 0)) h') : am_PC (d + 1) mi_M_none [.inr (.inr m), .inl p] h Q := by
  refine bk_M_none ⟨RM_T hM, fun h2 e2 => ?_⟩
  have g : gM m n h σ h2 := by subst e2; exact gM_code hM
  refine ⟨fun q => absurd q h1, fun q => ⟨RM_T g.1, ?_⟩⟩
  rw [RM_n g.1]
  exact ⟨fun _ => ⟨Or.inl rfl, hQ _ g⟩, fun q2 => absurd (Int32.not_lt.mp h9) q2⟩
theorem sp_M_noRank_bad {d m n : Nat} {p r : Int32} {h : am_H} {σ : sg} {Q : Option am_V → am_H → Prop} (hM : RM h m n σ) (h1 : (p < 1 ∨ (¬ p < 1 ∧ nI n < p)) ∨ ((¬ p < 1) ∧ (¬ nI n < p) ∧ (r < 0 ∨ (¬ r < 0 ∧ nI 8 ≤ r)))) (hQ : ∀ h', gM m n h σ h' → Q (some (.inl 1)) h') : am_PC (d + 2) mi_M_noRank [.inr (.inr m), .inl p, .inl r] h Q := by
  refine bk_M_noRank ⟨RM_T hM, ?_⟩
  rcases h1 with h1 | ⟨a1, a2, h1⟩
  · exact sp_M_none_bad hM h1 (fun h2 g => ⟨1, rfl, fun q => absurd q (by decide), fun _ => ⟨Or.inr rfl, hQ _ g⟩⟩)
  · refine sp_M_none_ok hM a1 a2 (fun h2 g => ⟨0, rfl, fun _ => ⟨fun _ => ⟨Or.inr rfl, hQ _ g⟩, fun q => ⟨fun q2 => ?_, fun _ => ⟨Or.inr rfl, hQ _ g⟩⟩⟩, fun q => absurd rfl q⟩)
    rcases h1 with z | z
    · exact absurd z q
    · have e1 := Int32.le_iff_toInt_le.mp z.2
      have e2 := Int32.le_iff_toInt_le.mp q2
      have e3 : (nI 8).toInt = 8 := rfl
      have e4 : (7 : Int32).toInt = 7 := rfl
      omega
theorem sp_M_noRank_ok {d m n : Nat} {p r : Int32} {h : am_H} {σ : sg} {Q : Option am_V → am_H → Prop} (hM : RM h m n σ) (h1 : ¬ p < 1) (h2 : ¬ nI n < p) (h3 : ¬ r < 0) (h4 : ¬ nI 8 ≤ r) (hQ : ∀ h', gM m n h σ h' → Q (some (.inl 0)) h') : am_PC (d + 2) mi_M_noRank [.inr (.inr m), .inl p, .inl r] h Q := by
  refine bk_M_noRank ⟨RM_T hM, sp_M_none_ok hM h1 h2 (fun h2 g => ⟨0, rfl, fun _ => ⟨fun q => absurd q h3, fun _ => ⟨fun _ => ⟨Or.inl rfl, hQ _ g⟩, fun q => ?_⟩⟩, fun q => absurd rfl q⟩)⟩
  exfalso
  have e1 : ¬ (nI 8).toInt ≤ r.toInt := fun z => h4 (Int32.le_iff_toInt_le.mpr z)
  have e2 : ¬ r.toInt ≤ (7 : Int32).toInt := fun z => q (Int32.le_iff_toInt_le.mpr z)
  have e3 : (nI 8).toInt = 8 := rfl
  have e4 : (7 : Int32).toInt = 7 := rfl
  omega
/-- where an offset goes -/
def clk (o z : Int) : Int := if o < z then (if 100 < z - o then o + 100 else z) else (if 100 < o - z then o - 100 else z)
theorem sp_M_clock_1 {d m n : Nat} {p : Int32} {v : Int64} {h : am_H} {σ : sg} {Q : Option am_V → am_H → Prop} (hM : RM h m n σ) (h1 : p < 1 ∨ (¬ p < 1 ∧ nI n < p)) (hQ : ∀ h', gM m n h σ h' → Q (some (.inl (-1))) h') : am_PC (d + 2) mi_M_clock [.inr (.inr m), .inl p, .inr (.inl v)] h Q :=
  bk_M_clock ⟨RM_T hM, sp_M_none_bad hM h1 (fun h2 g => ⟨1, rfl, fun q => absurd q (by decide), fun _ => hQ _ g⟩)⟩
theorem sp_M_clock_2 {d m n : Nat} {p : Int32} {z : Int} {h : am_H} {σ : sg} {Q : Option am_V → am_H → Prop} (hM : RM h m n σ) (h1 : ¬ p < 1) (h2 : ¬ nI n < p) (hz : rJ z) (h3 : z < 0 ∨ 1000000 < z) (hQ : ∀ h', gM m n h σ h' → Q (some (.inl (-2))) h') : am_PC (d + 2) mi_M_clock [.inr (.inr m), .inl p, .inr (.inl (jJ z))] h Q := by
  refine bk_M_clock ⟨RM_T hM, sp_M_none_ok hM h1 h2 (fun h2 g => ⟨0, rfl, fun _ => ⟨fun _ => hQ _ g, fun q => ⟨fun q2 => ?_, fun _ => hQ _ g⟩⟩, fun q => absurd rfl q⟩)⟩
  exfalso
  have e1 := (cmp_le (b := 1000000) hz (by unfold rJ; omega)).mp q2
  have e2 : ¬ z < 0 := fun w => q ((cmp_lt (b := 0) hz (by unfold rJ; omega)).mpr w)
  omega
theorem sp_M_clock_3 {d m n i : Nat} {z : Int} {h : am_H} {σ : sg} {Q : Option am_V → am_H → Prop} (hM : RM h m n σ) (hi : i < n) (h1 : ¬ nI (i + 1) < 1) (h2 : ¬ nI n < nI (i + 1)) (hz : 0 ≤ z ∧ z ≤ 1000000) (ho : 0 ≤ σ 2 (i + 1) ∧ σ 2 (i + 1) ≤ 1000000)
    (hQ : ∀ h', gM m n h (am_u2 σ 2 (i + 1) (clk (σ 2 (i + 1)) z)) h' → Q (some (.inl (iI (clk (σ 2 (i + 1)) z)))) h') : am_PC (d + 2) mi_M_clock [.inr (.inr m), .inl (nI (i + 1)), .inr (.inl (jJ z))] h Q := by
  have hn := hM.1
  refine bk_M_clock ⟨RM_T hM, sp_M_none_ok hM h1 h2 (fun h2 g => ⟨0, rfl, fun _ => ⟨fun q => ?_, fun _ => ⟨fun _ => ?_, fun q => ?_⟩⟩, fun q => absurd rfl q⟩)⟩
  · have := (cmp_lt (b := 0) (a := z) (by unfold rJ; omega) (by unfold rJ; omega)).mp q
    omega
  · have hM2 := g.1
    have hin : vp_in (nI (i + 1)) 17 := vp_in_nI (by omega) (by omega)
    have hcl : (nI (i + 1)).toNatClampNeg = i + 1 := nI_clamp (by omega)
    have fin : ∀ w : Int, w = clk (σ 2 (i + 1)) z → (0 ≤ w ∧ w ≤ 1000000) → ∀ h3, h3 = am_xJ h2 (m + 2) (i + 1) (jJ w) → gM m n h (am_u2 σ 2 (i + 1) (clk (σ 2 (i + 1)) z)) h3 ∧ am_T h3 m = 17 ∧ am_T h3 (m + 2) = 2 ∧ am_R h3 229 m = m + 2 ∧ am_N h3 (m + 2) = 17 ∧ (am_aJ h3 (m + 2) (i + 1)).toInt32 = iI (clk (σ 2 (i + 1)) z) := by
      intro w hw hr h3 e3
      have g3 : gM m n h2 (am_u2 σ 2 (i + 1) w) h3 := by subst e3; exact gM_xJ hM2 (by decide) rfl
      rw [hw] at g3
      refine ⟨gM_tr g g3, RM_T g3.1, RM_T2 g3.1, RM_R229 g3.1, RM_N2 g3.1, ?_⟩
      rw [RM_a2 g3.1, am_u2, if_pos ⟨rfl, rfl⟩, ← hw, jJ_i (by unfold rI; omega)]
    rw [RM_R229 hM2, RM_T2 hM2, RM_N2 hM2, hcl, RM_a2 hM2]
    refine ⟨RM_T hM2, rfl, hin, fun q => ?_, fun q => ?_⟩
    · have q := (cmp_le (a := z) (b := σ 2 (i + 1)) (by unfold rJ; omega) (by unfold rJ; omega)).mp q
      rw [jJ_sub]
      refine ⟨RM_T hM2, RM_T hM2, rfl, hin, fun q2 => ?_, fun q2 => ⟨RM_T hM2, rfl, hin, ?_⟩⟩
      · have q2 := (cmp_le (a := σ 2 (i + 1) - z) (b := 100) (by unfold rJ; omega) (by unfold rJ; omega)).mp q2
        refine bk_M_clock_110 ?_
        rw [RM_T2 hM2, RM_N2 hM2, hcl]
        refine ⟨rfl, hin, fun h3 e3 => ?_⟩
        obtain ⟨k1, k2, k3, k4, k5, k6⟩ := fin z (by unfold clk; rw [if_neg (by omega), if_neg (by omega)]) (by omega) h3 e3
        rw [k4, k3, k5, k6]
        exact ⟨k2, rfl, hin, hQ _ k1⟩
      · have q2 : 100 < σ 2 (i + 1) - z := by
          have := mt (cmp_le (a := σ 2 (i + 1) - z) (b := 100) (by unfold rJ; omega) (by unfold rJ; omega)).mpr q2
          omega
        rw [show (100 : Int64) = jJ 100 from rfl, jJ_sub]
        refine bk_M_clock_110 ?_
        rw [RM_T2 hM2, RM_N2 hM2, hcl]
        refine ⟨rfl, hin, fun h3 e3 => ?_⟩
        obtain ⟨k1, k2, k3, k4, k5, k6⟩ := fin (σ 2 (i + 1) - 100) (by unfold clk; rw [if_neg (by omega), if_pos q2]) (by omega) h3 e3
        rw [k4, k3, k5, k6]
        exact ⟨k2, rfl, hin, hQ _ k1⟩
    · have q : σ 2 (i + 1) < z := by
        have := mt (cmp_le (a := z) (b := σ 2 (i + 1)) (by unfold rJ; omega) (by unfold rJ; omega)).mpr q
        omega
      rw [jJ_sub]
      refine ⟨RM_T hM2, RM_T hM2, rfl, hin, fun q2 => ?_, fun q2 => ⟨RM_T hM2, rfl, hin, ?_⟩⟩
      · have q2 := (cmp_le (a := z - σ 2 (i + 1)) (b := 100) (by unfold rJ; omega) (by unfold rJ; omega)).mp q2
        refine bk_M_clock_72 ?_
        rw [RM_T2 hM2, RM_N2 hM2, hcl]
        refine ⟨rfl, hin, fun h3 e3 => ?_⟩
        obtain ⟨k1, k2, k3, k4, k5, k6⟩ := fin z (by unfold clk; rw [if_pos q, if_neg (by omega)]) (by omega) h3 e3
        rw [k4, k3, k5, k6]
        exact ⟨k2, rfl, hin, hQ _ k1⟩
      · have q2 : 100 < z - σ 2 (i + 1) := by
          have := mt (cmp_le (a := z - σ 2 (i + 1)) (b := 100) (by unfold rJ; omega) (by unfold rJ; omega)).mpr q2
          omega
        rw [show (100 : Int64) = jJ 100 from rfl, jJ_add]
        refine bk_M_clock_72 ?_
        rw [RM_T2 hM2, RM_N2 hM2, hcl]
        refine ⟨rfl, hin, fun h3 e3 => ?_⟩
        obtain ⟨k1, k2, k3, k4, k5, k6⟩ := fin (σ 2 (i + 1) + 100) (by unfold clk; rw [if_pos q, if_pos q2]) (by omega) h3 e3
        rw [k4, k3, k5, k6]
        exact ⟨k2, rfl, hin, hQ _ k1⟩
  · exact absurd ((cmp_le (a := z) (b := 1000000) (by unfold rJ; omega) (by unfold rJ; omega)).mpr hz.2) q
end
section
theorem im1 : iI (-1) = -1 := by decide
theorem jm1 : jJ (-1) = -1 := by decide
theorem iI_eqm {a : Int} (h : rI a) : iI a = -1 ↔ a = -1 := by rw [← im1]; exact iI_eq h (by unfold rI; omega)
theorem im2 : iI (-2) = -2 := by decide
theorem im3 : iI (-3) = -3 := by decide
theorem im4 : iI (-4) = -4 := by decide
/-! THE REFERENCE: dropped, left, service, learn, filter, credit, as functions of the state -/
def f_dropped (σ : sg) (w : Int) : Int := if w < 0 ∨ 3 < w then -2 else σ 24 w.toNat
theorem sp_M_dropped {d m n : Nat} {w : Int} {h : am_H} {σ : sg} {Q : Option am_V → am_H → Prop} (hM : RM h m n σ) (hw : rI w) (hQ : ∀ h', gM m n h σ h' → Q (some (.inl (iI (f_dropped σ w)))) h') : am_PC (d + 1) mi_M_dropped [.inr (.inr m), .inl (iI w)] h Q := by
  refine bk_M_dropped ⟨RM_T hM, fun h1 e1 => ?_⟩
  have g : gM m n h σ h1 := by subst e1; exact gM_code hM
  have hM1 := g.1
  have hq : ∀ (r : Int) (v : Int32), iI r = v → f_dropped σ w = r → Q (some (.inl v)) h1 := fun r v e1 e => by subst e1; subst e; exact hQ _ g
  rw [RM_R254 hM1, RM_T24 hM1, RM_N24 hM1]
  refine ek_if (iI_lt (b := 0) hw (by unfold rI; omega)) (fun q => hq (-2) _ im2 (by unfold f_dropped; rw [if_pos (Or.inl q)])) (fun q => ek_if (iI_le (b := 3) hw (by unfold rI; omega)) (fun q2 => ⟨RM_T hM1, Or.inl rfl, iI_in (by omega) (by omega) (by omega), ?_⟩) (fun q2 => hq (-2) _ im2 (by unfold f_dropped; rw [if_pos (by omega)])))
  rw [iI_clamp (by omega) hw, RM_a24 hM1]
  exact hq _ _ rfl (by unfold f_dropped; rw [if_neg (by omega)])
def f_left (σ : sg) (i w : Int) : Int := if i = -1 ∧ w = 0 then σ 0 3 else if i < 0 ∨ σ 0 4 ≤ i then -1 else if w < 0 ∨ 3 < w then -2 else σ 23 (4 * i + w).toNat
theorem sp_M_left {d m n : Nat} {i w : Int} {h : am_H} {σ : sg} {Q : Option am_V → am_H → Prop} (hM : RM h m n σ) (hi : rI i) (hw : rI w) (h4 : 0 ≤ σ 0 4 ∧ σ 0 4 ≤ 5000) (hQ : ∀ h', gM m n h σ h' → Q (some (.inl (iI (f_left σ i w)))) h') : am_PC (d + 1) mi_M_left [.inr (.inr m), .inl (iI i), .inl (iI w)] h Q := by
  refine bk_M_left ⟨RM_T hM, fun h1 e1 => ?_⟩
  have g : gM m n h σ h1 := by subst e1; exact gM_code hM
  have hM1 := g.1
  have hq : ∀ (r : Int) (v : Int32), iI r = v → f_left σ i w = r → Q (some (.inl v)) h1 := fun r v e1 e => by subst e1; subst e; exact hQ _ g
  have rest : ¬ (i = -1 ∧ w = 0) → am_P d mi_M_left 19 [some (.inr (.inr m)), some (.inl (iI i)), some (.inl (iI w))] [] h1 Q := by
    intro q0
    refine bk_M_left_19 ?_
    rw [RM_R253 hM1, RM_T23 hM1, RM_N23 hM1, RM_I252 hM1]
    refine ek_if (iI_lt (b := 0) hi (by unfold rI; omega)) (fun q => hq (-1) _ im1 (by unfold f_left; rw [if_neg q0, if_pos (Or.inl q)])) (fun q => ⟨RM_T hM1, ek_if (iI_lt hi (by unfold rI; omega)) (fun q2 => ?_) (fun q2 => hq (-1) _ im1 (by unfold f_left; rw [if_neg q0, if_pos (by omega)]))⟩)
    refine ek_if (iI_lt (b := 0) hw (by unfold rI; omega)) (fun q3 => hq (-2) _ im2 (by unfold f_left; rw [if_neg q0, if_neg (by omega), if_pos (by omega)])) (fun q3 => ek_if (iI_le (b := 3) hw (by unfold rI; omega)) (fun q4 => ⟨RM_T hM1, Or.inl rfl, ?_⟩) (fun q4 => hq (-2) _ im2 (by unfold f_left; rw [if_neg q0, if_neg (by omega), if_pos (by omega)])))
    rw [show (4 : Int32) = iI 4 from rfl, iI_mul, iI_add, iI_clamp (by omega) (by unfold rI; omega), RM_a23 hM1]
    exact ⟨iI_in (by omega) (by omega) (by omega), hq _ _ rfl (by unfold f_left; rw [if_neg q0, if_neg (by omega), if_neg (by omega)])⟩
  refine ek_if (iI_eqm hi) (fun q => ek_if (iI_eq (b := 0) hw (by unfold rI; omega)) (fun q2 => ⟨RM_T hM1, ?_⟩) (fun q2 => rest (fun z => q2 z.2))) (fun q => rest (fun z => q z.1))
  rw [RM_I251 hM1]
  exact hq _ _ rfl (by unfold f_left; rw [if_pos ⟨q, q2⟩])
/-- none, in whole numbers -/
theorem iI_p1 {p : Int} (hp : rI p) : iI p < 1 ↔ p < 1 := iI_lt (b := 1) hp (by unfold rI; omega)
theorem iI_pn {p : Int} {n : Nat} (hp : rI p) (hn : n ≤ 16) : nI n < iI p ↔ (n : Int) < p := by
  rw [← iI_nat]; exact iI_lt (by unfold rI; omega) hp
theorem sp_M_none {d m n : Nat} {p : Int} {h : am_H} {σ : sg} {Q : Option am_V → am_H → Prop} (hM : RM h m n σ) (hp : rI p) (hbad : (p < 1 ∨ (n : Int) < p) → ∀ h', gM m n h σ h' → Q (some (.inl 1)) h') (hok : ¬ (p < 1 ∨ (n : Int) < p) → ∀ h', gM m n h σ h' → Q (some (.inl 0)) h') : am_PC (d + 1) mi_M_none [.inr (.inr m), .inl (iI p)] h Q := by
  by_cases c : p < 1 ∨ (n : Int) < p
  · refine sp_M_none_bad hM ?_ (hbad c)
    rw [iI_p1 hp, iI_pn hp hM.1.2]
    omega
  · refine sp_M_none_ok hM ?_ ?_ (hok c)
    · rw [iI_p1 hp]; omega
    · rw [iI_pn hp hM.1.2]; omega
def f_service (n : Nat) (σ : sg) (o f : Int) : Int × sg :=
  if o ≠ 0 ∧ (f < 1 ∨ (n : Int) < f) then (-1, σ) else if o < 0 ∨ 100 < o ∨ (o = 0 ∧ (f < 1 ∨ 100 < f)) then (-2, σ)
  else if 0 < o then (f, am_u2 (am_u2 σ 21 o.toNat f) 22 o.toNat (σ 0 0 + 1000)) else (if 0 < σ 21 f.toNat ∧ σ 0 0 < σ 22 f.toNat then σ 21 f.toNat else 0, σ)
theorem sp_M_service {d m n : Nat} {o f : Int} {h : am_H} {σ : sg} {Q : Option am_V → am_H → Prop} (hM : RM h m n σ) (ho : rI o) (hf : rI f) (ht : 0 ≤ σ 0 0 ∧ σ 0 0 ≤ 2000000) (h21 : ∀ j, j ≤ 100 → rI (σ 21 j)) (h22 : ∀ j, j ≤ 100 → rJ (σ 22 j))
    (hQ : ∀ h', gM m n h (f_service n σ o f).2 h' → Q (some (.inl (iI (f_service n σ o f).1))) h') : am_PC (d + 2) mi_M_service [.inr (.inr m), .inl (iI o), .inl (iI f)] h Q := by
  have hq : ∀ (r : Int × sg) (v : Int32) h', iI r.1 = v → f_service n σ o f = r → gM m n h r.2 h' → Q (some (.inl v)) h' := fun r v h' e1 e g => by subst e1; subst e; exact hQ h' g
  refine bk_M_service ⟨RM_T hM, fun h1 e1 => ?_⟩
  have g1 : gM m n h σ h1 := by subst e1; exact gM_code hM
  have rest : ∀ h2, gM m n h σ h2 → ¬ (o ≠ 0 ∧ (f < 1 ∨ (n : Int) < f)) → am_P (d + 1) mi_M_service 19 [some (.inr (.inr m)), some (.inl (iI o)), some (.inl (iI f))] [] h2 Q := by
    intro h2 g2 q0
    have hM2 := g2.1
    have r2 : ¬ (o < 0 ∨ 100 < o ∨ (o = 0 ∧ (f < 1 ∨ 100 < f))) → am_P (d + 1) mi_M_service 47 [some (.inr (.inr m)), some (.inl (iI o)), some (.inl (iI f))] [] h2 Q := by
      intro q1
      refine bk_M_service_47 ?_
      rw [RM_R249 hM2, RM_R250 hM2, RM_T21 hM2, RM_T22 hM2, RM_N21 hM2, RM_N22 hM2, RM_J227 hM2]
      refine ek_if (iI_le (b := 0) ho (by unfold rI; omega)) (fun q => ?_) (fun q => ?_)
      · have hfn : f.toNat ≤ 100 := by omega
        rw [iI_clamp (by omega) hf, RM_a21 hM2, RM_a22 hM2]
        have hin : vp_in (iI f) 101 := iI_in (by omega) (by omega) (by omega)
        refine ⟨RM_T hM2, Or.inl rfl, hin, ek_if (iI_le (b := 0) (h21 _ hfn) (by unfold rI; omega)) (fun q2 => hq (0, σ) _ _ rfl (by unfold f_service; rw [if_neg q0, if_neg q1, if_neg (by omega), if_neg (by omega)]) g2) (fun q2 => ⟨RM_T hM2, rfl, hin, RM_T hM2, ek_if (cmp_le (h22 _ hfn) (by unfold rJ; omega)) (fun q3 => hq (0, σ) _ _ rfl (by unfold f_service; rw [if_neg q0, if_neg q1, if_neg (by omega), if_neg (by omega)]) g2) (fun q3 => ⟨RM_T hM2, Or.inl rfl, hin, hq (σ 21 f.toNat, σ) _ _ rfl (by unfold f_service; rw [if_neg q0, if_neg q1, if_neg (by omega), if_pos (by omega)]) g2⟩)⟩)⟩
      · rw [iI_clamp (by omega) ho]
        have hin : vp_in (iI o) 101 := iI_in (by omega) (by omega) (by omega)
        refine ⟨RM_T hM2, rfl, hin, fun h3 e3 => ?_⟩
        have g3 : gM m n h2 (am_u2 σ 21 o.toNat f) h3 := by subst e3; exact gM_xI hM2 (by decide) rfl
        have hM3 := g3.1
        rw [RM_R250 hM3, RM_T22 hM3, RM_N22 hM3, RM_J227 hM3]
        refine ⟨RM_T hM3, RM_T hM3, rfl, hin, fun h4 e4 => ?_⟩
        have g4 : gM m n h3 (am_u2 (am_u2 σ 21 o.toNat f) 22 o.toNat (σ 0 0 + 1000)) h4 := by
          rw [show (1000 : Int64) = jJ 1000 from rfl, jJ_add] at e4
          subst e4
          exact gM_xJ hM3 (by decide) rfl
        exact hq (f, am_u2 (am_u2 σ 21 o.toNat f) 22 o.toNat (σ 0 0 + 1000)) _ _ rfl (by unfold f_service; rw [if_neg q0, if_neg q1, if_pos (by omega)]) (gM_tr (gM_tr g2 g3) g4)
    refine bk_M_service_19 ?_
    have bad : (o < 0 ∨ 100 < o ∨ (o = 0 ∧ (f < 1 ∨ 100 < f))) → Q (some (.inl (-2))) h2 := fun c => hq (-2, σ) _ _ im2 (by unfold f_service; rw [if_neg q0, if_pos c]) g2
    refine ek_if (iI_lt (b := 0) ho (by unfold rI; omega)) (fun q => bad (by omega)) (fun q => ek_if (iI_lt (a := 100) (by unfold rI; omega) ho) (fun q2 => bad (by omega)) (fun q2 => ek_if (iI_eq (b := 0) ho (by unfold rI; omega)) (fun q3 => ek_if (iI_lt (b := 1) hf (by unfold rI; omega)) (fun q4 => bad (by omega)) (fun q4 => ek_if (iI_le (b := 100) hf (by unfold rI; omega)) (fun q5 => r2 (by omega)) (fun q5 => bad (by omega)))) (fun q3 => r2 (by omega))))
  refine ek_if (iI_eq (b := 0) ho (by unfold rI; omega)) (fun q => rest h1 g1 (by omega)) (fun q => ⟨RM_T g1.1, sp_M_none g1.1 hf (fun c h2 g2 => ⟨1, rfl, fun z => absurd z (by decide), fun _ => hq (-1, σ) _ _ im1 (by unfold f_service; rw [if_pos (by omega)]) (gM_tr g1 g2)⟩) (fun c h2 g2 => ⟨0, rfl, fun _ => rest h2 (gM_tr g1 g2) (by omega), fun z => absurd rfl z⟩)⟩)
/-- where an address is now: 0 nowhere -/
def f_at (σ : sg) (a : Nat) : Int := if 0 < σ 16 a ∧ (σ 17 a = -1 ∨ σ 0 0 - σ 17 a < 3000) then σ 16 a else 0
theorem sp_M_isAt {d m n a : Nat} {h : am_H} {σ : sg} {Q : Option am_V → am_H → Prop} (hM : RM h m n σ) (ha : a ≤ 1000) (ht : 0 ≤ σ 0 0 ∧ σ 0 0 ≤ 2000000) (h16 : rI (σ 16 a)) (h17 : -1 ≤ σ 17 a ∧ σ 17 a ≤ 2000000) (h1 : (0 < σ 16 a ∧ (σ 17 a = -1 ∨ σ 0 0 - σ 17 a < 3000)) → Q (some (.inl 1)) h) (h0 : ¬ (0 < σ 16 a ∧ (σ 17 a = -1 ∨ σ 0 0 - σ 17 a < 3000)) → Q (some (.inl 0)) h) : am_PC (d + 1) mi_M_isAt [.inr (.inr m), .inl (nI a)] h Q := by
  refine bk_M_isAt ?_
  have hin : vp_in (nI a) 1001 := vp_in_nI (by omega) (by omega)
  rw [RM_R244 hM, RM_R245 hM, RM_T16 hM, RM_T17 hM, RM_N16 hM, RM_N17 hM, RM_J227 hM, nI_clamp (by omega), RM_a16 hM, RM_a17 hM, jJ_sub, ← jm1]
  exact ⟨RM_T hM, Or.inl rfl, hin, ek_if (iI_le (b := 0) h16 (by unfold rI; omega)) (fun q => ⟨Or.inl rfl, h0 (by omega)⟩) (fun q => ⟨RM_T hM, rfl, hin, ek_if (cmp_eq (b := -1) (by unfold rJ; omega) (by unfold rJ; omega)) (fun q2 => ⟨Or.inr rfl, h1 (by omega)⟩) (fun q2 => ⟨RM_T hM, RM_T hM, rfl, hin, ek_if (cmp_ge (b := 3000) (by unfold rJ; omega) (by unfold rJ; omega)) (fun q3 => ⟨Or.inl rfl, h0 (by omega)⟩) (fun q3 => ⟨Or.inr rfl, h1 (by omega)⟩)⟩)⟩)⟩
def f_learn (n : Nat) (σ : sg) (a p t : Int) : Int × sg :=
  if p < 1 ∨ (n : Int) < p then (-1, σ) else if a < 1 ∨ 1000 < a ∨ t < -1 ∨ σ 0 0 < t then (-2, σ) else if 0 < σ 16 a.toNat ∧ σ 17 a.toNat = -1 ∧ t ≠ -1 then (-3, σ)
  else (f_at σ a.toNat, am_u2 (am_u2 σ 16 a.toNat p) 17 a.toNat t)
theorem sp_M_learn {d m n : Nat} {a p t : Int} {h : am_H} {σ : sg} {Q : Option am_V → am_H → Prop} (hM : RM h m n σ) (ha : rI a) (hp : rI p) (ht1 : rJ t) (ht : 0 ≤ σ 0 0 ∧ σ 0 0 ≤ 2000000) (h16 : ∀ j, j ≤ 1000 → rI (σ 16 j)) (h17 : ∀ j, j ≤ 1000 → -1 ≤ σ 17 j ∧ σ 17 j ≤ 2000000)
    (hQ : ∀ h', gM m n h (f_learn n σ a p t).2 h' → Q (some (.inl (iI (f_learn n σ a p t).1))) h') : am_PC (d + 2) mi_M_learn [.inr (.inr m), .inl (iI a), .inl (iI p), .inr (.inl (jJ t))] h Q := by
  have hq : ∀ (r : Int × sg) (v : Int32) h', iI r.1 = v → f_learn n σ a p t = r → gM m n h r.2 h' → Q (some (.inl v)) h' := fun r v h' e1 e g => by subst e1; subst e; exact hQ h' g
  refine bk_M_learn ⟨RM_T hM, sp_M_none hM hp (fun c h2 g2 => ⟨1, rfl, fun z => absurd z (by decide), fun _ => hq (-1, σ) _ _ im1 (by unfold f_learn; rw [if_pos c]) g2⟩) (fun c h2 g2 => ⟨0, rfl, fun _ => ?_, fun z => absurd rfl z⟩)⟩
  have hM2 := g2.1
  have bad : (a < 1 ∨ 1000 < a ∨ t < -1 ∨ σ 0 0 < t) → Q (some (.inl (-2))) h2 := fun c2 => hq (-2, σ) _ _ im2 (by unfold f_learn; rw [if_neg c, if_pos c2]) g2
  rw [RM_R244 hM2, RM_R245 hM2, RM_T16 hM2, RM_T17 hM2, RM_N16 hM2, RM_N17 hM2, RM_J227 hM2, ← jm1]
  refine ek_if (iI_lt (b := 1) ha (by unfold rI; omega)) (fun q => bad (by omega)) (fun q => ek_if (iI_lt (a := 1000) (by unfold rI; omega) ha) (fun q2 => bad (by omega)) (fun q2 => ek_if (cmp_lt (b := -1) ht1 (by unfold rJ; omega)) (fun q3 => bad (by omega)) (fun q3 => ⟨RM_T hM2, ek_if (cmp_le ht1 (by unfold rJ; omega)) (fun q4 => ?_) (fun q4 => bad (by omega))⟩)))
  have c2 : ¬ (a < 1 ∨ 1000 < a ∨ t < -1 ∨ σ 0 0 < t) := by omega
  obtain ⟨k, rfl⟩ := Int.eq_ofNat_of_zero_le (show 0 ≤ a by omega)
  have hk : k ≤ 1000 := by omega
  have hka : (k : Int).toNat = k := rfl
  rw [iI_nat]
  have hin : vp_in (nI k) 1001 := vp_in_nI (by omega) (by omega)
  rw [nI_clamp (by omega), RM_a16 hM2, RM_a17 hM2]
  have rest : ¬ (0 < σ 16 k ∧ σ 17 k = -1 ∧ t ≠ -1) → am_P (d + 1) mi_M_learn 75 [some (.inr (.inr m)), some (.inl (nI k)), some (.inl (iI p)), some (.inr (.inl (jJ t))), none, none] [] h2 Q := by
    intro c3
    have fin : ∀ w : Int, w = f_at σ k → am_P (d + 1) mi_M_learn 93 [some (.inr (.inr m)), some (.inl (nI k)), some (.inl (iI p)), some (.inr (.inl (jJ t))), none, none] [.inl (iI w)] h2 Q := by
      intro w hw
      refine bk_M_learn_93 ?_
      rw [RM_R244 hM2, RM_T16 hM2, RM_N16 hM2, nI_clamp (by omega)]
      refine ⟨RM_T hM2, rfl, hin, fun h3 e3 => ?_⟩
      have g3 : gM m n h2 (am_u2 σ 16 k p) h3 := by subst e3; exact gM_xI hM2 (by decide) rfl
      have hM3 := g3.1
      rw [RM_R245 hM3, RM_T17 hM3, RM_N17 hM3]
      refine ⟨RM_T hM3, rfl, hin, fun h4 e4 => ?_⟩
      have g4 : gM m n h3 (am_u2 (am_u2 σ 16 k p) 17 k t) h4 := by subst e4; exact gM_xJ hM3 (by decide) rfl
      exact hq (w, am_u2 (am_u2 σ 16 k p) 17 k t) _ _ rfl (by unfold f_learn; rw [if_neg c, if_neg c2, hka, if_neg c3, hw]) (gM_tr (gM_tr g2 g3) g4)
    refine bk_M_learn_75 ⟨RM_T hM2, sp_M_isAt hM2 hk ht (h16 k hk) (h17 k hk) (fun c4 => ⟨1, rfl, fun z => absurd z (by decide), fun _ => ?_⟩) (fun c4 => ⟨0, rfl, fun _ => fin 0 (by unfold f_at; rw [if_neg c4]), fun z => absurd rfl z⟩)⟩
    rw [RM_R244 hM2, RM_T16 hM2, RM_N16 hM2, nI_clamp (by omega), RM_a16 hM2]
    exact ⟨RM_T hM2, Or.inl rfl, hin, fin _ (by unfold f_at; rw [if_pos c4])⟩
  exact ⟨RM_T hM2, Or.inl rfl, hin, ek_if (iI_le (b := 0) (h16 k hk) (by unfold rI; omega)) (fun q5 => rest (by omega)) (fun q5 => ⟨RM_T hM2, rfl, hin, ek_if (cmp_eq (b := -1) (by have := h17 k hk; unfold rJ; omega) (by unfold rJ; omega)) (fun q6 => ek_if (cmp_eq (b := -1) ht1 (by unfold rJ; omega)) (fun q7 => rest (by omega)) (fun q7 => hq (-3, σ) _ _ im3 (by unfold f_learn; rw [if_neg c, if_neg c2, hka, if_pos (by omega)]) g2)) (fun q6 => rest (by omega))⟩)⟩
end
section
/-! THE REFERENCE: filter, credit, gate, link -/
/-- a stream is looked at: its count is of the thousand at hand -/
def f_look (σ : sg) (s : Nat) : sg := am_u2 (if σ 19 s = σ 0 0 / 1000 then σ else am_u2 σ 20 s 0) 19 s (σ 0 0 / 1000)
theorem sp_M_look {d m n s : Nat} {h : am_H} {σ : sg} {Q : Option am_V → am_H → Prop} (hM : RM h m n σ) (hs : s < 8008) (ht : 0 ≤ σ 0 0 ∧ σ 0 0 ≤ 2000000) (h19 : rJ (σ 19 s)) (hQ : ∀ h', gM m n h (f_look σ s) h' → Q none h') : am_PC (d + 1) mi_M_look [.inr (.inr m), .inl (nI s)] h Q := by
  have hin : vp_in (nI s) 8008 := vp_in_nI hs (by omega)
  have fin : ∀ h1 σ1, gM m n h σ1 h1 → σ1 0 0 = σ 0 0 → am_u2 σ1 19 s (σ 0 0 / 1000) = f_look σ s → am_P d mi_M_look 25 [some (.inr (.inr m)), some (.inl (nI s))] [] h1 Q := by
    intro h1 σ1 g1 e0 ef
    have hM1 := g1.1
    refine bk_M_look_25 ?_
    rw [RM_R247 hM1, RM_T19 hM1, RM_N19 hM1, RM_J227 hM1, e0, nI_clamp (by omega), show (1000 : Int64) = jJ 1000 from rfl, jJ_div (by omega) (by omega) (by unfold rJ; omega) (by unfold rJ; omega)]
    refine ⟨RM_T hM1, RM_T hM1, by decide, rfl, hin, fun h2 e2 => ?_⟩
    have g2 : gM m n h1 (am_u2 σ1 19 s (σ 0 0 / 1000)) h2 := by subst e2; exact gM_xJ hM1 (by decide) rfl
    rw [ef] at g2
    exact hQ _ (gM_tr g1 g2)
  refine bk_M_look ?_
  rw [RM_R247 hM, RM_R248 hM, RM_T19 hM, RM_T20 hM, RM_N19 hM, RM_N20 hM, RM_J227 hM, nI_clamp (by omega), RM_a19 hM, show (1000 : Int64) = jJ 1000 from rfl, jJ_div (by omega) (by omega) (by unfold rJ; omega) (by unfold rJ; omega)]
  refine ⟨RM_T hM, rfl, hin, RM_T hM, by decide, ek_if (cmp_eq h19 (by unfold rJ; omega)) (fun q => ?_) (fun q => ⟨RM_T hM, rfl, hin, fun h1 e1 => ?_⟩)⟩
  · exact fin h σ (gM_rf hM) rfl (by unfold f_look; rw [if_pos q])
  · refine fin h1 (am_u2 σ 20 s 0) (by subst e1; exact gM_xI (v := 0) hM (by decide) rfl) ?_ (by unfold f_look; rw [if_neg q])
    rw [am_u2, if_neg (fun z => by omega)]
def f_filter (σ : sg) (s v : Int) : Int × sg := if s < 8 ∨ 8007 < s then (-1, σ) else if v < -1 then (-2, σ) else ((f_look σ s.toNat) 20 s.toNat, am_u2 (f_look σ s.toNat) 18 s.toNat (if 5000 < v then 0 else v + 1))
theorem sp_M_filter {d m n : Nat} {s v : Int} {h : am_H} {σ : sg} {Q : Option am_V → am_H → Prop} (hM : RM h m n σ) (hs : rI s) (hv : rJ v) (ht : 0 ≤ σ 0 0 ∧ σ 0 0 ≤ 2000000) (h19 : ∀ j, j < 8008 → rJ (σ 19 j))
    (hQ : ∀ h', gM m n h (f_filter σ s v).2 h' → Q (some (.inl (iI (f_filter σ s v).1))) h') : am_PC (d + 2) mi_M_filter [.inr (.inr m), .inl (iI s), .inr (.inl (jJ v))] h Q := by
  have hq : ∀ (r : Int × sg) (w : Int32) h', iI r.1 = w → f_filter σ s v = r → gM m n h r.2 h' → Q (some (.inl w)) h' := fun r w h' e1 e g => by subst e1; subst e; exact hQ h' g
  refine bk_M_filter ⟨RM_T hM, fun h1 e1 => ?_⟩
  have g1 : gM m n h σ h1 := by subst e1; exact gM_code hM
  rw [← jm1]
  refine ek_if (iI_lt (b := 8) hs (by unfold rI; omega)) (fun q => hq (-1, σ) _ _ im1 (by unfold f_filter; rw [if_pos (by omega)]) g1) (fun q => ek_if (iI_le (b := 8007) hs (by unfold rI; omega)) (fun q2 => ek_if (cmp_ge (b := -1) hv (by unfold rJ; omega)) (fun q3 => ⟨RM_T g1.1, ?_⟩) (fun q3 => hq (-2, σ) _ _ im2 (by unfold f_filter; rw [if_neg (by omega), if_pos (by omega)]) g1)) (fun q2 => hq (-1, σ) _ _ im1 (by unfold f_filter; rw [if_pos (by omega)]) g1))
  obtain ⟨k, rfl⟩ := Int.eq_ofNat_of_zero_le (show 0 ≤ s by omega)
  have hk : k < 8008 := by omega
  have hin : vp_in (nI k) 8008 := vp_in_nI hk (by omega)
  rw [iI_nat]
  refine sp_M_look g1.1 hk ht (h19 k hk) (fun h2 g2 => ⟨rfl, RM_T g2.1, ?_⟩)
  have hM2 := g2.1
  have fin : ∀ (w : Int) h3, w = (if 5000 < v then 0 else v + 1) → h3 = am_xJ h2 (m + 18) k (jJ w) → am_T h3 m = 17 ∧ (am_T h3 (am_R h3 248 m) = 1 ∨ am_T h3 (am_R h3 248 m) = 3) ∧ vp_in (nI k) (am_N h3 (am_R h3 248 m)) ∧ Q (some (.inl (am_aI h3 (am_R h3 248 m) k))) h3 := by
    intro w h3 hw e3
    have g3 : gM m n h2 (am_u2 (f_look σ k) 18 k w) h3 := by subst e3; exact gM_xJ hM2 (by decide) rfl
    have hM3 := g3.1
    rw [RM_R248 hM3, RM_T20 hM3, RM_N20 hM3, RM_a20 hM3]
    refine ⟨RM_T hM3, Or.inl rfl, hin, hq ((f_look σ k) 20 k, am_u2 (f_look σ k) 18 k w) _ _ ?_ ?_ (gM_tr (gM_tr g1 g2) g3)⟩
    · show iI _ = iI (am_u2 _ _ _ _ _ _)
      rw [am_u2, if_neg (fun z => by omega)]
    · unfold f_filter
      rw [if_neg (by omega), if_neg (by omega), hw]
      rfl
  rw [RM_R246 hM2, RM_T18 hM2, RM_N18 hM2, nI_clamp (by omega)]
  refine ek_if (cmp_le (b := 5000) hv (by unfold rJ; omega)) (fun q4 => ⟨rfl, hin, fun h3 e3 => ?_⟩) (fun q4 => ⟨rfl, hin, fun h3 e3 => ?_⟩)
  · rw [show (1 : Int64) = jJ 1 from rfl, jJ_add] at e3
    exact fin (v + 1) h3 (by rw [if_neg (by omega)]) e3
  · exact fin 0 h3 (by rw [if_pos (by omega)]) e3
theorem sp_M_noRank {d m n : Nat} {p r : Int} {h : am_H} {σ : sg} {Q : Option am_V → am_H → Prop} (hM : RM h m n σ) (hp : rI p) (hr : rI r) (hbad : (p < 1 ∨ (n : Int) < p ∨ r < 0 ∨ 7 < r) → ∀ h', gM m n h σ h' → Q (some (.inl 1)) h') (hok : ¬ (p < 1 ∨ (n : Int) < p ∨ r < 0 ∨ 7 < r) → ∀ h', gM m n h σ h' → Q (some (.inl 0)) h') : am_PC (d + 2) mi_M_noRank [.inr (.inr m), .inl (iI p), .inl (iI r)] h Q := by
  refine bk_M_noRank ⟨RM_T hM, sp_M_none hM hp (fun c h2 g => ⟨1, rfl, fun q => absurd q (by decide), fun _ => ⟨Or.inr rfl, hbad (by omega) _ g⟩⟩) (fun c h2 g => ⟨0, rfl, fun _ => ?_, fun q => absurd rfl q⟩)⟩
  exact ek_if (iI_lt (b := 0) hr (by unfold rI; omega)) (fun q => ⟨Or.inr rfl, hbad (by omega) _ g⟩) (fun q => ek_if (iI_le (b := 7) hr (by unfold rI; omega)) (fun q2 => ⟨Or.inl rfl, hok (by omega) _ g⟩) (fun q2 => ⟨Or.inr rfl, hbad (by omega) _ g⟩))
def f_credit (n : Nat) (σ : sg) (p r a b : Int) : Int × sg :=
  if p < 1 ∨ (n : Int) < p ∨ r < 0 ∨ 7 < r then (-1, σ) else if b < 1 ∨ 1000 < b ∨ a < 0 ∨ 10000 * b < a then (-2, σ)
  else (1, am_u2 (am_u2 (am_u2 σ 12 (8 * p + r).toNat a) 13 (8 * p + r).toNat b) 14 (8 * p + r).toNat 0)
theorem sp_M_credit {d m n : Nat} {p r a b : Int} {h : am_H} {σ : sg} {Q : Option am_V → am_H → Prop} (hM : RM h m n σ) (hp : rI p) (hr : rI r) (ha : rJ a) (hb : rJ b)
    (hQ : ∀ h', gM m n h (f_credit n σ p r a b).2 h' → Q (some (.inl (iI (f_credit n σ p r a b).1))) h') : am_PC (d + 3) mi_M_credit [.inr (.inr m), .inl (iI p), .inl (iI r), .inr (.inl (jJ a)), .inr (.inl (jJ b))] h Q := by
  have hn := hM.1
  have hq : ∀ (x : Int × sg) (w : Int32) h', iI x.1 = w → f_credit n σ p r a b = x → gM m n h x.2 h' → Q (some (.inl w)) h' := fun x w h' e1 e g => by subst e1; subst e; exact hQ h' g
  refine bk_M_credit ⟨RM_T hM, sp_M_noRank hM hp hr (fun c h2 g => ⟨1, rfl, fun q => absurd q (by decide), fun _ => hq (-1, σ) _ _ im1 (by unfold f_credit; rw [if_pos c]) g⟩) (fun c h2 g => ⟨0, rfl, fun _ => ?_, fun q => absurd rfl q⟩)⟩
  have hM2 := g.1
  have bad : (b < 1 ∨ 1000 < b ∨ a < 0 ∨ 10000 * b < a) → Q (some (.inl (-2))) h2 := fun c2 => hq (-2, σ) _ _ im2 (by unfold f_credit; rw [if_neg c, if_pos c2]) g
  refine ek_if (cmp_lt (b := 1) hb (by unfold rJ; omega)) (fun q => bad (by omega)) (fun q => ek_if (cmp_gt (b := 1000) hb (by unfold rJ; omega)) (fun q2 => bad (by omega)) (fun q2 => ek_if (cmp_lt (b := 0) ha (by unfold rJ; omega)) (fun q3 => bad (by omega)) (fun q3 => ?_)))
  rw [show (10000 : Int64) = jJ 10000 from rfl, jJ_mul, show (8 : Int32) = iI 8 from rfl, iI_mul, iI_add, iI_clamp (by omega) (by unfold rI; omega)]
  have hin : vp_in (iI (8 * p + r)) 136 := iI_in (by omega) (by omega) (by omega)
  rw [RM_R239 hM2, RM_T12 hM2, RM_N12 hM2]
  refine ek_if (cmp_le ha (by unfold rJ; omega)) (fun q4 => ⟨RM_T hM2, rfl, hin, fun h3 e3 => ?_⟩) (fun q4 => bad (by omega))
  have g3 : gM m n h2 (am_u2 σ 12 (8 * p + r).toNat a) h3 := by subst e3; exact gM_xJ hM2 (by decide) rfl
  have hM3 := g3.1
  rw [RM_R240 hM3, RM_T13 hM3, RM_N13 hM3]
  refine ⟨RM_T hM3, rfl, hin, fun h4 e4 => ?_⟩
  have g4 : gM m n h3 (am_u2 (am_u2 σ 12 (8 * p + r).toNat a) 13 (8 * p + r).toNat b) h4 := by subst e4; exact gM_xJ hM3 (by decide) rfl
  have hM4 := g4.1
  rw [RM_R241 hM4, RM_T14 hM4, RM_N14 hM4]
  refine ⟨RM_T hM4, rfl, hin, fun h5 e5 => ?_⟩
  have g5 : gM m n h4 (am_u2 (am_u2 (am_u2 σ 12 (8 * p + r).toNat a) 13 (8 * p + r).toNat b) 14 (8 * p + r).toNat 0) h5 := by subst e5; exact gM_xJ (v := 0) hM4 (by decide) rfl
  exact hq (1, am_u2 (am_u2 (am_u2 σ 12 (8 * p + r).toNat a) 13 (8 * p + r).toNat b) 14 (8 * p + r).toNat 0) _ _ rfl (by unfold f_credit; rw [if_neg c, if_neg (by omega)]) (gM_tr (gM_tr (gM_tr g g3) g4) g5)
def f_gate (n : Nat) (σ : sg) (p r a b : Int) : Int × sg :=
  if p < 1 ∨ (n : Int) < p ∨ r < 0 ∨ 7 < r then (-1, σ) else if a < 0 ∨ b ≤ a ∨ σ 0 1 < b then (-2, σ) else if σ 9 (8 * p + r).toNat = 8 then (-4, σ)
  else (σ 9 (8 * p + r).toNat + 1, am_u2 (am_u2 (am_u2 σ 10 (8 * (8 * p + r) + σ 9 (8 * p + r).toNat).toNat a) 11 (8 * (8 * p + r) + σ 9 (8 * p + r).toNat).toNat b) 9 (8 * p + r).toNat (σ 9 (8 * p + r).toNat + 1))
theorem u2_ne {σ : sg} {k j k' j' : Nat} {v : Int} (h : ¬ k' = k) : am_u2 σ k j v k' j' = σ k' j' := by rw [am_u2, if_neg (fun z => h z.1)]
theorem u2_nj {σ : sg} {k j k' j' : Nat} {v : Int} (h : ¬ j' = j) : am_u2 σ k j v k' j' = σ k' j' := by rw [am_u2, if_neg (fun z => h z.2)]
theorem u2_eq {σ : sg} {k j : Nat} {v : Int} : am_u2 σ k j v k j = v := by rw [am_u2, if_pos ⟨rfl, rfl⟩]
theorem sp_M_gate {d m n : Nat} {p r a b : Int} {h : am_H} {σ : sg} {Q : Option am_V → am_H → Prop} (hM : RM h m n σ) (hp : rI p) (hr : rI r) (ha : rJ a) (hb : rJ b) (hc : 0 ≤ σ 0 1 ∧ σ 0 1 ≤ 1000000) (h9 : ∀ j, j < 136 → 0 ≤ σ 9 j ∧ σ 9 j ≤ 8)
    (hQ : ∀ h', gM m n h (f_gate n σ p r a b).2 h' → Q (some (.inl (iI (f_gate n σ p r a b).1))) h') : am_PC (d + 3) mi_M_gate [.inr (.inr m), .inl (iI p), .inl (iI r), .inr (.inl (jJ a)), .inr (.inl (jJ b))] h Q := by
  have hn := hM.1
  have hq : ∀ (x : Int × sg) (w : Int32) h', iI x.1 = w → f_gate n σ p r a b = x → gM m n h x.2 h' → Q (some (.inl w)) h' := fun x w h' e1 e g => by subst e1; subst e; exact hQ h' g
  refine bk_M_gate ⟨RM_T hM, sp_M_noRank hM hp hr (fun c h2 g => ⟨1, rfl, fun q => absurd q (by decide), fun _ => hq (-1, σ) _ _ im1 (by unfold f_gate; rw [if_pos c]) g⟩) (fun c h2 g => ⟨0, rfl, fun _ => ?_, fun q => absurd rfl q⟩)⟩
  have hM2 := g.1
  have bad : (a < 0 ∨ b ≤ a ∨ σ 0 1 < b) → Q (some (.inl (-2))) h2 := fun c2 => hq (-2, σ) _ _ im2 (by unfold f_gate; rw [if_neg c, if_pos c2]) g
  rw [RM_J226 hM2]
  refine ek_if (cmp_lt (b := 0) ha (by unfold rJ; omega)) (fun q => bad (by omega)) (fun q => ek_if (cmp_ge ha hb) (fun q2 => bad (by omega)) (fun q2 => ⟨RM_T hM2, ek_if (cmp_le hb (by unfold rJ; omega)) (fun q3 => ?_) (fun q3 => bad (by omega))⟩))
  obtain ⟨k, hk⟩ := Int.eq_ofNat_of_zero_le (show 0 ≤ 8 * p + r by omega)
  have hk2 : k < 136 := by omega
  have hkn : (8 * p + r).toNat = k := by omega
  have hw := h9 k hk2
  rw [show (8 : Int32) = iI 8 from rfl, iI_mul, iI_add, iI_clamp (by omega) (by unfold rI; omega), hkn]
  have hin : vp_in (iI (8 * p + r)) 136 := iI_in (by omega) (by omega) (by omega)
  rw [RM_R236 hM2, RM_T9 hM2, RM_N9 hM2, RM_a9 hM2, iI_mul, iI_add]
  refine ⟨RM_T hM2, Or.inl rfl, hin, ek_if (iI_eq (b := 8) (by unfold rI; omega) (by unfold rI; omega)) (fun q4 => hq (-4, σ) _ _ im4 (by unfold f_gate; rw [if_neg c, if_neg (by omega), hkn, if_pos q4]) g) (fun q4 => ⟨RM_T hM2, RM_T hM2, Or.inl rfl, hin, ?_⟩)⟩
  have hin2 : vp_in (iI (8 * (8 * p + r) + σ 9 k)) 1088 := iI_in (by omega) (by omega) (by omega)
  rw [RM_R237 hM2, RM_T10 hM2, RM_N10 hM2, iI_clamp (a := 8 * (8 * p + r) + σ 9 k) (by omega) (by unfold rI; omega)]
  refine ⟨rfl, hin2, fun h4 e4 => ?_⟩
  have g4 : gM m n h2 (am_u2 σ 10 (8 * (8 * p + r) + σ 9 k).toNat a) h4 := by subst e4; exact gM_xJ hM2 (by decide) rfl
  have hM4 := g4.1
  rw [RM_R236 hM4, RM_T9 hM4, RM_N9 hM4, RM_a9 hM4, u2_ne (by decide), iI_add, RM_R238 hM4, RM_T11 hM4, RM_N11 hM4, iI_clamp (a := 8 * (8 * p + r) + σ 9 k) (by omega) (by unfold rI; omega)]
  refine ⟨RM_T hM4, RM_T hM4, Or.inl rfl, hin, rfl, hin2, fun h5 e5 => ?_⟩
  have g5 : gM m n h4 (am_u2 (am_u2 σ 10 (8 * (8 * p + r) + σ 9 k).toNat a) 11 (8 * (8 * p + r) + σ 9 k).toNat b) h5 := by subst e5; exact gM_xJ hM4 (by decide) rfl
  have hM5 := g5.1
  rw [RM_R236 hM5, RM_T9 hM5, RM_N9 hM5, RM_a9 hM5, u2_ne (by decide), u2_ne (by decide), show (1 : Int32) = iI 1 from rfl, iI_add]
  refine ⟨RM_T hM5, rfl, rfl, Or.inl rfl, hin, rfl, hin, fun h6 e6 => ?_⟩
  have g6 : gM m n h5 (am_u2 (am_u2 (am_u2 σ 10 (8 * (8 * p + r) + σ 9 k).toNat a) 11 (8 * (8 * p + r) + σ 9 k).toNat b) 9 k (σ 9 k + 1)) h6 := by subst e6; exact gM_xI hM5 (by decide) rfl
  have hM6 := g6.1
  rw [RM_R236 hM6, RM_T9 hM6, RM_N9 hM6, RM_a9 hM6, u2_eq]
  exact ⟨RM_T hM6, Or.inl rfl, hin, hq (σ 9 k + 1, am_u2 (am_u2 (am_u2 σ 10 (8 * (8 * p + r) + σ 9 k).toNat a) 11 (8 * (8 * p + r) + σ 9 k).toNat b) 9 k (σ 9 k + 1)) _ _ rfl (by unfold f_gate; rw [if_neg c, if_neg (by omega), hkn, if_neg q4]) (gM_tr (gM_tr (gM_tr g g4) g5) g6)⟩
/-- link: what all ranks of a port hold; the state when the first k are emptied -/
def lsum (σ : sg) (p : Nat) : Nat → Int
  | 0 => 0
  | k + 1 => lsum σ p k + σ 7 (8 * p + k)
def lzero (σ : sg) (p : Nat) : Nat → sg
  | 0 => σ
  | k + 1 => am_u2 (lzero σ p k) 7 (8 * p + k) 0
theorem lzero_ne {σ : sg} {p k j j' : Nat} (h : ¬ j = 7) : lzero σ p k j j' = σ j j' := by
  induction k with
  | zero => rfl
  | succ k ih => rw [lzero, u2_ne h, ih]
theorem lzero_ge {σ : sg} {p k r : Nat} (h : k ≤ r) : lzero σ p k 7 (8 * p + r) = σ 7 (8 * p + r) := by
  induction k with
  | zero => rfl
  | succ k ih => rw [lzero, u2_nj (by omega), ih (by omega)]
def f_link (n : Nat) (σ : sg) (p v : Int) : Int × sg :=
  if p < 1 ∨ (n : Int) < p then (-1, σ) else if v < 0 ∨ 10000 < v then (-2, σ) else if 0 < σ 3 p.toNat ∧ 0 < v ∧ v ≠ σ 1 p.toNat then (-3, σ)
  else if 0 < v then (0, am_u2 σ 1 p.toNat v)
  else ((if 0 < σ 3 p.toNat then 1 else 0) + lsum σ p.toNat 8, am_u2 (lzero (am_u2 (am_u2 σ 1 p.toNat v) 3 p.toNat 0) p.toNat 8) 24 3 (σ 24 3 + ((if 0 < σ 3 p.toNat then 1 else 0) + lsum σ p.toNat 8)))
end
section
/-! THE REFERENCE: link, cycle -/
theorem nI_q (p r : Nat) : (8 : Int32) * nI p + nI r = nI (8 * p + r) := by
  rw [show (8 : Int32) = nI 8 from rfl, pk_mul, nI_add]
theorem nI_q16 (p r : Nat) : (16 : Int32) * nI p + nI r = nI (16 * p + r) := by
  rw [show (16 : Int32) = nI 16 from rfl, pk_mul, nI_add]
theorem lp_M_link {d m n p : Nat} {b : Int} {h0 : am_H} {σ : sg} {Q : Option am_V → am_H → Prop} (hp : 1 ≤ p ∧ p ≤ 16) (hQ : ∀ h', gM m n h0 (am_u2 (lzero σ p 8) 24 3 (σ 24 3 + (b + lsum σ p 8))) h' → Q (some (.inl (iI (b + lsum σ p 8)))) h') : ∀ k r h y2 y3, r + k = 8 → gM m n h0 (lzero σ p r) h → am_P d mi_M_link 97 [some (.inr (.inr m)), some (.inl (nI p)), y2, y3, some (.inl (iI (b + lsum σ p r))), some (.inl (nI r))] [] h Q := by
  intro k
  induction k with
  | zero =>
    intro r h y2 y3 hr g
    have hr : r = 8 := by omega
    subst hr
    have hM := g.1
    refine bk_M_link_97 ⟨fun _ => ?_, fun q => absurd (Int32.le_refl 8) q⟩
    rw [RM_R254 hM, RM_T24 hM, RM_N24 hM, RM_a24 hM, iI_add, show (3 : Int32).toNatClampNeg = 3 from rfl]
    refine ⟨RM_T hM, RM_T hM, Or.inl rfl, vp_in_nI (n := 3) (by decide) (by decide), rfl, vp_in_nI (n := 3) (by decide) (by decide), fun h1 e1 => hQ h1 ?_⟩
    have g1 : gM m n h (am_u2 (lzero σ p 8) 24 3 (lzero σ p 8 24 3 + (b + lsum σ p 8))) h1 := by subst e1; exact gM_xI hM (by decide) rfl
    rw [lzero_ne (show ¬ 24 = 7 by decide)] at g1
    exact gM_tr g g1
  | succ k ih =>
    intro r h y2 y3 hr g
    have hM := g.1
    refine bk_M_link_97 ⟨fun q => absurd q (nI_ge (a := r) (b := 8) (by omega) (by omega)), fun _ => ?_⟩
    rw [nI_q, nI_clamp (by omega), RM_R234 hM, RM_T7 hM, RM_N7 hM, RM_a7 hM, lzero_ge (Nat.le_refl r), iI_add, nI_1]
    have hin : vp_in (nI (8 * p + r)) 136 := vp_in_nI (by omega) (by omega)
    refine ⟨RM_T hM, Or.inl rfl, hin, RM_T hM, rfl, hin, fun h2 e2 => ?_⟩
    have g2 : gM m n h (lzero σ p (r + 1)) h2 := by subst e2; exact gM_xI (v := 0) hM (by decide) rfl
    rw [Int.add_assoc]
    exact ih (r + 1) h2 _ _ (by omega) (gM_tr g g2)
theorem lsum_eq {σ σ' : sg} {p k : Nat} (h : ∀ j, σ' 7 j = σ 7 j) : lsum σ' p k = lsum σ p k := by
  induction k with
  | zero => rfl
  | succ k ih => rw [lsum, lsum, ih, h]
theorem sp_M_link {d m n : Nat} {p v : Int} {h : am_H} {σ : sg} {Q : Option am_V → am_H → Prop} (hM : RM h m n σ) (hp : rI p) (hv : rJ v) (h1 : ∀ j, j < 17 → 0 ≤ σ 1 j ∧ σ 1 j ≤ 10000) (h3 : ∀ j, j < 17 → 0 ≤ σ 3 j ∧ σ 3 j ≤ 5000)
    (hQ : ∀ h', gM m n h (f_link n σ p v).2 h' → Q (some (.inl (iI (f_link n σ p v).1))) h') : am_PC (d + 2) mi_M_link [.inr (.inr m), .inl (iI p), .inr (.inl (jJ v))] h Q := by
  have hn := hM.1
  have hq : ∀ (x : Int × sg) (w : Int32) h', iI x.1 = w → f_link n σ p v = x → gM m n h x.2 h' → Q (some (.inl w)) h' := fun x w h' e1 e g => by subst e1; subst e; exact hQ h' g
  refine bk_M_link ⟨RM_T hM, sp_M_none hM hp (fun c h2 g => ⟨1, rfl, fun q => absurd q (by decide), fun _ => hq (-1, σ) _ _ im1 (by unfold f_link; rw [if_pos c]) g⟩) (fun c h2 g => ⟨0, rfl, fun _ => ?_, fun q => absurd rfl q⟩)⟩
  have hM2 := g.1
  have bad : (v < 0 ∨ 10000 < v) → Q (some (.inl (-2))) h2 := fun c2 => hq (-2, σ) _ _ im2 (by unfold f_link; rw [if_neg c, if_pos c2]) g
  obtain ⟨k, rfl⟩ := Int.eq_ofNat_of_zero_le (show 0 ≤ p by omega)
  have hk : k < 17 := by omega
  have hka : ((k : Nat) : Int).toNat = k := rfl
  have hin : vp_in (nI k) 17 := vp_in_nI hk (by omega)
  have b1 := h1 k hk
  have b3 := h3 k hk
  rw [iI_nat, nI_clamp (by omega)]
  have rest : ¬ (v < 0 ∨ 10000 < v) → ¬ (0 < σ 3 k ∧ 0 < v ∧ v ≠ σ 1 k) → am_P (d + 1) mi_M_link 56 [some (.inr (.inr m)), some (.inl (nI k)), some (.inr (.inl (jJ v))), none, none, none] [] h2 Q := by
    intro c2 c3
    refine bk_M_link_56 ?_
    rw [RM_R228 hM2, RM_T1 hM2, RM_N1 hM2, nI_clamp (by omega)]
    refine ⟨RM_T hM2, rfl, hin, fun h4 e4 => ?_⟩
    have g4 : gM m n h2 (am_u2 σ 1 k v) h4 := by subst e4; exact gM_xJ hM2 (by decide) rfl
    have hM4 := g4.1
    rw [RM_R230 hM4, RM_T3 hM4, RM_N3 hM4, RM_a3 hM4, u2_ne (by decide)]
    refine ek_if (cmp_le (b := 0) hv (by unfold rJ; omega)) (fun q => ⟨RM_T hM4, Or.inl rfl, hin, ?_⟩) (fun q => hq (0, am_u2 σ 1 k v) _ _ rfl (by unfold f_link; rw [if_neg c, if_neg c2, hka, if_neg c3, if_pos (by omega)]) (gM_tr g g4))
    have fin : ∀ b : Int, b = (if 0 < σ 3 k then 1 else 0) → am_P (d + 1) mi_M_link 85 [some (.inr (.inr m)), some (.inl (nI k)), some (.inr (.inl (jJ v))), none, none, none] [.inl (iI b)] h4 Q := by
      intro b hb
      refine bk_M_link_85 ?_
      rw [RM_R230 hM4, RM_T3 hM4, RM_N3 hM4, nI_clamp (by omega)]
      refine ⟨RM_T hM4, rfl, hin, fun h5 e5 => ?_⟩
      have g5 : gM m n h4 (am_u2 (am_u2 σ 1 k v) 3 k 0) h5 := by subst e5; exact gM_xI (v := 0) hM4 (by decide) rfl
      have := lp_M_link (d := d + 1) (m := m) (n := n) (p := k) (b := b) (h0 := h5) (σ := am_u2 (am_u2 σ 1 k v) 3 k 0) (Q := Q) (by omega) (fun h6 g6 => ?_) 8 0 h5 none none rfl (gM_rf g5.1)
      · rw [lsum, Int.add_zero] at this
        exact this
      · have e7 : lsum (am_u2 (am_u2 σ 1 k v) 3 k 0) k 8 = lsum σ k 8 := lsum_eq (fun j => by rw [u2_ne (by decide), u2_ne (by decide)])
        rw [e7] at g6 ⊢
        rw [u2_ne (by decide), u2_ne (by decide)] at g6
        exact hq (b + lsum σ k 8, am_u2 (lzero (am_u2 (am_u2 σ 1 k v) 3 k 0) k 8) 24 3 (σ 24 3 + (b + lsum σ k 8))) _ _ rfl (by unfold f_link; rw [if_neg c, if_neg c2, hka, if_neg c3, if_neg (by omega), hb]) (gM_tr (gM_tr (gM_tr g g4) g5) g6)
    exact ek_if (iI_le (b := 0) (by unfold rI; omega) (by unfold rI; omega)) (fun q2 => fin 0 (by rw [if_neg (by omega)])) (fun q2 => fin 1 (by rw [if_pos (by omega)]))
  refine ek_if (cmp_lt (b := 0) hv (by unfold rJ; omega)) (fun q => bad (by omega)) (fun q => ek_if (cmp_le (b := 10000) hv (by unfold rJ; omega)) (fun q2 => ⟨RM_T hM2, ?_⟩) (fun q2 => bad (by omega)))
  rw [RM_R230 hM2, RM_T3 hM2, RM_N3 hM2, RM_a3 hM2, RM_R228 hM2, RM_T1 hM2, RM_N1 hM2, RM_a1 hM2]
  exact ⟨Or.inl rfl, hin, ek_if (iI_le (b := 0) (by unfold rI; omega) (by unfold rI; omega)) (fun q3 => rest (by omega) (by omega)) (fun q3 => ek_if (cmp_le (b := 0) hv (by unfold rJ; omega)) (fun q4 => rest (by omega) (by omega)) (fun q4 => ⟨RM_T hM2, rfl, hin, ek_if (cmp_eq hv (by unfold rJ; omega)) (fun q5 => rest (by omega) (by omega)) (fun q5 => hq (-3, σ) _ _ im3 (by unfold f_link; rw [if_neg c, if_neg (by omega), hka, if_pos (by omega)]) g)⟩))⟩
/-- cycle: a window ends behind v -/
def wover (σ : sg) (v : Int) : Prop := ∃ q k : Nat, 8 ≤ q ∧ q < 136 ∧ (k : Int) < σ 9 q ∧ v < σ 11 (8 * q + k)
theorem lp_M_cycle35 {d m n q : Nat} {v : Int} {h : am_H} {σ : sg} {Q : Option am_V → am_H → Prop} (hM : RM h m n σ) (hv : rJ v) (hq : 8 ≤ q ∧ q < 136) (h9 : 0 ≤ σ 9 q ∧ σ 9 q ≤ 8) (h11 : ∀ j, j < 1088 → rJ (σ 11 j)) (hbad : wover σ v → Q (some (.inl (-2))) h)
    (hok : (∀ k : Nat, (k : Int) < σ 9 q → ¬ v < σ 11 (8 * q + k)) → ∀ y2 y4, am_P d mi_M_cycle 25 [some (.inr (.inr m)), some (.inr (.inl (jJ v))), y2, some (.inl (nI (q + 1))), y4] [] h Q) : ∀ (j k : Nat) (y2 : Option am_V), (k : Int) + j = σ 9 q → (∀ k' : Nat, k' < k → ¬ v < σ 11 (8 * q + k')) → am_P d mi_M_cycle 35 [some (.inr (.inr m)), some (.inr (.inl (jJ v))), y2, some (.inl (nI q)), some (.inl (nI k))] [] h Q := by
  intro j
  have hin : vp_in (nI q) 136 := vp_in_nI hq.2 (by omega)
  induction j with
  | zero =>
    intro k y2 hk hs
    refine bk_M_cycle_35 ?_
    rw [RM_R236 hM, RM_T9 hM, RM_N9 hM, nI_clamp (by omega), RM_a9 hM, nI_1]
    refine ⟨RM_T hM, Or.inl rfl, hin, fun _ => hok (fun k' hk' => hs k' (by omega)) _ _, fun z => absurd ?_ z⟩
    rw [← iI_nat k]
    exact (iI_le (by unfold rI; omega) (by unfold rI; omega)).mpr (by omega)
  | succ j ih =>
    intro k y2 hk hs
    refine bk_M_cycle_35 ?_
    rw [RM_R236 hM, RM_T9 hM, RM_N9 hM, nI_clamp (by omega), RM_a9 hM, nI_1 q, nI_1 k, nI_q, RM_R238 hM, RM_T11 hM, RM_N11 hM, nI_clamp (by omega), RM_a11 hM]
    refine ⟨RM_T hM, Or.inl rfl, hin, fun z => ?_, fun _ => ⟨RM_T hM, rfl, vp_in_nI (by omega) (by omega), ek_if (cmp_le (h11 _ (by omega)) hv) (fun c => ?_) (fun c => hbad ⟨q, k, hq.1, hq.2, by omega, by omega⟩)⟩⟩
    · rw [← iI_nat k, iI_le (by unfold rI; omega) (by unfold rI; omega)] at z
      omega
    · refine ih (k + 1) _ (by omega) (fun k' hk' => ?_)
      rcases Nat.lt_or_eq_of_le (Nat.lt_succ_iff.mp hk') with z | z
      · exact hs k' z
      · subst z; omega
theorem lp_M_cycle25 {d m n : Nat} {v : Int} {h : am_H} {σ : sg} {Q : Option am_V → am_H → Prop} (hM : RM h m n σ) (hv : rJ v) (h9 : ∀ j, j < 136 → 0 ≤ σ 9 j ∧ σ 9 j ≤ 8) (h11 : ∀ j, j < 1088 → rJ (σ 11 j)) (hbad : wover σ v → Q (some (.inl (-2))) h)
    (hzero : ¬ wover σ v → v = 0 → ∀ h', h' = am_sI h 224 m 1 → Q (some (.inl 0)) h') (hpos : ¬ wover σ v → ¬ v = 0 → ∀ h', h' = am_sJ (am_sI h 224 m 0) 226 m (jJ v) → Q (some (.inl 1)) h') : ∀ j q y2 y4, q + j = 136 → 8 ≤ q → (∀ q' k : Nat, 8 ≤ q' → q' < q → (k : Int) < σ 9 q' → ¬ v < σ 11 (8 * q' + k)) → am_P d mi_M_cycle 25 [some (.inr (.inr m)), some (.inr (.inl (jJ v))), y2, some (.inl (nI q)), y4] [] h Q := by
  intro j
  induction j with
  | zero =>
    intro q y2 y4 hq h8 hs
    have hq : q = 136 := by omega
    subst hq
    have hno : ¬ wover σ v := by
      rintro ⟨q', k, a1, a2, a3, a4⟩
      exact hs q' k a1 a2 a3 a4
    refine bk_M_cycle_25 ⟨fun _ => ek_if (cmp_eq (b := 0) hv (by unfold rJ; omega)) (fun c => ?_) (fun c => ?_), fun z => absurd (Int32.le_refl _) z⟩
    · refine bk_M_cycle_90 ⟨RM_T hM, fun h1 e1 => ?_⟩
      have hM1 : RM h1 m n σ := by subst e1; exact RM_code hM
      have e2 : am_I h1 224 m = 1 := by subst e1; rw [hp_I_sI, if_pos ⟨rfl, rfl⟩]
      rw [e2]
      exact ⟨RM_T hM1, fun z => absurd z (by decide), fun _ => hzero hno c h1 e1⟩
    · refine bk_M_cycle_90 ⟨RM_T hM, fun h1 e1 => ?_⟩
      have hM1 : RM h1 m n σ := by subst e1; exact RM_code hM
      have e2 : am_I h1 224 m = 0 := by subst e1; rw [hp_I_sI, if_pos ⟨rfl, rfl⟩]
      rw [e2]
      exact ⟨RM_T hM1, fun _ => ⟨RM_T hM1, fun h2 e3 => hpos hno c h2 (by rw [e3, e1])⟩, fun z => absurd (Int32.le_refl _) z⟩
  | succ j ih =>
    intro q y2 y4 hq h8 hs
    refine bk_M_cycle_25 ⟨fun z => absurd z (nI_ge (a := q) (b := 136) (by omega) (by omega)), fun _ => ?_⟩
    have hw := h9 q (by omega)
    have := lp_M_cycle35 (d := d) (m := m) (n := n) (q := q) (Q := Q) hM hv ⟨h8, by omega⟩ hw h11 hbad (fun hs2 y2 y4 => ih (q + 1) y2 y4 (by omega) (by omega) (fun q' k a1 a2 a3 => ?_)) (σ 9 q).toNat 0 none (by omega) (fun k' hk' => by omega)
    · exact this
    · rcases Nat.lt_or_eq_of_le (Nat.lt_succ_iff.mp a2) with z | z
      · exact hs q' k a1 z a3
      · subst z; exact hs2 k a3
theorem sp_M_cycle {d m n : Nat} {v : Int} {h : am_H} {σ : sg} {Q : Option am_V → am_H → Prop} (hM : RM h m n σ) (hv : rJ v) (h9 : ∀ j, j < 136 → 0 ≤ σ 9 j ∧ σ 9 j ≤ 8) (h11 : ∀ j, j < 1088 → rJ (σ 11 j))
    (hbad : (v < 0 ∨ 1000000 < v ∨ wover σ v) → ∀ h', gM m n h σ h' → am_I h' 224 m = 0 → Q (some (.inl (-2))) h')
    (hzero : ¬ (v < 0 ∨ 1000000 < v ∨ wover σ v) → v = 0 → ∀ h', gM m n h σ h' → am_I h' 224 m = 1 → Q (some (.inl 0)) h')
    (hpos : ¬ (v < 0 ∨ 1000000 < v ∨ wover σ v) → ¬ v = 0 → ∀ h', gM m n h (am_u2 σ 0 1 v) h' → am_I h' 224 m = 0 → Q (some (.inl 1)) h') : am_PC (d + 1) mi_M_cycle [.inr (.inr m), .inr (.inl (jJ v))] h Q := by
  refine bk_M_cycle ⟨RM_T hM, fun h1 e1 => ?_⟩
  have g1 : gM m n h σ h1 := by subst e1; exact gM_code hM
  have ec : am_I h1 224 m = 0 := by subst e1; rw [hp_I_sI, if_pos ⟨rfl, rfl⟩]
  refine ek_if (cmp_lt (b := 0) hv (by unfold rJ; omega)) (fun q => hbad (Or.inl q) _ g1 ec) (fun q => ek_if (cmp_le (b := 1000000) hv (by unfold rJ; omega)) (fun q2 => ?_) (fun q2 => hbad (Or.inr (Or.inl (by omega))) _ g1 ec))
  refine lp_M_cycle25 g1.1 hv h9 h11 (fun w => hbad (Or.inr (Or.inr w)) _ g1 ec) (fun w z h2 e2 => ?_) (fun w z h2 e2 => ?_) 128 8 none none rfl (Nat.le_refl _) (fun q' k a1 a2 => by omega)
  · refine hzero (fun y => ?_) z h2 (gM_tr g1 (by subst e2; exact gM_code g1.1)) (by subst e2; rw [hp_I_sI, if_pos ⟨rfl, rfl⟩])
    rcases y with y | y | y
    · exact q y
    · omega
    · exact w y
  · have g3 : gM m n h1 σ (am_sI h1 224 m 0) := gM_code g1.1
    have g4 : gM m n (am_sI h1 224 m 0) (am_u2 σ 0 1 v) h2 := by subst e2; exact ⟨RM_cyc g3.1, kp_sJ (NM_0 m)⟩
    refine hpos (fun y => ?_) z h2 (gM_tr (gM_tr g1 g3) g4) (by subst e2; rw [hp_I_sJ, hp_I_sI, if_pos ⟨rfl, rfl⟩])
    rcases y with y | y | y
    · exact q y
    · omega
    · exact w y
theorem sp_M_thrown {d m n : Nat} {h : am_H} {σ : sg} {Q : Option am_V → am_H → Prop} (hM : RM h m n σ) (hQ : Q (some (.inl (am_I h 224 m))) h) : am_PC (d + 1) mi_M_thrown [.inr (.inr m)] h Q := bk_M_thrown ⟨RM_T hM, hQ⟩
end
section
/-! THE REFERENCE: time, open, may, begin -/
def f_time (σ : sg) (p f : Nat) : Int := if (8 * σ 15 f + 160) % σ 1 p = 0 then (8 * σ 15 f + 160) / σ 1 p else (8 * σ 15 f + 160) / σ 1 p + 1
theorem f_time_le {σ : sg} {p f : Nat} (h1 : 0 < σ 1 p ∧ σ 1 p ≤ 10000) (h15 : 64 ≤ σ 15 f ∧ σ 15 f ≤ 1522) : 1 ≤ f_time σ p f ∧ f_time σ p f ≤ 12337 := by
  have a1 : (8 * σ 15 f + 160) / σ 1 p ≤ 8 * σ 15 f + 160 := Int.ediv_le_self _ (by omega)
  have a2 : 0 ≤ (8 * σ 15 f + 160) / σ 1 p := Int.ediv_nonneg (by omega) (by omega)
  unfold f_time
  split
  · rename_i q
    refine ⟨?_, by omega⟩
    have a3 := Int.mul_ediv_add_emod (8 * σ 15 f + 160) (σ 1 p)
    rcases Int.lt_or_eq_of_le a2 with z | z
    · omega
    · rw [← z, q] at a3
      omega
  · omega
theorem sp_M_time {d m n p : Nat} {f : Int} {h : am_H} {σ : sg} {Q : Option am_V → am_H → Prop} (hM : RM h m n σ) (hp : p < 17) (hf : 0 ≤ f ∧ f ≤ 5000) (h1 : 0 < σ 1 p ∧ σ 1 p ≤ 10000) (h15 : 64 ≤ σ 15 f.toNat ∧ σ 15 f.toNat ≤ 1522) (hQ : Q (some (.inr (.inl (jJ (f_time σ p f.toNat))))) h) : am_PC (d + 1) mi_M_time [.inr (.inr m), .inl (nI p), .inl (iI f)] h Q := by
  refine bk_M_time ?_
  have hin : vp_in (nI p) 17 := vp_in_nI hp (by omega)
  rw [RM_R243 hM, RM_T15 hM, RM_N15 hM, iI_clamp hf.1 (by unfold rI; omega), RM_a15 hM, RM_R228 hM, RM_T1 hM, RM_N1 hM, nI_clamp (by omega), RM_a1 hM, iI_l (by unfold rI; omega), show (8 : Int64) = jJ 8 from rfl, jJ_mul, show (160 : Int64) = jJ 160 from rfl, jJ_add, jJ_mod (by omega) h1.1 (by unfold rJ; omega) (by unfold rJ; omega), jJ_div (by omega) h1.1 (by unfold rJ; omega) (by unfold rJ; omega), show (1 : Int64) = jJ 1 from rfl, jJ_add]
  have hne : ¬ jJ (σ 1 p) = 0 := fun z => by
    have := (jJ_eq (b := 0) (a := σ 1 p) (by unfold rJ; omega) (by unfold rJ; omega)).mp z
    omega
  have b1 : 0 ≤ (8 * σ 15 f.toNat + 160) % σ 1 p := Int.emod_nonneg _ (by omega)
  have b2 : (8 * σ 15 f.toNat + 160) % σ 1 p < σ 1 p := Int.emod_lt_of_pos _ h1.1
  refine ⟨RM_T hM, Or.inl rfl, iI_in hf.1 (by omega) (by omega), RM_T hM, rfl, hin, hne, ek_if (cmp_eq (b := 0) (by unfold rJ; omega) (by unfold rJ; omega)) (fun q => ⟨RM_T hM, rfl, hin, hne, ?_⟩) (fun q => ⟨RM_T hM, rfl, hin, hne, ?_⟩)⟩
  · unfold f_time at hQ
    rw [if_pos q] at hQ
    exact hQ
  · unfold f_time at hQ
    rw [if_neg q] at hQ
    exact hQ
/-- truth as the machine has it -/
def bI (b : Bool) : Int32 := if b then 1 else 0
theorem bI_or (b : Bool) : bI b = 0 ∨ bI b = 1 := by cases b <;> decide
theorem bI_t {b : Bool} : ¬ bI b = 0 ↔ b = true := by cases b <;> decide
theorem bI_f {b : Bool} : bI b = 0 ↔ b = false := by cases b <;> decide
/-- one of the first k windows has the time -/
def opw (σ : sg) (q : Nat) (t c : Int) : Nat → Bool
  | 0 => false
  | k + 1 => opw σ q t c k || (decide (σ 10 (8 * q + k) ≤ t) && decide (t + c ≤ σ 11 (8 * q + k)) && decide (t < σ 11 (8 * q + k)))
def f_open (σ : sg) (q : Nat) (t c : Int) : Bool := decide (σ 9 q = 0) || opw σ q t c (σ 9 q).toNat
theorem lp_M_open {d m n q : Nat} {t c : Int} {h : am_H} {σ : sg} {Q : Option am_V → am_H → Prop} (hM : RM h m n σ) (hq : q < 136) (h9 : 0 ≤ σ 9 q ∧ σ 9 q ≤ 8) (h10 : ∀ j, j < 1088 → rJ (σ 10 j)) (h11 : ∀ j, j < 1088 → rJ (σ 11 j)) (ht : 0 ≤ t ∧ t ≤ 1000000) (hc : 0 ≤ c ∧ c ≤ 20000)
    (hQ : Q (some (.inl (bI (f_open σ q t c)))) h) : ∀ (j k : Nat) (y3 y5 : Option am_V) (b : Bool), (k : Int) + j = σ 9 q → b = (decide (σ 9 q = 0) || opw σ q t c k) → am_P d mi_M_open 19 [some (.inr (.inr m)), some (.inl (nI q)), some (.inr (.inl (jJ t))), y3, some (.inr (.inl (jJ c))), y5, some (.inl (bI b)), some (.inl (nI k))] [] h Q := by
  intro j
  have hin : vp_in (nI q) 136 := vp_in_nI hq (by omega)
  induction j with
  | zero =>
    intro k y3 y5 b hk hb
    refine bk_M_open_19 ?_
    rw [RM_R236 hM, RM_T9 hM, RM_N9 hM, nI_clamp (by omega), RM_a9 hM]
    refine ⟨RM_T hM, Or.inl rfl, hin, fun _ => ⟨bI_or b, ?_⟩, fun z => absurd ?_ z⟩
    · rw [hb]
      unfold f_open at hQ
      rw [show (σ 9 q).toNat = k by omega] at hQ
      exact hQ
    · rw [← iI_nat k]
      exact (iI_le (by unfold rI; omega) (by unfold rI; omega)).mpr (by omega)
  | succ j ih =>
    intro k y3 y5 b hk hb
    have hin2 : vp_in (nI (8 * q + k)) 1088 := vp_in_nI (by omega) (by omega)
    have nz : ∀ x : Bool, (decide (σ 9 q = 0) || x) = x := fun x => by rw [decide_eq_false (by omega)]; rfl
    rw [nz] at hb
    refine bk_M_open_19 ?_
    rw [RM_R236 hM, RM_T9 hM, RM_N9 hM, nI_clamp (by omega), RM_a9 hM, nI_1 k, nI_q, RM_R237 hM, RM_T10 hM, RM_N10 hM, nI_clamp (by omega), RM_a10 hM, RM_R238 hM, RM_T11 hM, RM_N11 hM, RM_a11 hM, jJ_add]
    refine ⟨RM_T hM, Or.inl rfl, hin, fun z => ?_, fun _ => ⟨fun z => ?_, fun z => ?_⟩⟩
    · rw [← iI_nat k, iI_le (by unfold rI; omega) (by unfold rI; omega)] at z
      omega
    · have hbf := bI_f.mp z
      rw [hbf] at hb
      have nx : ∀ x : Bool, x = (decide (σ 10 (8 * q + k) ≤ t) && decide (t + c ≤ σ 11 (8 * q + k)) && decide (t < σ 11 (8 * q + k))) → am_P d mi_M_open 19 [some (.inr (.inr m)), some (.inl (nI q)), some (.inr (.inl (jJ t))), none, some (.inr (.inl (jJ c))), none, some (.inl (bI x)), some (.inl (nI (k + 1)))] [] h Q := fun x hx => ih (k + 1) _ _ x (by omega) (by rw [nz, opw, ← hb, Bool.false_or, hx])
      have b10 := h10 (8 * q + k) (by omega)
      have b11 := h11 (8 * q + k) (by omega)
      refine ⟨RM_T hM, rfl, hin2, ek_if (cmp_gt b10 (by unfold rJ; omega)) (fun c1 => nx false (by rw [decide_eq_false (by omega)]; rfl)) (fun c1 => ⟨RM_T hM, rfl, hin2, ek_if (cmp_lt b11 (by unfold rJ; omega)) (fun c2 => nx false (by rw [decide_eq_false (p := t + c ≤ σ 11 (8 * q + k)) (by omega), Bool.and_false, Bool.false_and])) (fun c2 => ⟨RM_T hM, rfl, hin2, ek_if (cmp_le b11 (by unfold rJ; omega)) (fun c3 => nx false (by rw [decide_eq_false (p := t < σ 11 (8 * q + k)) (by omega), Bool.and_false])) (fun c3 => nx true (by rw [decide_eq_true (by omega), decide_eq_true (by omega), decide_eq_true (by omega)]; rfl))⟩)⟩)⟩
    · have hbt := bI_t.mp z
      rw [hbt] at hb
      exact ih (k + 1) _ _ true (by omega) (by rw [nz, opw, ← hb, Bool.true_or])
theorem sp_M_open {d m n q : Nat} {t c : Int} {h : am_H} {σ : sg} {Q : Option am_V → am_H → Prop} (hM : RM h m n σ) (hq : q < 136) (h9 : 0 ≤ σ 9 q ∧ σ 9 q ≤ 8) (h10 : ∀ j, j < 1088 → rJ (σ 10 j)) (h11 : ∀ j, j < 1088 → rJ (σ 11 j)) (ht : 0 ≤ t ∧ t ≤ 1000000) (hc : 0 ≤ c ∧ c ≤ 20000)
    (hQ : Q (some (.inl (bI (f_open σ q t c)))) h) : am_PC (d + 1) mi_M_open [.inr (.inr m), .inl (nI q), .inr (.inl (jJ t)), .inr (.inl (jJ c))] h Q := by
  refine bk_M_open ?_
  rw [RM_R236 hM, RM_T9 hM, RM_N9 hM, nI_clamp (by omega), RM_a9 hM]
  have lp := lp_M_open (d := d) hM hq h9 h10 h11 ht hc hQ (σ 9 q).toNat 0 none none
  exact ⟨RM_T hM, Or.inl rfl, vp_in_nI hq (by omega), ek_if (iI_eq (b := 0) (by unfold rI; omega) (by unfold rI; omega)) (fun z => lp true (by omega) (by rw [decide_eq_true z]; rfl)) (fun z => lp false (by omega) (by rw [decide_eq_false z]; rfl))⟩
def f_may (σ : sg) (p r : Nat) : Bool := decide (¬ σ 7 (8 * p + r) = 0) && (decide (σ 12 (8 * p + r) = 0) || decide (0 ≤ σ 14 (8 * p + r))) && f_open σ (8 * p + r) ((σ 0 0 + σ 2 p) % σ 0 1) (f_time σ p (σ 8 (16 * (8 * p + r))).toNat)
/-- what the reference's cells keep to -/
def WM (σ : sg) : Prop := (0 ≤ σ 0 0 ∧ σ 0 0 ≤ 2000000) ∧ (1 ≤ σ 0 1 ∧ σ 0 1 ≤ 1000000) ∧ (0 ≤ σ 0 2 ∧ σ 0 2 ≤ 5000) ∧ (0 ≤ σ 0 3) ∧ (0 ≤ σ 0 4 ∧ σ 0 4 ≤ 5000) ∧
  (∀ j, j < 17 → 0 ≤ σ 1 j ∧ σ 1 j ≤ 10000) ∧ (∀ j, j < 17 → 0 ≤ σ 2 j ∧ σ 2 j ≤ 1000000) ∧ (∀ j, j < 17 → 0 ≤ σ 3 j ∧ σ 3 j ≤ 5000) ∧ (∀ j, j < 17 → 0 ≤ σ 4 j ∧ σ 4 j ≤ 7) ∧ (∀ j, j < 17 → 0 ≤ σ 5 j ∧ σ 5 j ≤ 2000000) ∧ (∀ j, j < 17 → 0 ≤ σ 6 j ∧ σ 6 j ≤ 3000000) ∧
  (∀ j, j < 136 → 0 ≤ σ 7 j ∧ σ 7 j ≤ 16) ∧ (∀ q k : Nat, q < 136 → (k : Int) < σ 7 q → 1 ≤ σ 8 (16 * q + k) ∧ σ 8 (16 * q + k) ≤ σ 0 2) ∧ (∀ j, j < 136 → 0 ≤ σ 9 j ∧ σ 9 j ≤ 8) ∧ (∀ j, j < 1088 → 0 ≤ σ 10 j ∧ σ 10 j ≤ 1000000) ∧ (∀ j, j < 1088 → 0 ≤ σ 11 j ∧ σ 11 j ≤ 1000000) ∧
  (∀ j, j < 136 → 0 ≤ σ 12 j ∧ σ 12 j ≤ 10000000) ∧ (∀ j, j < 136 → 0 ≤ σ 13 j ∧ σ 13 j ≤ 1000) ∧ (∀ j, j < 136 → -(10000000 * σ 0 0) ≤ σ 14 j ∧ σ 14 j ≤ 10000000 * σ 0 0) ∧ (∀ j : Nat, 1 ≤ j → (j : Int) ≤ σ 0 2 → 64 ≤ σ 15 j ∧ σ 15 j ≤ 1522) ∧
  (∀ j, j ≤ 1000 → 0 ≤ σ 16 j ∧ σ 16 j ≤ 16) ∧ (∀ j, j ≤ 1000 → -1 ≤ σ 17 j ∧ σ 17 j ≤ 2000000) ∧ (∀ j, j < 8008 → 0 ≤ σ 18 j ∧ σ 18 j ≤ 5001) ∧ (∀ j, j < 8008 → 0 ≤ σ 19 j ∧ σ 19 j ≤ 2000) ∧ (∀ j, j < 8008 → 0 ≤ σ 20 j ∧ σ 20 j ≤ 5000) ∧ (∀ j, j ≤ 100 → 0 ≤ σ 21 j ∧ σ 21 j ≤ 16) ∧ (∀ j, j ≤ 100 → 0 ≤ σ 22 j ∧ σ 22 j ≤ 3000000)
theorem sp_M_may {d m n p r : Nat} {h : am_H} {σ : sg} {Q : Option am_V → am_H → Prop} (hM : RM h m n σ) (hw : WM σ) (hp : 1 ≤ p ∧ p ≤ 16) (hr : r < 8) (hs : 0 < σ 1 p)
    (hQ : Q (some (.inl (bI (f_may σ p r)))) h) : am_PC (d + 2) mi_M_may [.inr (.inr m), .inl (nI p), .inl (nI r)] h Q := by
  obtain ⟨w0, w1, w2, w3, w4, a1, a2, a3, a4, a5, a6, a7, a8, a9, a10, a11, a12, a13, a14, a15, a16, a17, a18, a19, a20, a21, a22⟩ := hw
  have hin : vp_in (nI (8 * p + r)) 136 := vp_in_nI (by omega) (by omega)
  have hin1 : vp_in (nI p) 17 := vp_in_nI (by omega) (by omega)
  have b1 := a1 p (by omega)
  have b2 := a2 p (by omega)
  have b7 := a7 (8 * p + r) (by omega)
  have b12 := a12 (8 * p + r) (by omega)
  have b14 := a14 (8 * p + r) (by omega)
  have hq : ∀ b : Bool, b = f_may σ p r → Q (some (.inl (bI b))) h := fun b e => by rw [e]; exact hQ
  refine bk_M_may ?_
  rw [nI_q, nI_clamp (by omega), RM_R234 hM, RM_T7 hM, RM_N7 hM, RM_a7 hM, RM_R239 hM, RM_T12 hM, RM_N12 hM, RM_a12 hM, RM_R241 hM, RM_T14 hM, RM_N14 hM, RM_a14 hM]
  refine ⟨RM_T hM, Or.inl rfl, hin, ek_if (iI_eq (b := 0) (by unfold rI; omega) (by unfold rI; omega)) (fun c => ⟨Or.inl rfl, hq false (by unfold f_may; rw [decide_eq_false (p := ¬ σ 7 (8 * p + r) = 0) (by omega)]; rfl)⟩) (fun c => ⟨RM_T hM, rfl, hin, ?_⟩)⟩
  have b8 := a8 (8 * p + r) 0 (by omega) (by omega)
  rw [Nat.add_zero] at b8
  have rest : ∀ b : Bool, b = (decide (σ 12 (8 * p + r) = 0) || decide (0 ≤ σ 14 (8 * p + r))) → am_P (d + 1) mi_M_may 45 [some (.inr (.inr m)), some (.inl (nI p)), some (.inl (nI r)), some (.inl (nI (8 * p + r))), none] [.inl (bI b)] h Q := by
    intro b hb
    refine bk_M_may_45 ⟨fun z => ⟨Or.inl rfl, hq false ?_⟩, fun z => ?_⟩
    · unfold f_may
      rw [← hb, bI_f.mp z, Bool.and_false, Bool.false_and]
    · have hbt := bI_t.mp z
      have hne : ¬ jJ (σ 0 1) = 0 := fun z => by
        have := (jJ_eq (b := 0) (a := σ 0 1) (by unfold rJ; omega) (by unfold rJ; omega)).mp z
        omega
      have e16 : (16 : Int32) * nI (8 * p + r) = nI (16 * (8 * p + r)) := pk_mul 16 _
      rw [RM_R229 hM, RM_T2 hM, RM_N2 hM, RM_J226 hM, RM_R235 hM, RM_T8 hM, RM_N8 hM, e16, nI_clamp (by omega), nI_clamp (by omega), RM_a8 hM, RM_J227 hM, RM_a2 hM, jJ_add, jJ_mod (by omega) (by omega) (by unfold rJ; omega) (by unfold rJ; omega)]
      refine ⟨RM_T hM, RM_T hM, rfl, hin1, RM_T hM, hne, RM_T hM, Or.inl rfl, vp_in_nI (by omega) (by omega), RM_T hM, ?_⟩
      have e15 : ((σ 8 (16 * (8 * p + r))).toNat : Int) = σ 8 (16 * (8 * p + r)) := by omega
      have b15 := a15 (σ 8 (16 * (8 * p + r))).toNat (by omega) (by omega)
      have m1 : 0 ≤ (σ 0 0 + σ 2 p) % σ 0 1 := Int.emod_nonneg _ (by omega)
      have m2 : (σ 0 0 + σ 2 p) % σ 0 1 < σ 0 1 := Int.emod_lt_of_pos _ (by omega)
      have ft := f_time_le (σ := σ) (p := p) (f := (σ 8 (16 * (8 * p + r))).toNat) ⟨hs, b1.2⟩ b15
      refine sp_M_time hM (by omega) (by omega) ⟨hs, b1.2⟩ b15 ⟨_, rfl, RM_T hM, sp_M_open hM (by omega) (a9 _ (by omega)) (fun j hj => by have := a10 j hj; unfold rJ; omega) (fun j hj => by have := a11 j hj; unfold rJ; omega) ⟨m1, by omega⟩ (by omega) ⟨_, rfl, fun z2 => ⟨Or.inl rfl, hq false ?_⟩, fun z2 => ⟨Or.inr rfl, hq true ?_⟩⟩⟩
      · unfold f_may
        rw [bI_f.mp z2, Bool.and_false]
      · unfold f_may
        rw [bI_t.mp z2, ← hb, hbt, decide_eq_true c]
        rfl
  exact ek_if (cmp_eq (b := 0) (by unfold rJ; omega) (by unfold rJ; omega)) (fun c1 => rest true (by rw [decide_eq_true c1]; rfl)) (fun c1 => ⟨RM_T hM, rfl, hin, ek_if (cmp_lt (b := 0) (by unfold rJ; omega) (by unfold rJ; omega)) (fun c2 => rest false (by rw [decide_eq_false c1, decide_eq_false (by omega)]; rfl)) (fun c2 => rest true (by rw [decide_eq_true (p := 0 ≤ σ 14 (8 * p + r)) (by omega), Bool.or_true]))⟩)
/-- a queue's first is taken: the first k of the rest have moved -/
def bshift (σ : sg) (q : Nat) : Nat → sg
  | 0 => σ
  | k + 1 => am_u2 (bshift σ q k) 8 (16 * q + k) (σ 8 (16 * q + k + 1))
theorem bshift_ne {σ : sg} {q k j j' : Nat} (h : ¬ j = 8) : bshift σ q k j j' = σ j j' := by
  induction k with
  | zero => rfl
  | succ k ih => rw [bshift, u2_ne h, ih]
theorem bshift_ge {σ : sg} {q k j : Nat} (h : 16 * q + k ≤ j ∨ j < 16 * q) : bshift σ q k 8 j = σ 8 j := by
  induction k with
  | zero => rfl
  | succ k ih => rw [bshift, u2_nj (by omega), ih (by omega)]
theorem bshift_lt {σ : sg} {q k j : Nat} (h : j < k) : bshift σ q k 8 (16 * q + j) = σ 8 (16 * q + j + 1) := by
  induction k with
  | zero => omega
  | succ k ih =>
    rw [bshift]
    by_cases hj : j = k
    · subst hj; rw [u2_eq]
    · rw [u2_nj (by omega), ih (by omega)]
def f_beg0 (σ : sg) (p r : Nat) : sg := am_u2 (am_u2 (am_u2 (am_u2 (am_u2 σ 3 p (σ 8 (16 * (8 * p + r)))) 4 p r) 5 p (σ 0 0)) 6 p (σ 0 0 + f_time σ p (σ 8 (16 * (8 * p + r))).toNat)) 7 (8 * p + r) (σ 7 (8 * p + r) - 1)
def f_begin (σ : sg) (p r : Nat) : sg := bshift (f_beg0 σ p r) (8 * p + r) (σ 7 (8 * p + r) - 1).toNat
theorem lp_M_begin {d m n q : Nat} {h0 : am_H} {σ : sg} {Q : Option am_V → am_H → Prop} (hq : q < 136) (h7 : 0 ≤ σ 7 q ∧ σ 7 q ≤ 15) (hQ : ∀ h', gM m n h0 (bshift σ q (σ 7 q).toNat) h' → Q none h') : ∀ (j k : Nat) (h : am_H) (y1 y2 : Option am_V), (k : Int) + j = σ 7 q → gM m n h0 (bshift σ q k) h → am_P d mi_M_begin 74 [some (.inr (.inr m)), y1, y2, some (.inl (nI q)), some (.inl (nI k))] [] h Q := by
  intro j
  have hin : vp_in (nI q) 136 := vp_in_nI hq (by omega)
  induction j with
  | zero =>
    intro k h y1 y2 hk g
    have hM := g.1
    refine bk_M_begin_74 ?_
    rw [RM_R234 hM, RM_T7 hM, RM_N7 hM, nI_clamp (by omega), RM_a7 hM, bshift_ne (by decide)]
    refine ⟨RM_T hM, Or.inl rfl, hin, fun _ => hQ h (by rw [show (σ 7 q).toNat = k by omega]; exact g), fun z => absurd ?_ z⟩
    rw [← iI_nat k]
    exact (iI_le (by unfold rI; omega) (by unfold rI; omega)).mpr (by omega)
  | succ j ih =>
    intro k h y1 y2 hk g
    have hM := g.1
    refine bk_M_begin_74 ?_
    rw [RM_R234 hM, RM_T7 hM, RM_N7 hM, nI_clamp (by omega), RM_a7 hM, bshift_ne (by decide), nI_q16, nI_1 k, nI_1, RM_R235 hM, RM_T8 hM, RM_N8 hM, nI_clamp (by omega), nI_clamp (by omega), RM_a8 hM, bshift_ge (Or.inl (by omega))]
    refine ⟨RM_T hM, Or.inl rfl, hin, fun z => ?_, fun _ => ⟨RM_T hM, RM_T hM, Or.inl rfl, vp_in_nI (by omega) (by omega), rfl, vp_in_nI (by omega) (by omega), fun h1 e1 => ?_⟩⟩
    · rw [← iI_nat k, iI_le (by unfold rI; omega) (by unfold rI; omega)] at z
      omega
    · have g1 : gM m n h (bshift σ q (k + 1)) h1 := by subst e1; exact gM_xI hM (by decide) rfl
      exact ih (k + 1) h1 _ _ (by omega) (gM_tr g g1)
theorem sp_M_begin {d m n p r : Nat} {h : am_H} {σ : sg} {Q : Option am_V → am_H → Prop} (hM : RM h m n σ) (hw : WM σ) (hp : 1 ≤ p ∧ p ≤ 16) (hr : r < 8) (hs : 0 < σ 1 p) (h7 : 0 < σ 7 (8 * p + r))
    (hQ : ∀ h', gM m n h (f_begin σ p r) h' → Q none h') : am_PC (d + 2) mi_M_begin [.inr (.inr m), .inl (nI p), .inl (nI r)] h Q := by
  obtain ⟨w0, w1, w2, w3, w4, a1, a2, a3, a4, a5, a6, a7, a8, a9, a10, a11, a12, a13, a14, a15, a16, a17, a18, a19, a20, a21, a22⟩ := hw
  have hin : vp_in (nI (8 * p + r)) 136 := vp_in_nI (by omega) (by omega)
  have hin1 : vp_in (nI p) 17 := vp_in_nI (by omega) (by omega)
  have b1 := a1 p (by omega)
  have b7 := a7 (8 * p + r) (by omega)
  have b8 := a8 (8 * p + r) 0 (by omega) (by omega)
  rw [Nat.add_zero] at b8
  have b15 := a15 (σ 8 (16 * (8 * p + r))).toNat (by omega) (by omega)
  have ft := f_time_le (σ := σ) (p := p) (f := (σ 8 (16 * (8 * p + r))).toNat) ⟨hs, b1.2⟩ b15
  have e16 : (16 : Int32) * nI (8 * p + r) = nI (16 * (8 * p + r)) := pk_mul 16 _
  refine bk_M_begin ?_
  rw [nI_q, e16, nI_clamp (by omega), nI_clamp (by omega), nI_clamp (by omega), RM_R235 hM, RM_T8 hM, RM_N8 hM, RM_a8 hM, RM_R230 hM, RM_T3 hM, RM_N3 hM]
  refine ⟨RM_T hM, RM_T hM, Or.inl rfl, vp_in_nI (by omega) (by omega), rfl, hin1, fun h1 e1 => ?_⟩
  have g1 : gM m n h (am_u2 σ 3 p (σ 8 (16 * (8 * p + r)))) h1 := by subst e1; exact gM_xI hM (by decide) rfl
  have hM1 := g1.1
  rw [RM_R231 hM1, RM_T4 hM1, RM_N4 hM1]
  refine ⟨RM_T hM1, rfl, hin1, fun h2 e2 => ?_⟩
  have g2 : gM m n h1 (am_u2 (am_u2 σ 3 p (σ 8 (16 * (8 * p + r)))) 4 p r) h2 := by subst e2; rw [← iI_nat]; exact gM_xI hM1 (by decide) rfl
  have hM2 := g2.1
  rw [RM_R232 hM2, RM_T5 hM2, RM_N5 hM2, RM_J227 hM2, u2_ne (by decide), u2_ne (by decide)]
  refine ⟨RM_T hM2, RM_T hM2, rfl, hin1, fun h3 e3 => ?_⟩
  have g3 : gM m n h2 (am_u2 (am_u2 (am_u2 σ 3 p (σ 8 (16 * (8 * p + r)))) 4 p r) 5 p (σ 0 0)) h3 := by subst e3; exact gM_xJ hM2 (by decide) rfl
  have hM3 := g3.1
  rw [RM_R230 hM3, RM_T3 hM3, RM_N3 hM3, RM_a3 hM3, u2_ne (by decide), u2_ne (by decide), u2_eq, RM_J227 hM3, u2_ne (by decide), u2_ne (by decide), u2_ne (by decide), RM_R233 hM3]
  have et : f_time (am_u2 (am_u2 (am_u2 σ 3 p (σ 8 (16 * (8 * p + r)))) 4 p r) 5 p (σ 0 0)) p (σ 8 (16 * (8 * p + r))).toNat = f_time σ p (σ 8 (16 * (8 * p + r))).toNat := by
    unfold f_time
    simp only [u2_ne (show ¬ 15 = 3 by decide), u2_ne (show ¬ 15 = 4 by decide), u2_ne (show ¬ 15 = 5 by decide), u2_ne (show ¬ 1 = 3 by decide), u2_ne (show ¬ 1 = 4 by decide), u2_ne (show ¬ 1 = 5 by decide)]
  have s1 : ∀ j, am_u2 (am_u2 (am_u2 σ 3 p (σ 8 (16 * (8 * p + r)))) 4 p r) 5 p (σ 0 0) 1 j = σ 1 j := fun j => by rw [u2_ne (by decide), u2_ne (by decide), u2_ne (by decide)]
  have s15 : ∀ j, am_u2 (am_u2 (am_u2 σ 3 p (σ 8 (16 * (8 * p + r)))) 4 p r) 5 p (σ 0 0) 15 j = σ 15 j := fun j => by rw [u2_ne (by decide), u2_ne (by decide), u2_ne (by decide)]
  refine ⟨RM_T hM3, RM_T hM3, RM_T hM3, Or.inl rfl, hin1, RM_T hM3, sp_M_time hM3 (by omega) (by omega) (by rw [s1]; omega) (by rw [s15]; exact b15) ⟨_, rfl, ?_⟩⟩
  rw [RM_T6 hM3, RM_N6 hM3, et, jJ_add]
  refine ⟨rfl, hin1, fun h7' e7 => ?_⟩
  have g7 : gM m n h3 (am_u2 (am_u2 (am_u2 (am_u2 σ 3 p (σ 8 (16 * (8 * p + r)))) 4 p r) 5 p (σ 0 0)) 6 p (σ 0 0 + f_time σ p (σ 8 (16 * (8 * p + r))).toNat)) h7' := by subst e7; exact gM_xJ hM3 (by decide) rfl
  have hM7 := g7.1
  rw [RM_R234 hM7, RM_T7 hM7, RM_N7 hM7, RM_a7 hM7, u2_ne (by decide), u2_ne (by decide), u2_ne (by decide), u2_ne (by decide), show (1 : Int32) = iI 1 from rfl, iI_sub]
  refine ⟨RM_T hM7, rfl, rfl, Or.inl rfl, hin, rfl, hin, fun h8 e8 => ?_⟩
  have g8 : gM m n h7' (f_beg0 σ p r) h8 := by subst e8; exact gM_xI (k := 7) hM7 (by decide) rfl
  have e78 : f_beg0 σ p r 7 (8 * p + r) = σ 7 (8 * p + r) - 1 := u2_eq
  refine lp_M_begin (σ := f_beg0 σ p r) (h0 := h8) (by omega) (by rw [e78]; omega) (fun h9 g9 => ?_) (σ 7 (8 * p + r) - 1).toNat 0 h8 _ _ (by rw [e78]; omega) (gM_rf g8.1)
  rw [e78] at g9
  exact hQ h9 (gM_tr (gM_tr (gM_tr (gM_tr (gM_tr (gM_tr g1 g2) g3) g7) g8) g9) (gM_rf g9.1))
end
section
/-! RANGES of the state, so that they are easily kept -/
def wlo (k : Nat) : Int := if k = 17 then -1 else 0
def whi (k : Nat) : Int := [0, 10000, 1000000, 5000, 7, 2000000, 3000000, 16, 0, 8, 1000000, 1000000, 10000000, 1000, 0, 0, 16, 2000000, 5001, 2000, 5000, 16, 3000000].getD k 0
def WB (σ : sg) : Prop := ∀ k j, 1 ≤ k → k ≤ 22 → ¬ k = 8 → ¬ k = 14 → ¬ k = 15 → ¬ k = 20 → j < nM k → wlo k ≤ σ k j ∧ σ k j ≤ whi k
def WS (σ : sg) : Prop := (0 ≤ σ 0 0 ∧ σ 0 0 ≤ 2000000) ∧ (1 ≤ σ 0 1 ∧ σ 0 1 ≤ 1000000) ∧ (0 ≤ σ 0 2 ∧ σ 0 2 ≤ 5000) ∧ (0 ≤ σ 0 3) ∧ (0 ≤ σ 0 4 ∧ σ 0 4 ≤ 5000) ∧ WB σ ∧ (∀ q k : Nat, q < 136 → (k : Int) < σ 7 q → 1 ≤ σ 8 (16 * q + k) ∧ σ 8 (16 * q + k) ≤ σ 0 2) ∧ (∀ j, j < 136 → -(10000000 * σ 0 0) ≤ σ 14 j ∧ σ 14 j ≤ 10000000 * σ 0 0) ∧ (∀ j : Nat, 1 ≤ j → (j : Int) ≤ σ 0 2 → 64 ≤ σ 15 j ∧ σ 15 j ≤ 1522) ∧ (∀ j, j < 8008 → 0 ≤ σ 20 j ∧ σ 20 j ≤ σ 0 2)
theorem WM_of {σ : sg} (h : WS σ) : WM σ := by
  obtain ⟨w0, w1, w2, w3, w4, b, q, c, l, t⟩ := h
  exact ⟨w0, w1, w2, w3, w4, fun j hj => b 1 j (by decide) (by decide) (by decide) (by decide) (by decide) (by decide) hj, fun j hj => b 2 j (by decide) (by decide) (by decide) (by decide) (by decide) (by decide) hj, fun j hj => b 3 j (by decide) (by decide) (by decide) (by decide) (by decide) (by decide) hj, fun j hj => b 4 j (by decide) (by decide) (by decide) (by decide) (by decide) (by decide) hj, fun j hj => b 5 j (by decide) (by decide) (by decide) (by decide) (by decide) (by decide) hj, fun j hj => b 6 j (by decide) (by decide) (by decide) (by decide) (by decide) (by decide) hj, fun j hj => b 7 j (by decide) (by decide) (by decide) (by decide) (by decide) (by decide) hj, q, fun j hj => b 9 j (by decide) (by decide) (by decide) (by decide) (by decide) (by decide) hj, fun j hj => b 10 j (by decide) (by decide) (by decide) (by decide) (by decide) (by decide) hj, fun j hj => b 11 j (by decide) (by decide) (by decide) (by decide) (by decide) (by decide) hj, fun j hj => b 12 j (by decide) (by decide) (by decide) (by decide) (by decide) (by decide) hj, fun j hj => b 13 j (by decide) (by decide) (by decide) (by decide) (by decide) (by decide) hj, c, l,
    fun j hj => b 16 j (by decide) (by decide) (by decide) (by decide) (by decide) (by decide) (Nat.lt_succ_of_le hj), fun j hj => b 17 j (by decide) (by decide) (by decide) (by decide) (by decide) (by decide) (Nat.lt_succ_of_le hj), fun j hj => b 18 j (by decide) (by decide) (by decide) (by decide) (by decide) (by decide) hj, fun j hj => b 19 j (by decide) (by decide) (by decide) (by decide) (by decide) (by decide) hj, fun j hj => by have := t j hj; omega, fun j hj => b 21 j (by decide) (by decide) (by decide) (by decide) (by decide) (by decide) (Nat.lt_succ_of_le hj), fun j hj => b 22 j (by decide) (by decide) (by decide) (by decide) (by decide) (by decide) (Nat.lt_succ_of_le hj)⟩
theorem WB_u2 {σ : sg} {k j : Nat} {v : Int} (h : WB σ) (hv : wlo k ≤ v ∧ v ≤ whi k) : WB (am_u2 σ k j v) := by
  intro k' j' h1 h2 h3 h4 h5 h7 h6
  unfold am_u2
  by_cases hc : k' = k ∧ j' = j
  · rw [if_pos hc, hc.1]; exact hv
  · rw [if_neg hc]; exact h k' j' h1 h2 h3 h4 h5 h7 h6
theorem WB_un {σ : sg} {k j : Nat} {v : Int} (h : WB σ) (hk : k = 0 ∨ k = 8 ∨ k = 14 ∨ k = 15 ∨ k = 20 ∨ 22 < k) : WB (am_u2 σ k j v) := by
  intro k' j' h1 h2 h3 h4 h5 h7 h6
  rw [u2_ne (by omega)]
  exact h k' j' h1 h2 h3 h4 h5 h7 h6
theorem WS_u2 {σ : sg} {k j : Nat} {v : Int} (h : WS σ) (hk : 1 ≤ k ∧ ¬ k = 7 ∧ ¬ k = 8 ∧ ¬ k = 14 ∧ ¬ k = 15 ∧ ¬ k = 20) (hv : wlo k ≤ v ∧ v ≤ whi k) : WS (am_u2 σ k j v) := by
  obtain ⟨w0, w1, w2, w3, w4, b, q, c, l, t⟩ := h
  unfold WS
  simp only [u2_ne (show ¬ 0 = k by omega), u2_ne (show ¬ 7 = k by omega), u2_ne (show ¬ 8 = k by omega), u2_ne (show ¬ 14 = k by omega), u2_ne (show ¬ 15 = k by omega), u2_ne (show ¬ 20 = k by omega)]
  exact ⟨w0, w1, w2, w3, w4, WB_u2 b hv, q, c, l, t⟩
theorem WS_un {σ : sg} {k j : Nat} {v : Int} (h : WS σ) (hk : 22 < k) : WS (am_u2 σ k j v) := by
  obtain ⟨w0, w1, w2, w3, w4, b, q, c, l, t⟩ := h
  unfold WS
  simp only [u2_ne (show ¬ 0 = k by omega), u2_ne (show ¬ 7 = k by omega), u2_ne (show ¬ 8 = k by omega), u2_ne (show ¬ 14 = k by omega), u2_ne (show ¬ 15 = k by omega), u2_ne (show ¬ 20 = k by omega)]
  exact ⟨w0, w1, w2, w3, w4, WB_un b (by omega), q, c, l, t⟩
theorem WS_20 {σ : sg} {j : Nat} {v : Int} (h : WS σ) (hv : 0 ≤ v ∧ v ≤ σ 0 2) : WS (am_u2 σ 20 j v) := by
  obtain ⟨w0, w1, w2, w3, w4, b, q, c, l, t⟩ := h
  unfold WS
  simp only [u2_ne (show ¬ 0 = 20 by decide), u2_ne (show ¬ 7 = 20 by decide), u2_ne (show ¬ 8 = 20 by decide), u2_ne (show ¬ 14 = 20 by decide), u2_ne (show ¬ 15 = 20 by decide)]
  refine ⟨w0, w1, w2, w3, w4, WB_un b (by omega), q, c, l, fun j' hj => ?_⟩
  by_cases hc : j' = j
  · subst hc; rw [u2_eq]; exact hv
  · rw [u2_nj hc]; exact t j' hj
theorem WS_03 {σ : sg} {v : Int} (h : WS σ) (hv : 0 ≤ v) : WS (am_u2 σ 0 3 v) := by
  obtain ⟨w0, w1, w2, w3, w4, b, q, c, l, t⟩ := h
  unfold WS
  simp only [u2_ne (show ¬ 7 = 0 by decide), u2_ne (show ¬ 8 = 0 by decide), u2_ne (show ¬ 14 = 0 by decide), u2_ne (show ¬ 15 = 0 by decide), u2_ne (show ¬ 20 = 0 by decide), u2_nj (show ¬ 0 = 3 by decide), u2_nj (show ¬ 1 = 3 by decide), u2_nj (show ¬ 2 = 3 by decide), u2_nj (show ¬ 4 = 3 by decide), u2_eq]
  exact ⟨w0, w1, w2, hv, w4, WB_un b (by omega), q, c, l, t⟩
theorem WS_04 {σ : sg} {v : Int} (h : WS σ) (hv : 0 ≤ v ∧ v ≤ 5000) : WS (am_u2 σ 0 4 v) := by
  obtain ⟨w0, w1, w2, w3, w4, b, q, c, l, t⟩ := h
  unfold WS
  simp only [u2_ne (show ¬ 7 = 0 by decide), u2_ne (show ¬ 8 = 0 by decide), u2_ne (show ¬ 14 = 0 by decide), u2_ne (show ¬ 15 = 0 by decide), u2_ne (show ¬ 20 = 0 by decide), u2_nj (show ¬ 0 = 4 by decide), u2_nj (show ¬ 1 = 4 by decide), u2_nj (show ¬ 2 = 4 by decide), u2_nj (show ¬ 3 = 4 by decide), u2_eq]
  exact ⟨w0, w1, w2, w3, hv, WB_un b (by omega), q, c, l, t⟩
theorem WS_01 {σ : sg} {v : Int} (h : WS σ) (hv : 1 ≤ v ∧ v ≤ 1000000) : WS (am_u2 σ 0 1 v) := by
  obtain ⟨w0, w1, w2, w3, w4, b, q, c, l, t⟩ := h
  unfold WS
  simp only [u2_ne (show ¬ 7 = 0 by decide), u2_ne (show ¬ 8 = 0 by decide), u2_ne (show ¬ 14 = 0 by decide), u2_ne (show ¬ 15 = 0 by decide), u2_ne (show ¬ 20 = 0 by decide), u2_nj (show ¬ 0 = 1 by decide), u2_nj (show ¬ 4 = 1 by decide), u2_nj (show ¬ 2 = 1 by decide), u2_nj (show ¬ 3 = 1 by decide), u2_eq]
  exact ⟨w0, hv, w2, w3, w4, WB_un b (by omega), q, c, l, t⟩
/-- a frame more, with its length -/
theorem WS_02 {σ : sg} {v : Int} (h : WS σ) (hv : 64 ≤ v ∧ v ≤ 1522) (hf : ¬ σ 0 2 = 5000) : WS (am_u2 (am_u2 σ 0 2 (σ 0 2 + 1)) 15 (σ 0 2 + 1).toNat v) := by
  obtain ⟨w0, w1, w2, w3, w4, b, q, c, l, t⟩ := h
  unfold WS
  simp only [u2_ne (show ¬ 7 = 0 by decide), u2_ne (show ¬ 8 = 0 by decide), u2_ne (show ¬ 14 = 0 by decide), u2_ne (show ¬ 15 = 0 by decide), u2_ne (show ¬ 20 = 0 by decide), u2_ne (show ¬ 7 = 15 by decide), u2_ne (show ¬ 8 = 15 by decide), u2_ne (show ¬ 14 = 15 by decide), u2_ne (show ¬ 0 = 15 by decide), u2_ne (show ¬ 20 = 15 by decide), u2_nj (show ¬ 0 = 2 by decide), u2_nj (show ¬ 4 = 2 by decide), u2_nj (show ¬ 1 = 2 by decide), u2_nj (show ¬ 3 = 2 by decide), u2_eq]
  refine ⟨w0, w1, by omega, w3, w4, WB_un (WB_un b (by omega)) (by omega), fun a k ha hk => ?_, c, fun j j1 j2 => ?_, fun j hj => by have := t j hj; omega⟩
  · have := q a k ha hk
    omega
  · by_cases hj : j = (σ 0 2 + 1).toNat
    · subst hj; rw [u2_eq]; exact hv
    · rw [u2_nj hj, u2_ne (by decide)]
      exact l j j1 (by omega)
/-- a queue one longer -/
theorem WS_enq {σ : sg} {a : Nat} {v : Int} (h : WS σ) (ha : a < 136) (hs : ¬ σ 7 a = 16) (hv : 1 ≤ v ∧ v ≤ σ 0 2) : WS (am_u2 (am_u2 σ 8 (16 * a + (σ 7 a).toNat) v) 7 a (σ 7 a + 1)) := by
  obtain ⟨w0, w1, w2, w3, w4, b, q, c, l, t⟩ := h
  have b7 := b 7 a (by decide) (by decide) (by decide) (by decide) (by decide) (by decide) ha
  have c7 : (0 : Int) ≤ σ 7 a ∧ σ 7 a ≤ 16 := b7
  unfold WS
  simp only [u2_ne (show ¬ 0 = 8 by decide), u2_ne (show ¬ 14 = 8 by decide), u2_ne (show ¬ 15 = 8 by decide), u2_ne (show ¬ 0 = 7 by decide), u2_ne (show ¬ 8 = 7 by decide), u2_ne (show ¬ 14 = 7 by decide), u2_ne (show ¬ 15 = 7 by decide), u2_ne (show ¬ 20 = 7 by decide), u2_ne (show ¬ 20 = 8 by decide), bshift_ne (show ¬ 20 = 8 by decide)]
  refine ⟨w0, w1, w2, w3, w4, WB_u2 (WB_un b (by omega)) (show (0 : Int) ≤ σ 7 a + 1 ∧ σ 7 a + 1 ≤ 16 by omega), fun a' k ha' hk => ?_, c, l, t⟩
  by_cases he : a' = a
  · subst he
    rw [u2_eq] at hk
    by_cases hz : k = (σ 7 a').toNat
    · subst hz; rw [u2_eq]; exact hv
    · rw [u2_nj (by omega)]
      exact q a' k ha (by omega)
  · rw [u2_nj he, u2_ne (by decide)] at hk
    have d7 : (0 : Int) ≤ σ 7 a' ∧ σ 7 a' ≤ 16 := b 7 a' (by decide) (by decide) (by decide) (by decide) (by decide) (by decide) ha'
    rw [u2_nj (by omega)]
    exact q a' k ha' hk
/-- a queue without its first -/
theorem WS_deq {σ : sg} {a : Nat} (h : WS σ) (ha : a < 136) (hs : 0 < σ 7 a) : WS (bshift (am_u2 σ 7 a (σ 7 a - 1)) a (σ 7 a - 1).toNat) := by
  obtain ⟨w0, w1, w2, w3, w4, b, q, c, l, t⟩ := h
  have c7 : (0 : Int) ≤ σ 7 a ∧ σ 7 a ≤ 16 := b 7 a (by decide) (by decide) (by decide) (by decide) (by decide) (by decide) ha
  unfold WS
  simp only [bshift_ne (show ¬ 0 = 8 by decide), bshift_ne (show ¬ 7 = 8 by decide), bshift_ne (show ¬ 14 = 8 by decide), bshift_ne (show ¬ 15 = 8 by decide), u2_ne (show ¬ 0 = 7 by decide), u2_ne (show ¬ 14 = 7 by decide), u2_ne (show ¬ 15 = 7 by decide), u2_ne (show ¬ 20 = 7 by decide), u2_ne (show ¬ 20 = 8 by decide), bshift_ne (show ¬ 20 = 8 by decide)]
  refine ⟨w0, w1, w2, w3, w4, fun k' j' h1 h2 h3 h4 h5 h7 h6 => ?_, fun a' k ha' hk => ?_, c, l, t⟩
  · rw [bshift_ne h3]
    exact WB_u2 b (show (0 : Int) ≤ σ 7 a - 1 ∧ σ 7 a - 1 ≤ 16 by omega) k' j' h1 h2 h3 h4 h5 h7 h6
  · by_cases he : a' = a
    · subst he
      rw [u2_eq] at hk
      rw [bshift_lt (by omega), u2_ne (by decide)]
      exact q a' (k + 1) ha' (by omega)
    · rw [u2_nj he] at hk
      have d7 : (0 : Int) ≤ σ 7 a' ∧ σ 7 a' ≤ 16 := b 7 a' (by decide) (by decide) (by decide) (by decide) (by decide) (by decide) ha'
      rw [bshift_ge (by omega), u2_ne (by decide)]
      exact q a' k ha' hk
/-! THE REFERENCE: enter, frame -/
def f_enter (σ : sg) (q : Nat) (F : Int) : Int × sg := if σ 7 q = 16 then (0, am_u2 σ 24 0 (σ 24 0 + 1)) else (F, am_u2 (am_u2 σ 8 (16 * q + (σ 7 q).toNat) F) 7 q (σ 7 q + 1))
theorem f_enter_ne {σ : sg} {q k j : Nat} {F : Int} (h : ¬ k = 7 ∧ ¬ k = 8 ∧ ¬ k = 24) : (f_enter σ q F).2 k j = σ k j := by
  unfold f_enter
  split
  · exact u2_ne h.2.2
  · show am_u2 _ _ _ _ _ _ = _
    rw [u2_ne h.1, u2_ne h.2.1]
theorem f_enter_WS {σ : sg} {q : Nat} {F : Int} (h : WS σ) (hq : q < 136) (hF : 1 ≤ F ∧ F ≤ σ 0 2) : WS (f_enter σ q F).2 := by
  unfold f_enter
  split
  · exact WS_un h (by decide)
  · rename_i c
    exact WS_enq h hq c hF
theorem sp_M_enter {d m n p r : Nat} {F : Int} {h : am_H} {σ : sg} {Q : Option am_V → am_H → Prop} (hM : RM h m n σ) (hp : 1 ≤ p ∧ p ≤ 16) (hr : r < 8) (h7 : 0 ≤ σ 7 (8 * p + r) ∧ σ 7 (8 * p + r) ≤ 16)
    (hQ : ∀ h', gM m n h (f_enter σ (8 * p + r) F).2 h' → Q (some (.inl (iI (f_enter σ (8 * p + r) F).1))) h') : am_PC (d + 1) mi_M_enter [.inr (.inr m), .inl (nI p), .inl (nI r), .inl (iI F)] h Q := by
  have hq : ∀ (x : Int × sg) h', f_enter σ (8 * p + r) F = x → gM m n h x.2 h' → Q (some (.inl (iI x.1))) h' := fun x h' e g => by subst e; exact hQ h' g
  have hin : vp_in (nI (8 * p + r)) 136 := vp_in_nI (by omega) (by omega)
  have e16 : (16 : Int32) * nI (8 * p + r) + iI (σ 7 (8 * p + r)) = nI (16 * (8 * p + r) + (σ 7 (8 * p + r)).toNat) := by
    rw [← nI_q16, ← iI_nat (σ 7 (8 * p + r)).toNat]
    congr 2
    omega
  refine bk_M_enter ?_
  rw [nI_q, nI_clamp (by omega), RM_R234 hM, RM_T7 hM, RM_N7 hM, RM_a7 hM, RM_R254 hM, RM_T24 hM, RM_N24 hM, RM_a24 hM, RM_R235 hM, RM_T8 hM, RM_N8 hM, e16, show (0 : Int32).toNatClampNeg = 0 from rfl, show (1 : Int32) = iI 1 from rfl, iI_add]
  refine ⟨RM_T hM, Or.inl rfl, hin, ek_if (iI_eq (b := 16) (by unfold rI; omega) (by unfold rI; omega)) (fun c => ⟨RM_T hM, rfl, rfl, Or.inl rfl, vp_in_nI (n := 0) (by decide) (by decide), rfl, vp_in_nI (n := 0) (by decide) (by decide), fun h1 e1 => ?_⟩) (fun c => ⟨RM_T hM, RM_T hM, Or.inl rfl, hin, rfl, vp_in_nI (by omega) (by omega), fun h1 e1 => ?_⟩)⟩
  · exact hq (0, am_u2 σ 24 0 (σ 24 0 + 1)) h1 (by unfold f_enter; rw [if_pos c]) (by subst e1; exact gM_xI hM (by decide) rfl)
  · rw [nI_clamp (by omega)] at e1
    have g1 : gM m n h (am_u2 σ 8 (16 * (8 * p + r) + (σ 7 (8 * p + r)).toNat) F) h1 := by subst e1; exact gM_xI hM (by decide) rfl
    have hM1 := g1.1
    rw [RM_R234 hM1, RM_T7 hM1, RM_N7 hM1, RM_a7 hM1, u2_ne (by decide), iI_add]
    refine ⟨RM_T hM1, rfl, rfl, Or.inl rfl, hin, rfl, hin, fun h2 e2 => ?_⟩
    have g2 : gM m n h1 (am_u2 (am_u2 σ 8 (16 * (8 * p + r) + (σ 7 (8 * p + r)).toNat) F) 7 (8 * p + r) (σ 7 (8 * p + r) + 1)) h2 := by subst e2; exact gM_xI hM1 (by decide) rfl
    exact hq (F, am_u2 (am_u2 σ 8 (16 * (8 * p + r) + (σ 7 (8 * p + r)).toNat) F) 7 (8 * p + r) (σ 7 (8 * p + r) + 1)) h2 (by unfold f_enter; rw [if_neg c]) (gM_tr g1 g2)
/-- a frame goes out at port o -/
def fgo (σ : sg) (p : Nat) (A : Int) (o : Nat) : Bool := decide (¬ o = p) && (decide (0 < σ 1 o) && (decide (A = 0) || decide (A = o)))
/-- the first k ports: is there a way, the answer, the state -/
def fr (σ : sg) (p r : Nat) (A F : Int) : Nat → Bool × Int × sg
  | 0 => (false, 0, σ)
  | k + 1 => if fgo σ p A (k + 1) then (true, if 0 < (f_enter (fr σ p r A F k).2.2 (8 * (k + 1) + r) F).1 then F else (fr σ p r A F k).2.1, (f_enter (fr σ p r A F k).2.2 (8 * (k + 1) + r) F).2) else fr σ p r A F k
theorem fr_ne {σ : sg} {p r k j j' : Nat} {A F : Int} (h : ¬ j = 7 ∧ ¬ j = 8 ∧ ¬ j = 24) : (fr σ p r A F k).2.2 j j' = σ j j' := by
  induction k with
  | zero => rfl
  | succ k ih =>
    rw [fr]
    split
    · show (f_enter _ _ _).2 _ _ = _
      rw [f_enter_ne h, ih]
    · exact ih
theorem fr_WS {σ : sg} {p r k : Nat} {A F : Int} (h : WS σ) (hk : k ≤ 16) (hr : r < 8) (hF : 1 ≤ F ∧ F ≤ σ 0 2) : WS (fr σ p r A F k).2.2 := by
  induction k with
  | zero => exact h
  | succ k ih =>
    rw [fr]
    split
    · exact f_enter_WS (ih (by omega)) (by omega) (by rw [fr_ne (by decide)]; exact hF)
    · exact ih (by omega)
def f_fr9 (x : Bool × Int × sg) : Int × sg := (x.2.1, am_u2 x.2.2 24 2 (if x.1 then x.2.2 24 2 else x.2.2 24 2 + 1))
theorem lp_M_frame {d m n p a r : Nat} {A F : Int} {h0 : am_H} {σ : sg} {Q : Option am_V → am_H → Prop} (hw : WS σ) (hn : 1 ≤ n ∧ n ≤ 16) (hp : p ≤ 16) (ha : a ≤ 1000) (hr : r < 8) (hA : A = f_at σ a) (hF : F = σ 0 2) (hF1 : 1 ≤ F)
    (hQ : ∀ h', gM m n h0 (f_fr9 (fr σ p r A F n)).2 h' → Q (some (.inl (iI (f_fr9 (fr σ p r A F n)).1))) h') : ∀ (j k : Nat) (h : am_H) (y4 y5 y9 : Option am_V), k + j = n → gM m n h0 (fr σ p r A F k).2.2 h → am_P (d + 1) mi_M_frame 177 [some (.inr (.inr m)), some (.inl (nI p)), some (.inl (nI a)), some (.inl (nI r)), y4, y5, some (.inl (iI (fr σ p r A F k).2.1)), some (.inl (bI (fr σ p r A F k).1)), some (.inl (nI (k + 1))), y9] [] h Q := by
  intro j
  induction j with
  | zero =>
    intro k h y4 y5 y9 hk g
    have hk : k = n := by omega
    subst hk
    have hM := g.1
    have fin : ∀ v h1, h1 = am_xI h (m + 24) 2 (iI v) → v = (if (fr σ p r A F k).1 then (fr σ p r A F k).2.2 24 2 else (fr σ p r A F k).2.2 24 2 + 1) → Q (some (.inl (iI (fr σ p r A F k).2.1))) h1 := by
      intro v h1 e1 ev
      have g1 : gM m k h (am_u2 (fr σ p r A F k).2.2 24 2 v) h1 := by subst e1; exact gM_xI hM (by decide) rfl
      rw [ev] at g1
      exact hQ h1 (gM_tr g g1)
    refine bk_M_frame_177 ?_
    rw [RM_n hM, RM_R254 hM, RM_T24 hM, RM_N24 hM, RM_a24 hM, show (2 : Int32).toNatClampNeg = 2 from rfl, show (1 : Int32) = iI 1 from rfl, iI_add]
    refine ⟨RM_T hM, fun _ => ⟨RM_T hM, fun z => ⟨RM_T hM, Or.inl rfl, vp_in_nI (n := 2) (by decide) (by decide), rfl, vp_in_nI (n := 2) (by decide) (by decide), fun h1 e1 => fin _ h1 e1 (by rw [bI_f.mp z]; rfl)⟩, fun z => ⟨RM_T hM, Or.inl rfl, vp_in_nI (n := 2) (by decide) (by decide), rfl, vp_in_nI (n := 2) (by decide) (by decide), fun h1 e1 => fin _ h1 e1 (by rw [bI_t.mp z]; rfl)⟩⟩, fun z => absurd (nI_lt (by omega) (by omega)) z⟩
  | succ j ih =>
    intro k h y4 y5 y9 hk g
    have hM := g.1
    have hws : WS (fr σ p r A F k).2.2 := fr_WS hw (by omega) hr (by omega)
    obtain ⟨w0, w1, w2, w3, w4, a1, a2, a3, a4, a5, a6, a7, a8, a9, a10, a11, a12, a13, a14, a15, a16, a17, a18, a19, a20, a21, a22⟩ := WM_of hws
    have hin : vp_in (nI (k + 1)) 17 := vp_in_nI (by omega) (by omega)
    have go : ∀ b : Bool, b = fgo σ p A (k + 1) → am_P (d + 1) mi_M_frame 228 [some (.inr (.inr m)), some (.inl (nI p)), some (.inl (nI a)), some (.inl (nI r)), none, none, some (.inl (iI (fr σ p r A F k).2.1)), some (.inl (bI (fr σ p r A F k).1)), some (.inl (nI (k + 1))), none] [.inl (bI b)] h Q := by
      intro b hb
      have g45 : ∀ c : Bool, c = ((fr σ p r A F k).1 || b) → am_P (d + 1) mi_M_frame 245 [some (.inr (.inr m)), some (.inl (nI p)), some (.inl (nI a)), some (.inl (nI r)), none, none, some (.inl (iI (fr σ p r A F k).2.1)), some (.inl (bI (fr σ p r A F k).1)), some (.inl (nI (k + 1))), some (.inl (bI b))] [.inl (bI c)] h Q := by
        intro c hc
        refine bk_M_frame_245 ?_
        rw [nI_1 (k + 1), RM_I242 hM, fr_ne (by decide), ← hF]
        refine ⟨fun z => ?_, fun z => ⟨RM_T hM, RM_T hM, sp_M_enter hM (by omega) hr (a7 _ (by omega)) (fun h2 g2 => ⟨_, rfl, ?_⟩)⟩⟩
        · have hbf := bI_f.mp z
          have e : fr σ p r A F (k + 1) = fr σ p r A F k := by rw [fr, ← hb, hbf]; rfl
          have := ih (k + 1) h none none (some (.inl (bI b))) (by omega) (by rw [e]; exact g)
          rw [e] at this
          rw [hc, hbf, Bool.or_false]
          rw [hbf] at this
          exact this
        · have hbt := bI_t.mp z
          have e : fr σ p r A F (k + 1) = (true, if 0 < (f_enter (fr σ p r A F k).2.2 (8 * (k + 1) + r) F).1 then F else (fr σ p r A F k).2.1, (f_enter (fr σ p r A F k).2.2 (8 * (k + 1) + r) F).2) := by rw [fr, ← hb, hbt]; rfl
          have e1 : (fr σ p r A F (k + 1)).1 = c := by rw [e, hc, hbt, Bool.or_true]
          have nx := ih (k + 1) h2 none none (some (.inl (bI b))) (by omega) (by rw [e]; exact gM_tr g g2)
          rw [e1] at nx
          have hM2 := g2.1
          rw [RM_I242 hM2, f_enter_ne (by decide), fr_ne (by decide), ← hF]
          have hr1 : rI (f_enter (fr σ p r A F k).2.2 (8 * (k + 1) + r) F).1 := by
            unfold f_enter
            split
            · exact (by unfold rI; omega)
            · show rI F
              have := hw.2.2.1
              unfold rI; omega
          refine ek_if (iI_le (b := 0) hr1 (by unfold rI; omega)) (fun q => ?_) (fun q => ⟨RM_T hM2, ?_⟩)
          · rw [e, if_neg (by omega)] at nx
            exact nx
          · rw [e, if_pos (by omega)] at nx
            exact nx
      refine bk_M_frame_228 ⟨fun z => ⟨fun z2 => g45 false (by rw [bI_f.mp z, bI_f.mp z2]; rfl), fun z2 => g45 true (by rw [bI_t.mp z2, Bool.or_true])⟩, fun z => g45 true (by rw [bI_t.mp z, Bool.true_or])⟩
    refine bk_M_frame_177 ?_
    rw [RM_n hM, RM_R228 hM, RM_T1 hM, RM_N1 hM, nI_clamp (by omega), RM_a1 hM, fr_ne (by decide)]
    have b1 := a1 (k + 1) (by omega)
    rw [fr_ne (by decide)] at b1
    refine ⟨RM_T hM, fun z => absurd z (nI_nlt (by omega) (by omega)), fun _ => ek_if (nI_eq (by omega) (by omega)) (fun c => go false (by unfold fgo; rw [decide_eq_false (by omega)]; rfl)) (fun c => ⟨RM_T hM, rfl, hin, ek_if (cmp_le (b := 0) (by unfold rJ; omega) (by unfold rJ; omega)) (fun c2 => go false (by unfold fgo; rw [decide_eq_false (p := 0 < σ 1 (k + 1)) (by omega), Bool.false_and, Bool.and_false])) (fun c2 => ⟨RM_T hM, ?_⟩)⟩)⟩
    have b16 := a16 a ha
    have b17 := a17 a ha
    have e1 : fgo σ p A (k + 1) = (decide (A = 0) || decide (A = ((k + 1 : Nat) : Int))) := by
      unfold fgo
      rw [decide_eq_true c, decide_eq_true (p := 0 < σ 1 (k + 1)) (by omega)]
      rfl
    rw [fr_ne (by decide)] at b16 b17
    refine sp_M_isAt hM ha w0 (by rw [fr_ne (by decide)]; unfold rI; omega) (a17 a ha) (fun c3 => ⟨1, rfl, fun z => absurd z (by decide), fun _ => ?_⟩) (fun c3 => ⟨0, rfl, fun _ => go true ?_, fun z => absurd rfl z⟩)
    · rw [fr_ne (by decide), fr_ne (by decide), fr_ne (by decide)] at c3
      have eA : A = σ 16 a := by rw [hA]; unfold f_at; rw [if_pos c3]
      rw [RM_R244 hM, RM_T16 hM, RM_N16 hM, nI_clamp (by omega), RM_a16 hM, fr_ne (by decide), ← eA, ← iI_nat (k + 1)]
      exact ⟨RM_T hM, Or.inl rfl, vp_in_nI (by omega) (by omega), ek_if (iI_eq (a := A) (by unfold rI; omega) (by unfold rI; omega)) (fun c4 => by rw [iI_nat]; exact go true (by rw [e1, decide_eq_true c4, Bool.or_true])) (fun c4 => by rw [iI_nat]; exact go false (by rw [e1, decide_eq_false c4, decide_eq_false (by omega)]; rfl))⟩
    · rw [fr_ne (by decide), fr_ne (by decide), fr_ne (by decide)] at c3
      have eA : A = 0 := by rw [hA]; unfold f_at; rw [if_neg c3]
      rw [e1, decide_eq_true eA, Bool.true_or]
def f_frm0 (σ : sg) (L : Int) : sg := am_u2 (am_u2 σ 0 2 (σ 0 2 + 1)) 15 (σ 0 2 + 1).toNat L
def f_frm1 (σ : sg) (s : Nat) (L : Int) : sg := f_look (f_frm0 σ L) s
def f_frm2 (σ : sg) (s : Nat) (L : Int) : sg := am_u2 (f_frm1 σ s L) 20 s ((f_frm1 σ s L) 20 s + 1)
def f_frame (n : Nat) (σ : sg) (p a r L : Int) : Int × sg :=
  if p < 1 ∨ (n : Int) < p then (-1, σ) else if a < 1 ∨ 1000 < a ∨ r < 0 ∨ 7 < r ∨ L < 64 ∨ 1522 < L then (-2, σ) else if σ 1 p.toNat = 0 then (-3, σ) else if σ 0 2 = 5000 then (-4, σ)
  else if 0 < (f_frm1 σ (8 * a + r).toNat L) 18 (8 * a + r).toNat ∧ (f_frm1 σ (8 * a + r).toNat L) 18 (8 * a + r).toNat - 1 ≤ (f_frm1 σ (8 * a + r).toNat L) 20 (8 * a + r).toNat then (0, am_u2 (f_frm1 σ (8 * a + r).toNat L) 24 1 ((f_frm1 σ (8 * a + r).toNat L) 24 1 + 1))
  else f_fr9 (fr (f_frm2 σ (8 * a + r).toNat L) p.toNat r.toNat (f_at (f_frm2 σ (8 * a + r).toNat L) a.toNat) (σ 0 2 + 1) n)
theorem f_look_ne {σ : sg} {s k j : Nat} (h : ¬ k = 19 ∧ ¬ k = 20) : f_look σ s k j = σ k j := by
  unfold f_look
  rw [u2_ne h.1]
  split
  · rfl
  · exact u2_ne h.2
theorem f_look_20 {σ : sg} {s : Nat} : f_look σ s 20 s = if σ 19 s = σ 0 0 / 1000 then σ 20 s else 0 := by
  unfold f_look
  rw [u2_ne (by decide)]
  split
  · rfl
  · exact u2_eq
theorem f_look_WS {σ : sg} {s : Nat} (h : WS σ) : WS (f_look σ s) := by
  have w0 := h.1
  unfold f_look
  split
  · exact WS_u2 h (by decide) (show (0 : Int) ≤ σ 0 0 / 1000 ∧ σ 0 0 / 1000 ≤ 2000 by omega)
  · exact WS_u2 (WS_20 h ⟨Int.le_refl 0, h.2.2.1.1⟩) (by decide) (show (0 : Int) ≤ σ 0 0 / 1000 ∧ σ 0 0 / 1000 ≤ 2000 by omega)
theorem f_frm0_ne {σ : sg} {L : Int} {k j : Nat} (h : ¬ (k = 0 ∧ j = 2) ∧ ¬ k = 15) : f_frm0 σ L k j = σ k j := by
  unfold f_frm0
  rw [u2_ne h.2, am_u2, if_neg h.1]
theorem f_frm0_nk {σ : sg} {L : Int} {k j : Nat} (h : ¬ k = 0 ∧ ¬ k = 15) : f_frm0 σ L k j = σ k j := f_frm0_ne ⟨fun z => h.1 z.1, h.2⟩
theorem f_frm0_02 {σ : sg} {L : Int} : f_frm0 σ L 0 2 = σ 0 2 + 1 := by
  unfold f_frm0
  rw [u2_ne (by decide), u2_eq]
theorem f_frm2_WS {σ : sg} {s : Nat} {L : Int} (h : WS σ) (hs : s < 8008) (hL : 64 ≤ L ∧ L ≤ 1522) (hf : ¬ σ 0 2 = 5000) : WS (f_frm2 σ s L) := by
  have h0 : WS (f_frm0 σ L) := WS_02 h hL hf
  have t := h.2.2.2.2.2.2.2.2.2 s hs
  have w2 := h.2.2.1
  refine WS_20 (f_look_WS h0) ?_
  unfold f_frm1
  rw [show f_look (f_frm0 σ L) s 0 2 = σ 0 2 + 1 by rw [f_look_ne (by decide), f_frm0_02], f_look_20, f_frm0_nk (k := 20) (by decide)]
  split <;> omega
theorem sp_M_frame {d m n : Nat} {p a r L : Int} {h : am_H} {σ : sg} {Q : Option am_V → am_H → Prop} (hM : RM h m n σ) (hw : WS σ) (hp : rI p) (ha : rI a) (hr : rI r) (hL : rI L)
    (hQ : ∀ h', gM m n h (f_frame n σ p a r L).2 h' → Q (some (.inl (iI (f_frame n σ p a r L).1))) h') : am_PC (d + 2) mi_M_frame [.inr (.inr m), .inl (iI p), .inl (iI a), .inl (iI r), .inl (iI L)] h Q := by
  have hn := hM.1
  have hws := hw
  obtain ⟨w0, w1, w2, w3, w4, a1, a2, a3, a4, a5, a6, a7, a8, a9, a10, a11, a12, a13, a14, a15, a16, a17, a18, a19, a20, a21, a22⟩ := WM_of hw
  have hq : ∀ (x : Int × sg) (w : Int32) h', iI x.1 = w → f_frame n σ p a r L = x → gM m n h x.2 h' → Q (some (.inl w)) h' := fun x w h' e1 e g => by subst e1; subst e; exact hQ h' g
  refine bk_M_frame ⟨RM_T hM, sp_M_none hM hp (fun c h2 g => ⟨1, rfl, fun q => absurd q (by decide), fun _ => hq (-1, σ) _ _ im1 (by unfold f_frame; rw [if_pos c]) g⟩) (fun c h2 g => ⟨0, rfl, fun _ => ?_, fun q => absurd rfl q⟩)⟩
  have hM2 := g.1
  have bad : (a < 1 ∨ 1000 < a ∨ r < 0 ∨ 7 < r ∨ L < 64 ∨ 1522 < L) → Q (some (.inl (-2))) h2 := fun c2 => hq (-2, σ) _ _ im2 (by unfold f_frame; rw [if_neg c, if_pos c2]) g
  refine ek_if (iI_lt (b := 1) ha (by unfold rI; omega)) (fun q => bad (by omega)) (fun q => ek_if (iI_lt (a := 1000) (by unfold rI; omega) ha) (fun q2 => bad (by omega)) (fun q2 => ek_if (iI_lt (b := 0) hr (by unfold rI; omega)) (fun q3 => bad (by omega)) (fun q3 => ek_if (iI_lt (a := 7) (by unfold rI; omega) hr) (fun q4 => bad (by omega)) (fun q4 => ek_if (iI_lt (b := 64) hL (by unfold rI; omega)) (fun q5 => bad (by omega)) (fun q5 => ek_if (iI_le (b := 1522) hL (by unfold rI; omega)) (fun q6 => ⟨RM_T hM2, ?_⟩) (fun q6 => bad (by omega)))))))
  obtain ⟨kp', rfl⟩ := Int.eq_ofNat_of_zero_le (show 0 ≤ p by omega)
  obtain ⟨ka, rfl⟩ := Int.eq_ofNat_of_zero_le (show 0 ≤ a by omega)
  obtain ⟨kr, rfl⟩ := Int.eq_ofNat_of_zero_le (show 0 ≤ r by omega)
  have c2 : ¬ ((ka : Int) < 1 ∨ 1000 < (ka : Int) ∨ (kr : Int) < 0 ∨ 7 < (kr : Int) ∨ L < 64 ∨ 1522 < L) := by omega
  have es : ((8 : Int) * (ka : Int) + (kr : Int)).toNat = 8 * ka + kr := by omega
  have ep : ((kp' : Nat) : Int).toNat = kp' := rfl
  have b1 := a1 kp' (by omega)
  rw [iI_nat kp', iI_nat ka, iI_nat kr, nI_q, nI_clamp (by omega), RM_R228 hM2, RM_T1 hM2, RM_N1 hM2, RM_a1 hM2, RM_I242 hM2, show (1 : Int32) = iI 1 from rfl, iI_add]
  refine ⟨rfl, vp_in_nI (by omega) (by omega), ek_if (cmp_eq (b := 0) (by unfold rJ; omega) (by unfold rJ; omega)) (fun q7 => hq (-3, σ) _ _ im3 (by unfold f_frame; rw [if_neg c, if_neg c2, ep, if_pos q7]) g) (fun q7 => ⟨RM_T hM2, ek_if (iI_eq (b := 5000) (by unfold rI; omega) (by unfold rI; omega)) (fun q8 => hq (-4, σ) _ _ im4 (by unfold f_frame; rw [if_neg c, if_neg c2, ep, if_neg q7, if_pos q8]) g) (fun q8 => ⟨rfl, RM_T hM2, RM_T hM2, fun h4 e4 => ?_⟩)⟩)⟩
  have g4 : gM m n h2 (am_u2 σ 0 2 (σ 0 2 + 1)) h4 := by subst e4; exact ⟨RM_frames hM2, kp_sI (NM_0 m)⟩
  have hM4 := g4.1
  rw [RM_I242 hM4, u2_eq, RM_R243 hM4, RM_T15 hM4, RM_N15 hM4, iI_clamp (by omega) (by unfold rI; omega)]
  refine ⟨RM_T hM4, RM_T hM4, rfl, iI_in (by omega) (by omega) (by omega), fun h5 e5 => ?_⟩
  have g5 : gM m n h4 (f_frm0 σ L) h5 := by subst e5; exact gM_xI (k := 15) hM4 (by decide) rfl
  have hM5 := g5.1
  have hs : 8 * ka + kr < 8008 := by omega
  have hin : vp_in (nI (8 * ka + kr)) 8008 := vp_in_nI hs (by omega)
  have e00 : f_frm0 σ L 0 0 = σ 0 0 := f_frm0_ne (by decide)
  have e19 : f_frm0 σ L 19 (8 * ka + kr) = σ 19 (8 * ka + kr) := f_frm0_nk (by decide)
  have b19 := a19 _ hs
  refine ⟨RM_T hM5, sp_M_look hM5 hs (by rw [e00]; exact w0) (by rw [e19]; unfold rJ; omega) (fun h7 g7 => ⟨rfl, RM_T g7.1, ?_⟩)⟩
  have hM7 : RM h7 m n (f_frm1 σ (8 * ka + kr) L) := g7.1
  have gg : gM m n h (f_frm1 σ (8 * ka + kr) L) h7 := gM_tr (gM_tr (gM_tr g g4) g5) g7
  have e18 : f_frm1 σ (8 * ka + kr) L 18 (8 * ka + kr) = σ 18 (8 * ka + kr) := by unfold f_frm1; rw [f_look_ne (by decide), f_frm0_nk (by decide)]
  have e20 : 0 ≤ f_frm1 σ (8 * ka + kr) L 20 (8 * ka + kr) ∧ f_frm1 σ (8 * ka + kr) L 20 (8 * ka + kr) ≤ 5000 := by
    have := a20 _ hs
    unfold f_frm1
    rw [f_look_20, f_frm0_nk (k := 20) (by decide)]
    split <;> omega
  have b18 := a18 _ hs
  have rest : ¬ (0 < f_frm1 σ (8 * ka + kr) L 18 (8 * ka + kr) ∧ f_frm1 σ (8 * ka + kr) L 18 (8 * ka + kr) - 1 ≤ f_frm1 σ (8 * ka + kr) L 20 (8 * ka + kr)) → am_P (d + 1) mi_M_frame 157 [some (.inr (.inr m)), some (.inl (nI kp')), some (.inl (nI ka)), some (.inl (nI kr)), some (.inl (iI L)), some (.inl (nI (8 * ka + kr))), none, none, none, none] [] h7 Q := by
    intro c3
    refine bk_M_frame_157 ?_
    rw [RM_R248 hM7, RM_T20 hM7, RM_N20 hM7, nI_clamp (by omega), RM_a20 hM7, show (1 : Int32) = iI 1 from rfl, iI_add]
    refine ⟨RM_T hM7, rfl, rfl, Or.inl rfl, hin, rfl, hin, fun h8 e8 => ?_⟩
    have g8 : gM m n h7 (f_frm2 σ (8 * ka + kr) L) h8 := by subst e8; exact gM_xI (k := 20) hM7 (by decide) rfl
    have e02 : f_frm2 σ (8 * ka + kr) L 0 2 = σ 0 2 + 1 := by
      unfold f_frm2 f_frm1
      rw [u2_ne (by decide), f_look_ne (by decide), f_frm0_02]
    refine lp_M_frame (σ := f_frm2 σ (8 * ka + kr) L) (A := f_at (f_frm2 σ (8 * ka + kr) L) ka) (F := σ 0 2 + 1) (h0 := h8) (f_frm2_WS hws hs (by omega) q8) hn (by omega) (by omega) (by omega) rfl e02.symm (by omega) (fun h9 g9 => ?_) n 0 h8 _ _ _ (by omega) (gM_rf g8.1)
    exact hq _ _ _ rfl (by unfold f_frame; rw [if_neg c, if_neg c2, ep, if_neg q7, if_neg q8, es, if_neg c3]; rfl) (gM_tr (gM_tr gg g8) g9)
  rw [RM_R246 hM7, RM_T18 hM7, RM_N18 hM7, nI_clamp (by omega), RM_a18 hM7, RM_R248 hM7, RM_T20 hM7, RM_N20 hM7, RM_a20 hM7, RM_R254 hM7, RM_T24 hM7, RM_N24 hM7, iI_l (by unfold rI; omega), show (1 : Int64) = jJ 1 from rfl, jJ_sub]
  refine ⟨rfl, hin, ek_if (cmp_le (b := 0) (by rw [e18]; unfold rJ; omega) (by unfold rJ; omega)) (fun q9 => rest (by omega)) (fun q9 => ⟨RM_T hM7, Or.inl rfl, hin, RM_T hM7, rfl, hin, ek_if (cmp_lt (by unfold rJ; omega) (by rw [e18]; unfold rJ; omega)) (fun q10 => rest (by omega)) (fun q10 => ⟨RM_T hM7, rfl, rfl, Or.inl rfl, vp_in_nI (n := 1) (by decide) (by decide), rfl, vp_in_nI (n := 1) (by decide) (by decide), fun h8 e8 => ?_⟩)⟩)⟩
  rw [show (iI 1).toNatClampNeg = 1 from rfl, RM_a24 hM7, iI_add] at e8
  have g8 : gM m n h7 (am_u2 (f_frm1 σ (8 * ka + kr) L) 24 1 ((f_frm1 σ (8 * ka + kr) L) 24 1 + 1)) h8 := by subst e8; exact gM_xI hM7 (by decide) rfl
  exact hq (0, am_u2 (f_frm1 σ (8 * ka + kr) L) 24 1 ((f_frm1 σ (8 * ka + kr) L) 24 1 + 1)) _ _ rfl (by unfold f_frame; rw [if_neg c, if_neg c2, ep, if_neg q7, if_neg q8, es, if_pos (by omega)]) (gM_tr gg g8)
end
section
/-! THE REFERENCE: tick, run -/
def f_end0 (σ : sg) (p : Nat) : sg := if 5000 ≤ σ 0 4 then σ else am_u2 (am_u2 (am_u2 (am_u2 (am_u2 σ 23 (4 * (σ 0 4).toNat) (σ 3 p)) 23 (4 * (σ 0 4).toNat + 1) p) 23 (4 * (σ 0 4).toNat + 2) (σ 5 p)) 23 (4 * (σ 0 4).toNat + 3) (σ 0 0)) 0 4 (σ 0 4 + 1)
def f_end1 (σ : sg) (p : Nat) : sg := if 0 < σ 3 p ∧ σ 6 p = σ 0 0 then am_u2 (am_u2 (f_end0 σ p) 0 3 (σ 0 3 + 1)) 3 p 0 else σ
def f_ends (σ : sg) : Nat → sg
  | 0 => σ
  | k + 1 => f_end1 (f_ends σ k) (k + 1)
theorem f_end0_ne {σ : sg} {p k j : Nat} (h : ¬ (k = 0 ∧ j = 4) ∧ ¬ k = 23) : f_end0 σ p k j = σ k j := by
  unfold f_end0
  split
  · rfl
  · rw [am_u2, if_neg h.1, u2_ne h.2, u2_ne h.2, u2_ne h.2, u2_ne h.2]
theorem f_end1_ne {σ : sg} {p k j : Nat} (h : ¬ (k = 0 ∧ (j = 3 ∨ j = 4)) ∧ ¬ k = 3 ∧ ¬ k = 23) : f_end1 σ p k j = σ k j := by
  unfold f_end1
  split
  · rw [u2_ne h.2.1, am_u2, if_neg (fun z => h.1 ⟨z.1, Or.inl z.2⟩), f_end0_ne ⟨fun z => h.1 ⟨z.1, Or.inr z.2⟩, h.2.2⟩]
  · rfl
theorem f_ends_ne {σ : sg} {i k j : Nat} (h : ¬ (k = 0 ∧ (j = 3 ∨ j = 4)) ∧ ¬ k = 3 ∧ ¬ k = 23) : f_ends σ i k j = σ k j := by
  induction i with
  | zero => rfl
  | succ i ih => rw [f_ends, f_end1_ne h, ih]
theorem f_end0_WS {σ : sg} {p : Nat} (h : WS σ) : WS (f_end0 σ p) := by
  unfold f_end0
  split
  · exact h
  · have w4 := h.2.2.2.2.1
    exact WS_04 (WS_un (WS_un (WS_un (WS_un h (by decide)) (by decide)) (by decide)) (by decide)) (by omega)
theorem f_end1_WS {σ : sg} {p : Nat} (h : WS σ) : WS (f_end1 σ p) := by
  unfold f_end1
  split
  · have w3 := h.2.2.2.1
    exact WS_u2 (WS_03 (f_end0_WS h) (by omega)) (by decide) (show (0 : Int) ≤ 0 ∧ (0 : Int) ≤ 5000 by omega)
  · exact h
theorem f_ends_WS {σ : sg} (h : WS σ) (k : Nat) : WS (f_ends σ k) := by
  induction k with
  | zero => exact h
  | succ k ih => exact f_end1_WS ih
theorem lp_M_tick2 {d m n : Nat} {h0 : am_H} {σ : sg} {Q : Option am_V → am_H → Prop} (hw : WS σ) (hn : 1 ≤ n ∧ n ≤ 16) (hQ : ∀ h', gM m n h0 (f_ends σ n) h' → am_P d mi_M_tick 147 [some (.inr (.inr m)), some (.inl 1), none] [] h' Q) : ∀ (j k : Nat) (h : am_H) (y2 : Option am_V), k + j = n → gM m n h0 (f_ends σ k) h → am_P d mi_M_tick 2 [some (.inr (.inr m)), some (.inl (nI (k + 1))), y2] [] h Q := by
  intro j
  induction j with
  | zero =>
    intro k h y2 hk g
    have hk : k = n := by omega
    subst hk
    have hM := g.1
    refine bk_M_tick_2 ?_
    rw [RM_n hM]
    exact ⟨RM_T hM, fun _ => hQ h g, fun z => absurd (nI_lt (by omega) (by omega)) z⟩
  | succ j ih =>
    intro k h y2 hk g
    have hM := g.1
    obtain ⟨w0, w1, w2, w3, w4, a1, a2, a3, a4, a5, a6, a7, a8, a9, a10, a11, a12, a13, a14, a15, a16, a17, a18, a19, a20, a21, a22⟩ := WM_of (f_ends_WS hw k)
    have hin : vp_in (nI (k + 1)) 17 := vp_in_nI (by omega) (by omega)
    have b3 := a3 (k + 1) (by omega)
    have b5 := a5 (k + 1) (by omega)
    have b6 := a6 (k + 1) (by omega)
    have same : ¬ (0 < (f_ends σ k) 3 (k + 1) ∧ (f_ends σ k) 6 (k + 1) = (f_ends σ k) 0 0) → am_P d mi_M_tick 2 [some (.inr (.inr m)), some (.inl (nI (k + 1 + 1))), none] [] h Q := fun c => ih (k + 1) h none (by omega) (by rw [f_ends, f_end1, if_neg c]; exact g)
    have fin : (0 < (f_ends σ k) 3 (k + 1) ∧ (f_ends σ k) 6 (k + 1) = (f_ends σ k) 0 0) → ∀ h1, gM m n h (f_end0 (f_ends σ k) (k + 1)) h1 → am_P d mi_M_tick 122 [some (.inr (.inr m)), some (.inl (nI (k + 1))), none] [] h1 Q := by
      intro c h1 g1
      have hM1 := g1.1
      refine bk_M_tick_122 ?_
      rw [RM_I251 hM1, f_end0_ne (by decide), nI_clamp (by omega), nI_1 (k + 1), show (1 : Int32) = iI 1 from rfl, iI_add]
      refine ⟨rfl, RM_T hM1, RM_T hM1, fun h2 e2 => ?_⟩
      have g2 : gM m n h1 (am_u2 (f_end0 (f_ends σ k) (k + 1)) 0 3 (f_ends σ k 0 3 + 1)) h2 := by subst e2; exact ⟨RM_all hM1, kp_sI (NM_0 m)⟩
      have hM2 := g2.1
      rw [RM_R230 hM2, RM_T3 hM2, RM_N3 hM2]
      refine ⟨RM_T hM2, rfl, hin, fun h3 e3 => ?_⟩
      have g3 : gM m n h2 (am_u2 (am_u2 (f_end0 (f_ends σ k) (k + 1)) 0 3 (f_ends σ k 0 3 + 1)) 3 (k + 1) 0) h3 := by subst e3; exact gM_xI (v := 0) hM2 (by decide) rfl
      exact ih (k + 1) h3 none (by omega) (by rw [f_ends, f_end1, if_pos c]; exact gM_tr (gM_tr (gM_tr g g1) g2) g3)
    refine bk_M_tick_2 ?_
    rw [RM_n hM, RM_R230 hM, RM_T3 hM, RM_N3 hM, nI_clamp (by omega), RM_a3 hM, RM_R233 hM, RM_T6 hM, RM_N6 hM, RM_a6 hM, RM_J227 hM, RM_I252 hM, nI_1 (k + 1), RM_R253 hM, RM_T23 hM, RM_N23 hM, show (4 : Int32) = iI 4 from rfl, iI_mul, iI_clamp (by omega) (by unfold rI; omega)]
    refine ⟨RM_T hM, fun z => absurd z (nI_nlt (by omega) (by omega)), fun _ => ⟨RM_T hM, Or.inl rfl, hin, ek_if (iI_le (b := 0) (by unfold rI; omega) (by unfold rI; omega)) (fun c => same (by omega)) (fun c => ⟨RM_T hM, rfl, hin, RM_T hM, ek_if (cmp_eq (by unfold rJ; omega) (by unfold rJ; omega)) (fun c2 => ⟨RM_T hM, ek_if (iI_le (a := 5000) (by unfold rI; omega) (by unfold rI; omega)) (fun c3 => fin (by omega) h (by unfold f_end0; rw [if_pos c3]; exact gM_rf hM)) (fun c3 => ⟨RM_T hM, RM_T hM, RM_T hM, Or.inl rfl, hin, rfl, iI_in (by omega) (by omega) (by omega), fun h1 e1 => ?_⟩)⟩) (fun c2 => same (by omega))⟩)⟩⟩
    have ek : (4 * (f_ends σ k) 0 4).toNat = 4 * ((f_ends σ k) 0 4).toNat := by omega
    have ek1 : (4 * (f_ends σ k) 0 4 + 1).toNat = 4 * ((f_ends σ k) 0 4).toNat + 1 := by omega
    have ek2 : (4 * (f_ends σ k) 0 4 + 2).toNat = 4 * ((f_ends σ k) 0 4).toNat + 2 := by omega
    have ek3 : (4 * (f_ends σ k) 0 4 + 3).toNat = 4 * ((f_ends σ k) 0 4).toNat + 3 := by omega
    rw [ek] at e1
    have g1 : gM m n h (am_u2 (f_ends σ k) 23 (4 * (f_ends σ k 0 4).toNat) (f_ends σ k 3 (k + 1))) h1 := by subst e1; exact gM_xI hM (by decide) rfl
    have hM1 := g1.1
    rw [RM_I252 hM1, u2_ne (by decide), RM_R253 hM1, RM_T23 hM1, RM_N23 hM1, iI_mul, show (1 : Int32) = iI 1 from rfl, iI_add, iI_clamp (by omega) (by unfold rI; omega), ek1]
    refine ⟨RM_T hM1, RM_T hM1, rfl, iI_in (by omega) (by omega) (by omega), fun h2 e2 => ?_⟩
    have g2 : gM m n h1 (am_u2 (am_u2 (f_ends σ k) 23 (4 * (f_ends σ k 0 4).toNat) (f_ends σ k 3 (k + 1))) 23 (4 * (f_ends σ k 0 4).toNat + 1) ((k + 1 : Nat) : Int)) h2 := by subst e2; rw [← iI_nat]; exact gM_xI hM1 (by decide) rfl
    have hM2 := g2.1
    rw [RM_I252 hM2, u2_ne (by decide), u2_ne (by decide), RM_R253 hM2, RM_T23 hM2, RM_N23 hM2, iI_mul, show (2 : Int32) = iI 2 from rfl, iI_add, iI_clamp (by omega) (by unfold rI; omega), ek2, RM_R232 hM2, RM_T5 hM2, RM_N5 hM2, RM_a5 hM2, u2_ne (by decide), u2_ne (by decide), jJ_i (by unfold rI; omega)]
    refine ⟨RM_T hM2, RM_T hM2, RM_T hM2, rfl, hin, rfl, iI_in (by omega) (by omega) (by omega), fun h3 e3 => ?_⟩
    have g3 : gM m n h2 (am_u2 (am_u2 (am_u2 (f_ends σ k) 23 (4 * (f_ends σ k 0 4).toNat) (f_ends σ k 3 (k + 1))) 23 (4 * (f_ends σ k 0 4).toNat + 1) ((k + 1 : Nat) : Int)) 23 (4 * (f_ends σ k 0 4).toNat + 2) (f_ends σ k 5 (k + 1))) h3 := by subst e3; exact gM_xI hM2 (by decide) rfl
    have hM3 := g3.1
    rw [RM_I252 hM3, u2_ne (by decide), u2_ne (by decide), u2_ne (by decide), RM_R253 hM3, RM_T23 hM3, RM_N23 hM3, iI_mul, show (3 : Int32) = iI 3 from rfl, iI_add, iI_clamp (by omega) (by unfold rI; omega), ek3, RM_J227 hM3, u2_ne (by decide), u2_ne (by decide), u2_ne (by decide), jJ_i (by unfold rI; omega)]
    refine ⟨RM_T hM3, RM_T hM3, RM_T hM3, rfl, iI_in (by omega) (by omega) (by omega), fun h4 e4 => ?_⟩
    have g4 : gM m n h3 (am_u2 (am_u2 (am_u2 (am_u2 (f_ends σ k) 23 (4 * (f_ends σ k 0 4).toNat) (f_ends σ k 3 (k + 1))) 23 (4 * (f_ends σ k 0 4).toNat + 1) ((k + 1 : Nat) : Int)) 23 (4 * (f_ends σ k 0 4).toNat + 2) (f_ends σ k 5 (k + 1))) 23 (4 * (f_ends σ k 0 4).toNat + 3) (f_ends σ k 0 0)) h4 := by subst e4; exact gM_xI hM3 (by decide) rfl
    have hM4 := g4.1
    rw [RM_I252 hM4, u2_ne (by decide), u2_ne (by decide), u2_ne (by decide), u2_ne (by decide), iI_add]
    refine ⟨rfl, RM_T hM4, RM_T hM4, fun h5 e5 => fin (by omega) h5 (gM_tr (gM_tr (gM_tr (gM_tr g1 g2) g3) g4) ?_)⟩
    unfold f_end0
    rw [if_neg c3]
    subst e5
    exact ⟨RM_kept hM4, kp_sI (NM_0 m)⟩
/-- ports that may begin do so -/
def f_beg1 (σ : sg) (p r : Nat) : sg := if 0 < σ 1 p ∧ σ 3 p = 0 ∧ f_may σ p r = true then f_begin σ p r else σ
def f_begp (σ : sg) (p : Nat) : Nat → sg
  | 0 => σ
  | k + 1 => f_beg1 (f_begp σ p k) p (7 - k)
def f_begs (σ : sg) : Nat → sg
  | 0 => σ
  | k + 1 => f_begp (f_begs σ k) (k + 1) 8
theorem f_may_7 {σ : sg} {p r : Nat} (h : f_may σ p r = true) : ¬ σ 7 (8 * p + r) = 0 := by
  unfold f_may at h
  intro z
  rw [decide_eq_false (p := ¬ σ 7 (8 * p + r) = 0) (fun y => y z)] at h
  cases h
theorem f_begin_ne {σ : sg} {p r k j : Nat} (h : ¬ k = 3 ∧ ¬ k = 4 ∧ ¬ k = 5 ∧ ¬ k = 6 ∧ ¬ k = 7 ∧ ¬ k = 8) : f_begin σ p r k j = σ k j := by
  unfold f_begin f_beg0
  rw [bshift_ne h.2.2.2.2.2, u2_ne h.2.2.2.2.1, u2_ne h.2.2.2.1, u2_ne h.2.2.1, u2_ne h.2.1, u2_ne h.1]
theorem f_begin_WS {σ : sg} {p r : Nat} (h : WS σ) (hp : 1 ≤ p ∧ p ≤ 16) (hr : r < 8) (hs : 0 < σ 1 p) (h7 : 0 < σ 7 (8 * p + r)) : WS (f_begin σ p r) := by
  obtain ⟨w0, w1, w2, w3, w4, a1, a2, a3, a4, a5, a6, a7, a8, a9, a10, a11, a12, a13, a14, a15, a16, a17, a18, a19, a20, a21, a22⟩ := WM_of h
  have b1 := a1 p (by omega)
  have b8 := a8 (8 * p + r) 0 (by omega) (by omega)
  rw [Nat.add_zero] at b8
  have b15 := a15 (σ 8 (16 * (8 * p + r))).toNat (by omega) (by omega)
  have ft := f_time_le (σ := σ) (p := p) (f := (σ 8 (16 * (8 * p + r))).toNat) ⟨hs, b1.2⟩ b15
  have hb : WS (am_u2 (am_u2 (am_u2 (am_u2 σ 3 p (σ 8 (16 * (8 * p + r)))) 4 p r) 5 p (σ 0 0)) 6 p (σ 0 0 + f_time σ p (σ 8 (16 * (8 * p + r))).toNat)) :=
    WS_u2 (WS_u2 (WS_u2 (WS_u2 h (by decide) (show (0 : Int) ≤ _ ∧ _ ≤ (5000 : Int) by omega)) (by decide) (show (0 : Int) ≤ _ ∧ _ ≤ (7 : Int) by omega)) (by decide) (show (0 : Int) ≤ _ ∧ _ ≤ (2000000 : Int) by omega)) (by decide) (show (0 : Int) ≤ _ ∧ _ ≤ (3000000 : Int) by omega)
  have e7 : ∀ j, (am_u2 (am_u2 (am_u2 (am_u2 σ 3 p (σ 8 (16 * (8 * p + r)))) 4 p r) 5 p (σ 0 0)) 6 p (σ 0 0 + f_time σ p (σ 8 (16 * (8 * p + r))).toNat)) 7 j = σ 7 j := fun j => by rw [u2_ne (by decide), u2_ne (by decide), u2_ne (by decide), u2_ne (by decide)]
  have := WS_deq hb (a := 8 * p + r) (by omega) (by rw [e7]; exact h7)
  rw [e7] at this
  exact this
theorem f_beg1_ne {σ : sg} {p r k j : Nat} (h : ¬ k = 3 ∧ ¬ k = 4 ∧ ¬ k = 5 ∧ ¬ k = 6 ∧ ¬ k = 7 ∧ ¬ k = 8) : f_beg1 σ p r k j = σ k j := by
  unfold f_beg1
  split
  · exact f_begin_ne h
  · rfl
theorem f_begp_ne {σ : sg} {p i k j : Nat} (h : ¬ k = 3 ∧ ¬ k = 4 ∧ ¬ k = 5 ∧ ¬ k = 6 ∧ ¬ k = 7 ∧ ¬ k = 8) : f_begp σ p i k j = σ k j := by
  induction i with
  | zero => rfl
  | succ i ih => rw [f_begp, f_beg1_ne h, ih]
theorem f_begs_ne {σ : sg} {i k j : Nat} (h : ¬ k = 3 ∧ ¬ k = 4 ∧ ¬ k = 5 ∧ ¬ k = 6 ∧ ¬ k = 7 ∧ ¬ k = 8) : f_begs σ i k j = σ k j := by
  induction i with
  | zero => rfl
  | succ i ih => rw [f_begs, f_begp_ne h, ih]
theorem f_beg1_WS {σ : sg} {p r : Nat} (h : WS σ) (hp : 1 ≤ p ∧ p ≤ 16) (hr : r < 8) : WS (f_beg1 σ p r) := by
  unfold f_beg1
  split
  · rename_i c
    have c7 := f_may_7 c.2.2
    have b7 := (WM_of h).2.2.2.2.2.2.2.2.2.2.2.1 (8 * p + r) (by omega)
    exact f_begin_WS h hp hr c.1 (by omega)
  · exact h
theorem f_begp_WS {σ : sg} {p : Nat} (h : WS σ) (hp : 1 ≤ p ∧ p ≤ 16) (k : Nat) : WS (f_begp σ p k) := by
  induction k with
  | zero => exact h
  | succ k ih => exact f_beg1_WS ih hp (by omega)
theorem f_begs_WS {σ : sg} (h : WS σ) {k : Nat} (hk : k ≤ 16) : WS (f_begs σ k) := by
  induction k with
  | zero => exact h
  | succ k ih => exact f_begp_WS (ih (by omega)) (by omega) 8
theorem lp_M_tick158 {d m n p : Nat} {h0 : am_H} {σ : sg} {Q : Option am_V → am_H → Prop} (hw : WS σ) (hp : 1 ≤ p ∧ p ≤ 16) (hQ : ∀ h' y2, gM m n h0 (f_begp σ p 8) h' → am_P (d + 2) mi_M_tick 147 [some (.inr (.inr m)), some (.inl (nI (p + 1))), y2] [] h' Q) : ∀ (j k : Nat) (h : am_H), k + j = 8 → gM m n h0 (f_begp σ p k) h → am_P (d + 2) mi_M_tick 158 [some (.inr (.inr m)), some (.inl (nI p)), some (.inl (iI (7 - (k : Int))))] [] h Q := by
  intro j
  induction j with
  | zero =>
    intro k h hk g
    have hk : k = 8 := by omega
    subst hk
    refine bk_M_tick_158 ?_
    rw [nI_1]
    exact ⟨fun _ => hQ h _ g, fun z => absurd (by decide) z⟩
  | succ j ih =>
    intro k h hk g
    have hM := g.1
    have hws := f_begp_WS hw hp k
    obtain ⟨w0, w1, w2, w3, w4, a1, a2, a3, a4, a5, a6, a7, a8, a9, a10, a11, a12, a13, a14, a15, a16, a17, a18, a19, a20, a21, a22⟩ := WM_of hws
    have hin : vp_in (nI p) 17 := vp_in_nI (by omega) (by omega)
    have b1 := a1 p (by omega)
    have b3 := a3 p (by omega)
    have b7 := a7 (8 * p + (7 - k)) (by omega)
    have e7 : iI (7 - (k : Int)) = nI (7 - k) := by
      rw [← iI_nat (7 - k)]
      congr 1
      omega
    have em : iI (7 - (k : Int)) + (-1) = iI (7 - ((k + 1 : Nat) : Int)) := by
      rw [show (-1 : Int32) = iI (-1) from im1.symm, iI_add]
      congr 1
      omega
    have same : ¬ (0 < (f_begp σ p k) 1 p ∧ (f_begp σ p k) 3 p = 0 ∧ f_may (f_begp σ p k) p (7 - k) = true) → am_P (d + 2) mi_M_tick 158 [some (.inr (.inr m)), some (.inl (nI p)), some (.inl (iI (7 - ((k + 1 : Nat) : Int))))] [] h Q := fun c => ih (k + 1) h (by omega) (by rw [f_begp, f_beg1, if_neg c]; exact g)
    refine bk_M_tick_158 ?_
    rw [em, RM_R228 hM, RM_T1 hM, RM_N1 hM, nI_clamp (by omega), RM_a1 hM, RM_R230 hM, RM_T3 hM, RM_N3 hM, RM_a3 hM, e7]
    refine ⟨fun z => absurd z (nI_pos (by omega)), fun _ => ⟨RM_T hM, rfl, hin, ek_if (cmp_le (b := 0) (by unfold rJ; omega) (by unfold rJ; omega)) (fun c => same (by omega)) (fun c => ⟨RM_T hM, Or.inl rfl, hin, ek_if (iI_eq (b := 0) (by unfold rI; omega) (by unfold rI; omega)) (fun c2 => ⟨RM_T hM, ?_⟩) (fun c2 => same (fun y => c2 y.2.1))⟩)⟩⟩
    refine sp_M_may hM (WM_of hws) hp (by omega) (by omega) ⟨_, rfl, fun z => same (fun y => ?_), fun z => ⟨RM_T hM, ?_⟩⟩
    · rw [bI_f.mp z] at y
      exact absurd y.2.2 (by decide)
    · have hb := bI_t.mp z
      have h7 := f_may_7 hb
      exact sp_M_begin hM (WM_of hws) hp (by omega) (by omega) (by omega) (fun h5 g5 => ⟨rfl, ih (k + 1) h5 (by omega) (by rw [f_begp, f_beg1, if_pos ⟨by omega, c2, hb⟩]; exact gM_tr g g5)⟩)
theorem lp_M_tick147 {d m n : Nat} {h0 : am_H} {σ : sg} {Q : Option am_V → am_H → Prop} (hw : WS σ) (hn : 1 ≤ n ∧ n ≤ 16) (hQ : ∀ h', gM m n h0 (f_begs σ n) h' → am_P (d + 2) mi_M_tick 212 [some (.inr (.inr m)), some (.inl 8), none] [] h' Q) : ∀ (j k : Nat) (h : am_H) (y2 : Option am_V), k + j = n → gM m n h0 (f_begs σ k) h → am_P (d + 2) mi_M_tick 147 [some (.inr (.inr m)), some (.inl (nI (k + 1))), y2] [] h Q := by
  intro j
  induction j with
  | zero =>
    intro k h y2 hk g
    have hk : k = n := by omega
    subst hk
    have hM := g.1
    refine bk_M_tick_147 ?_
    rw [RM_n hM]
    exact ⟨RM_T hM, fun _ => hQ h g, fun z => absurd (nI_lt (by omega) (by omega)) z⟩
  | succ j ih =>
    intro k h y2 hk g
    have hM := g.1
    refine bk_M_tick_147 ?_
    rw [RM_n hM]
    refine ⟨RM_T hM, fun z => absurd z (nI_nlt (by omega) (by omega)), fun _ => ?_⟩
    exact lp_M_tick158 (h0 := h) (f_begs_WS hw (by omega)) (by omega) (fun h' y g' => ih (k + 1) h' y (by omega) (gM_tr g g')) 8 0 h rfl (gM_rf hM)
/-- credits move by a tick -/
def f_cr1 (σ : sg) (q : Nat) : sg := if 0 < σ 12 q then (if 0 < σ 3 (q / 8) ∧ σ 4 (q / 8) = ((q % 8 : Nat) : Int) then am_u2 σ 14 q (σ 14 q + σ 12 q - σ 1 (q / 8) * σ 13 q) else if 0 < σ 7 q then am_u2 σ 14 q (σ 14 q + σ 12 q) else am_u2 σ 14 q (if σ 14 q + σ 12 q < 0 then σ 14 q + σ 12 q else 0)) else σ
def f_crs (σ : sg) : Nat → sg
  | 0 => σ
  | k + 1 => f_cr1 (f_crs σ k) (8 + k)
theorem f_cr1_ne {σ : sg} {q k j : Nat} (h : ¬ (k = 14 ∧ j = q)) : f_cr1 σ q k j = σ k j := by
  unfold f_cr1
  split
  · split
    · rw [am_u2, if_neg h]
    · split
      · rw [am_u2, if_neg h]
      · rw [am_u2, if_neg h]
  · rfl
theorem f_crs_ne {σ : sg} {i k j : Nat} (h : ¬ (k = 14 ∧ 8 ≤ j ∧ j < 8 + i)) : f_crs σ i k j = σ k j := by
  induction i with
  | zero => rfl
  | succ i ih => rw [f_crs, f_cr1_ne (by omega), ih (by omega)]
theorem f_crs_nk {σ : sg} {i k j : Nat} (h : ¬ k = 14) : f_crs σ i k j = σ k j := f_crs_ne (fun z => h z.1)
theorem lp_M_tick212 {d m n : Nat} {h0 : am_H} {σ : sg} {Q : Option am_V → am_H → Prop} (hw : WS σ) (hn : 1 ≤ n ∧ n ≤ 16) (hQ : ∀ h', gM m n h0 (am_u2 (f_crs σ (8 * n)) 0 0 (σ 0 0 + 1)) h' → Q none h') : ∀ (j k : Nat) (h : am_H) (y2 : Option am_V), k + j = 8 * n → gM m n h0 (f_crs σ k) h → am_P d mi_M_tick 212 [some (.inr (.inr m)), some (.inl (nI (8 + k))), y2] [] h Q := by
  intro j
  obtain ⟨w0, w1, w2, w3, w4, a1, a2, a3, a4, a5, a6, a7, a8, a9, a10, a11, a12, a13, a14, a15, a16, a17, a18, a19, a20, a21, a22⟩ := WM_of hw
  have en : (8 : Int32) * nI n + 8 = nI (8 * n + 8) := nI_q n 8
  induction j with
  | zero =>
    intro k h y2 hk g
    have hk : k = 8 * n := by omega
    subst hk
    have hM := g.1
    refine bk_M_tick_212 ?_
    rw [RM_n hM, en, RM_J227 hM, f_crs_nk (by decide), show (1 : Int64) = jJ 1 from rfl, jJ_add]
    refine ⟨RM_T hM, fun _ => ⟨rfl, RM_T hM, RM_T hM, fun h1 e1 => hQ h1 (gM_tr g (by subst e1; exact ⟨RM_now hM, kp_sJ (NM_0 m)⟩))⟩, fun z => absurd (nI_le (by omega) (by omega)) z⟩
  | succ j ih =>
    intro k h y2 hk g
    have hM := g.1
    have hin : vp_in (nI (8 + k)) 136 := vp_in_nI (by omega) (by omega)
    have hin1 : vp_in (nI ((8 + k) / 8)) 17 := vp_in_nI (by omega) (by omega)
    have ed : nI (8 + k) / 8 = nI ((8 + k) / 8) := pk_div (d := 8) (by omega) (by omega) (by omega)
    have er : nI (8 + k) - nI ((8 + k) / 8) * 8 = nI ((8 + k) % 8) := by
      have := pk_rem (a := 8 + k) (d := 8) (by omega) (by omega) (by omega)
      rw [show nI 8 = 8 from rfl, ed] at this
      exact this
    have b1 := a1 ((8 + k) / 8) (by omega)
    have b3 := a3 ((8 + k) / 8) (by omega)
    have b4 := a4 ((8 + k) / 8) (by omega)
    have b7 := a7 (8 + k) (by omega)
    have b12 := a12 (8 + k) (by omega)
    have b13 := a13 (8 + k) (by omega)
    have b14 := a14 (8 + k) (by omega)
    have s14 : f_crs σ k 14 (8 + k) = σ 14 (8 + k) := f_crs_ne (by omega)
    have nx : ∀ h' (y : Option am_V), gM m n h (f_cr1 (f_crs σ k) (8 + k)) h' → am_P d mi_M_tick 212 [some (.inr (.inr m)), some (.inl (nI (8 + k + 1))), y] [] h' Q := fun h' y g' => ih (k + 1) h' y (by omega) (gM_tr g g')
    have c300 : 0 < σ 12 (8 + k) → ¬ (0 < σ 3 ((8 + k) / 8) ∧ σ 4 ((8 + k) / 8) = (((8 + k) % 8 : Nat) : Int)) → am_P d mi_M_tick 300 [some (.inr (.inr m)), some (.inl (nI (8 + k))), some (.inl (nI ((8 + k) / 8)))] [] h Q := by
      intro c1 c2
      have ef : f_cr1 (f_crs σ k) (8 + k) = if 0 < σ 7 (8 + k) then am_u2 (f_crs σ k) 14 (8 + k) (σ 14 (8 + k) + σ 12 (8 + k)) else am_u2 (f_crs σ k) 14 (8 + k) (if σ 14 (8 + k) + σ 12 (8 + k) < 0 then σ 14 (8 + k) + σ 12 (8 + k) else 0) := by
        unfold f_cr1
        rw [s14, f_crs_nk (k := 12) (by decide), f_crs_nk (k := 3) (by decide), f_crs_nk (k := 4) (by decide), f_crs_nk (k := 7) (by decide), if_pos c1, if_neg c2]
      refine bk_M_tick_300 ?_
      rw [RM_R234 hM, RM_T7 hM, RM_N7 hM, nI_clamp (by omega), RM_a7 hM, f_crs_nk (by decide), RM_R241 hM, RM_T14 hM, RM_N14 hM, RM_a14 hM, s14, RM_R239 hM, RM_T12 hM, RM_N12 hM, RM_a12 hM, f_crs_nk (by decide), jJ_add, nI_1 (8 + k)]
      refine ⟨RM_T hM, Or.inl rfl, hin, ek_if (iI_le (b := 0) (by unfold rI; omega) (by unfold rI; omega)) (fun c3 => ⟨RM_T hM, RM_T hM, rfl, hin, RM_T hM, rfl, hin, ek_if (cmp_ge (b := 0) (by unfold rJ; omega) (by unfold rJ; omega)) (fun c4 => ⟨rfl, hin, fun h1 e1 => nx h1 _ ?_⟩) (fun c4 => ⟨RM_T hM, rfl, hin, RM_T hM, rfl, hin, rfl, hin, fun h1 e1 => nx h1 _ ?_⟩)⟩) (fun c3 => ⟨RM_T hM, RM_T hM, rfl, hin, RM_T hM, rfl, hin, rfl, hin, fun h1 e1 => nx h1 _ ?_⟩)⟩
      · rw [ef, if_neg (by omega), if_neg (by omega)]
        subst e1
        exact gM_xJ (v := 0) hM (by decide) rfl
      · rw [ef, if_neg (by omega), if_pos (by omega)]
        subst e1
        exact gM_xJ hM (by decide) rfl
      · rw [ef, if_pos (by omega)]
        subst e1
        exact gM_xJ hM (by decide) rfl
    refine bk_M_tick_212 ?_
    rw [RM_n hM, en, ed, er, RM_R239 hM, RM_T12 hM, RM_N12 hM, nI_clamp (by omega), RM_a12 hM, f_crs_nk (by decide), nI_1 (8 + k), RM_R230 hM, RM_T3 hM, RM_N3 hM, nI_clamp (by omega), RM_a3 hM, f_crs_nk (by decide), RM_R231 hM, RM_T4 hM, RM_N4 hM, RM_a4 hM, f_crs_nk (by decide), RM_R241 hM, RM_T14 hM, RM_N14 hM, RM_a14 hM, s14, RM_R228 hM, RM_T1 hM, RM_N1 hM, RM_a1 hM, f_crs_nk (by decide), RM_R240 hM, RM_T13 hM, RM_N13 hM, RM_a13 hM, f_crs_nk (by decide), jJ_add, jJ_mul, jJ_sub, ← iI_nat ((8 + k) % 8)]
    refine ⟨RM_T hM, fun z => absurd z (nI_ge (by omega) (by omega)), fun _ => ⟨by decide, RM_T hM, rfl, hin, ek_if (cmp_le (b := 0) (by unfold rJ; omega) (by unfold rJ; omega)) (fun c => nx h _ ?_) (fun c => ⟨RM_T hM, Or.inl rfl, hin1, ek_if (iI_le (b := 0) (by unfold rI; omega) (by unfold rI; omega)) (fun c2 => c300 (by omega) (by omega)) (fun c2 => ⟨RM_T hM, Or.inl rfl, hin1, by decide, ek_if (iI_eq (by unfold rI; omega) (by unfold rI; omega)) (fun c3 => ⟨RM_T hM, RM_T hM, rfl, hin, RM_T hM, rfl, hin, RM_T hM, rfl, hin1, RM_T hM, rfl, hin, rfl, hin, fun h2 e2 => nx h2 _ ?_⟩) (fun c3 => c300 (by omega) (by omega))⟩)⟩)⟩⟩
    · unfold f_cr1
      rw [f_crs_nk (k := 12) (by decide), if_neg (by omega)]
      exact gM_rf hM
    · unfold f_cr1
      rw [s14, f_crs_nk (k := 12) (by decide), f_crs_nk (k := 3) (by decide), f_crs_nk (k := 4) (by decide), f_crs_nk (k := 1) (by decide), f_crs_nk (k := 13) (by decide), if_pos (by omega), if_pos (by omega)]
      subst e2
      exact gM_xJ hM (by decide) rfl
def f_tick (n : Nat) (σ : sg) : sg := am_u2 (f_crs (f_begs (f_ends σ n) n) (8 * n)) 0 0 (σ 0 0 + 1)
theorem sp_M_tick {d m n : Nat} {h : am_H} {σ : sg} {Q : Option am_V → am_H → Prop} (hM : RM h m n σ) (hw : WS σ) (hQ : ∀ h', gM m n h (f_tick n σ) h' → Q none h') : am_PC (d + 3) mi_M_tick [.inr (.inr m)] h Q := by
  have hn := hM.1
  refine bk_M_tick ?_
  refine lp_M_tick2 (h0 := h) hw hn (fun h1 g1 => ?_) n 0 h none (by omega) (gM_rf hM)
  refine lp_M_tick147 (h0 := h1) (f_ends_WS hw n) hn (fun h2 g2 => ?_) n 0 h1 none (by omega) (gM_rf g1.1)
  refine lp_M_tick212 (h0 := h2) (f_begs_WS (f_ends_WS hw n) hn.2) hn (fun h3 g3 => ?_) (8 * n) 0 h2 none (by omega) (gM_rf g2.1)
  rw [f_begs_ne (by decide), f_ends_ne (by decide)] at g3
  exact hQ h3 (gM_tr (gM_tr g1 g2) g3)
end
section
/-! THE REFERENCE: run -/
theorem mul_bd {a b : Int} (ha : 0 ≤ a ∧ a ≤ 10000) (hb : 0 ≤ b ∧ b ≤ 1000) : 0 ≤ a * b ∧ a * b ≤ 10000000 := by
  refine ⟨Int.mul_nonneg ha.1 hb.1, ?_⟩
  have := Int.mul_le_mul ha.2 hb.2 hb.1 (by omega : (0 : Int) ≤ 10000)
  omega
theorem f_crs_14 {σ : sg} (hw : WS σ) {i : Nat} (hi : i ≤ 128) : ∀ j, j < 136 → -(10000000 * (σ 0 0 + 1)) ≤ f_crs σ i 14 j ∧ f_crs σ i 14 j ≤ 10000000 * (σ 0 0 + 1) := by
  obtain ⟨w0, w1, w2, w3, w4, a1, a2, a3, a4, a5, a6, a7, a8, a9, a10, a11, a12, a13, a14, a15, a16, a17, a18, a19, a20, a21, a22⟩ := WM_of hw
  induction i with
  | zero =>
    intro j hj
    have := a14 j hj
    show _ ≤ σ 14 j ∧ σ 14 j ≤ _
    omega
  | succ i ih =>
    intro j hj
    rw [f_crs]
    by_cases hc : j = 8 + i
    · subst hc
      have b14 := a14 (8 + i) hj
      have b12 := a12 (8 + i) hj
      have b1 := a1 ((8 + i) / 8) (by omega)
      have b13 := a13 (8 + i) hj
      have bm := mul_bd b1 b13
      have s14 : f_crs σ i 14 (8 + i) = σ 14 (8 + i) := f_crs_ne (by omega)
      unfold f_cr1
      rw [f_crs_nk (k := 12) (by decide), f_crs_nk (k := 3) (by decide), f_crs_nk (k := 4) (by decide), f_crs_nk (k := 1) (by decide), f_crs_nk (k := 13) (by decide), f_crs_nk (k := 7) (by decide)]
      split
      · split
        · rw [u2_eq, s14]; omega
        · split
          · rw [u2_eq, s14]; omega
          · rw [u2_eq, s14]; split <;> omega
      · rw [s14]; omega
    · rw [f_cr1_ne (by omega)]
      exact ih (by omega) j hj
theorem f_tick_WS {n : Nat} {σ : sg} (hw : WS σ) (hn : n ≤ 16) (ht : σ 0 0 < 2000000) : WS (f_tick n σ) := by
  have h1 : WS (f_begs (f_ends σ n) n) := f_begs_WS (f_ends_WS hw n) hn
  have e0 : f_begs (f_ends σ n) n 0 0 = σ 0 0 := by rw [f_begs_ne (by decide), f_ends_ne (by decide)]
  have c := f_crs_14 h1 (i := 8 * n) (by omega)
  rw [e0] at c
  obtain ⟨w0, w1, w2, w3, w4, b, q, c0, l, t⟩ := h1
  rw [e0] at w0
  unfold f_tick WS
  simp only [u2_ne (show ¬ 7 = 0 by decide), u2_ne (show ¬ 8 = 0 by decide), u2_ne (show ¬ 14 = 0 by decide), u2_ne (show ¬ 15 = 0 by decide), u2_ne (show ¬ 20 = 0 by decide), u2_nj (show ¬ 1 = 0 by decide), u2_nj (show ¬ 2 = 0 by decide), u2_nj (show ¬ 3 = 0 by decide), u2_nj (show ¬ 4 = 0 by decide), u2_eq, f_crs_nk (show ¬ 0 = 14 by decide), f_crs_nk (show ¬ 7 = 14 by decide), f_crs_nk (show ¬ 8 = 14 by decide), f_crs_nk (show ¬ 15 = 14 by decide), f_crs_nk (show ¬ 20 = 14 by decide)]
  refine ⟨by omega, w1, w2, w3, w4, fun k j h1 h2 h3 h4 h5 h7 h6 => ?_, q, c, l, t⟩
  rw [u2_ne (by omega), f_crs_nk h4]
  exact b k j h1 h2 h3 h4 h5 h7 h6
theorem f_tick_00 {n : Nat} {σ : sg} : f_tick n σ 0 0 = σ 0 0 + 1 := u2_eq
def ticks (n : Nat) (σ : sg) : Nat → sg
  | 0 => σ
  | k + 1 => f_tick n (ticks n σ k)
theorem ticks_00 {n : Nat} {σ : sg} (k : Nat) : ticks n σ k 0 0 = σ 0 0 + k := by
  induction k with
  | zero => exact (Int.add_zero _).symm
  | succ k ih => rw [ticks, f_tick_00, ih]; omega
theorem ticks_WS {n : Nat} {σ : sg} (hw : WS σ) (hn : n ≤ 16) (k : Nat) (ht : σ 0 0 + k ≤ 2000000) : WS (ticks n σ k) := by
  induction k with
  | zero => exact hw
  | succ k ih => exact f_tick_WS (ih (by omega)) hn (by rw [ticks_00]; omega)
def f_run (n : Nat) (σ : sg) (v : Int) : Int × sg := if v < 0 ∨ 2000 < v then (-2, σ) else (ticks n σ v.toNat 0 3 - σ 0 3, ticks n σ v.toNat)
theorem lp_M_run {d m n N : Nat} {b : Int} {h0 : am_H} {σ : sg} {Q : Option am_V → am_H → Prop} (hw : WS σ) (ht : σ 0 0 + N ≤ 2000000) (hN : N ≤ 2000) (hQ : ∀ h', gM m n h0 (ticks n σ N) h' → Q (some (.inl (iI (ticks n σ N 0 3 - b)))) h') : ∀ (j k : Nat) (h : am_H) (y2 y5 : Option am_V), k + j = N → gM m n h0 (ticks n σ k) h → am_P (d + 3) mi_M_run 30 [some (.inr (.inr m)), some (.inr (.inl (jJ N))), y2, some (.inl (iI b)), some (.inr (.inl (jJ k))), y5] [] h Q := by
  intro j
  induction j with
  | zero =>
    intro k h y2 y5 hk g
    have hk : k = N := by omega
    subst hk
    have hM := g.1
    refine bk_M_run_30 ?_
    rw [RM_I251 hM, iI_sub]
    exact ⟨fun _ => ⟨RM_T hM, hQ h g⟩, fun z => absurd ((cmp_ge (a := (k : Int)) (b := k) (by unfold rJ; omega) (by unfold rJ; omega)).mpr (Int.le_refl _)) z⟩
  | succ j ih =>
    intro k h y2 y5 hk g
    have hM := g.1
    refine bk_M_run_30 ?_
    rw [show (1 : Int64) = jJ 1 from rfl, jJ_add]
    refine ek_if (cmp_ge (a := (k : Int)) (b := N) (by unfold rJ; omega) (by unfold rJ; omega)) (fun c => by omega) (fun c => ⟨RM_T hM, ?_⟩)
    exact sp_M_tick hM (ticks_WS hw hM.1.2 k (by omega)) (fun h2 g2 => ⟨rfl, ih (k + 1) h2 _ _ (by omega) (gM_tr g g2)⟩)
theorem sp_M_run {d m n : Nat} {v : Int} {h : am_H} {σ : sg} {Q : Option am_V → am_H → Prop} (hM : RM h m n σ) (hw : WS σ) (hv : rJ v) (ht : σ 0 0 + 2000 ≤ 2000000)
    (hQ : ∀ h', gM m n h (f_run n σ v).2 h' → Q (some (.inl (iI (f_run n σ v).1))) h') : am_PC (d + 4) mi_M_run [.inr (.inr m), .inr (.inl (jJ v))] h Q := by
  have hq : ∀ (x : Int × sg) (w : Int32) h', iI x.1 = w → f_run n σ v = x → gM m n h x.2 h' → Q (some (.inl w)) h' := fun x w h' e1 e g => by subst e1; subst e; exact hQ h' g
  refine bk_M_run ⟨RM_T hM, fun h1 e1 => ?_⟩
  have g1 : gM m n h σ h1 := by subst e1; exact gM_code hM
  refine ek_if (cmp_lt (b := 0) hv (by unfold rJ; omega)) (fun q => hq (-2, σ) _ _ im2 (by unfold f_run; rw [if_pos (by omega)]) g1) (fun q => ek_if (cmp_le (b := 2000) hv (by unfold rJ; omega)) (fun q2 => ⟨RM_T g1.1, ?_⟩) (fun q2 => hq (-2, σ) _ _ im2 (by unfold f_run; rw [if_pos (by omega)]) g1))
  obtain ⟨k, rfl⟩ := Int.eq_ofNat_of_zero_le (show 0 ≤ v by omega)
  rw [RM_I251 g1.1]
  refine lp_M_run (N := k) (h0 := h1) hw (by omega) (by omega) (fun h2 g2 => ?_) k 0 h1 _ _ (by omega) (gM_rf g1.1)
  exact hq _ _ _ rfl (by unfold f_run; rw [if_neg (by omega)]) (gM_tr g1 g2)
def f_clock (n : Nat) (σ : sg) (p v : Int) : Int × sg := if p < 1 ∨ (n : Int) < p then (-1, σ) else if v < 0 ∨ 1000000 < v then (-2, σ) else (clk (σ 2 p.toNat) v, am_u2 σ 2 p.toNat (clk (σ 2 p.toNat) v))
theorem sp_M_clock {d m n : Nat} {p v : Int} {h : am_H} {σ : sg} {Q : Option am_V → am_H → Prop} (hM : RM h m n σ) (hp : rI p) (hv : rJ v) (h2 : ∀ j, j < 17 → 0 ≤ σ 2 j ∧ σ 2 j ≤ 1000000)
    (hQ : ∀ h', gM m n h (f_clock n σ p v).2 h' → Q (some (.inl (iI (f_clock n σ p v).1))) h') : am_PC (d + 2) mi_M_clock [.inr (.inr m), .inl (iI p), .inr (.inl (jJ v))] h Q := by
  have hn := hM.1
  have hq : ∀ (x : Int × sg) (w : Int32) h', iI x.1 = w → f_clock n σ p v = x → gM m n h x.2 h' → Q (some (.inl w)) h' := fun x w h' e1 e g => by subst e1; subst e; exact hQ h' g
  by_cases c : p < 1 ∨ (n : Int) < p
  · refine sp_M_clock_1 hM ?_ (fun h' g => hq (-1, σ) _ _ im1 (by unfold f_clock; rw [if_pos c]) g)
    rw [iI_p1 hp, iI_pn hp hn.2]
    omega
  · by_cases c2 : v < 0 ∨ 1000000 < v
    · refine sp_M_clock_2 hM ?_ ?_ hv c2 (fun h' g => hq (-2, σ) _ _ im2 (by unfold f_clock; rw [if_neg c, if_pos c2]) g)
      · rw [iI_p1 hp]; omega
      · rw [iI_pn hp hn.2]; omega
    · obtain ⟨k, hk⟩ : ∃ k : Nat, p = ((k + 1 : Nat) : Int) := ⟨p.toNat - 1, by omega⟩
      subst hk
      have e1 : ¬ iI ((k + 1 : Nat) : Int) < 1 := by rw [iI_p1 hp]; omega
      have e2 : ¬ nI n < iI ((k + 1 : Nat) : Int) := by rw [iI_pn hp hn.2]; omega
      rw [iI_nat] at e1 e2 ⊢
      exact sp_M_clock_3 (i := k) hM (by omega) e1 e2 (by omega) (h2 (k + 1) (by omega)) (fun h' g => hq (clk (σ 2 (k + 1)) v, am_u2 σ 2 (k + 1) (clk (σ 2 (k + 1)) v)) _ _ rfl (by unfold f_clock; rw [if_neg c, if_neg c2]; rfl) g)
end
section
/-! THE CLASS: its cells, tied to the same state. Kinds of its own: 30 the last window's end, 31 a port's waiting, 32 a ring's first, 33 a ring's frames, 34 a ring's lengths, 35 36 37 a stream's rate, thousand, taken -/
def SI (x n k j f a : Nat) : Prop := (k = 0 ∧ j = 2 ∧ f = 9 ∧ a = x) ∨ (k = 0 ∧ j = 3 ∧ f = 10 ∧ a = x) ∨ (∃ i, i < n ∧ j = i + 1 ∧ a = px x i ∧ ((k = 31 ∧ f = 36) ∨ (k = 3 ∧ f = 37) ∨ (k = 4 ∧ f = 38))) ∨ (∃ i r, i < n ∧ r < 8 ∧ j = 8 * (i + 1) + r ∧ a = kx x i r ∧ ((k = 32 ∧ f = 66) ∨ (k = 7 ∧ f = 67) ∨ (k = 9 ∧ f = 70)))
def SJ (x n k j f a : Nat) : Prop := (a = x ∧ ((k = 0 ∧ j = 0 ∧ f = 6) ∨ (k = 0 ∧ j = 1 ∧ f = 7) ∨ (k = 30 ∧ j = 0 ∧ f = 8))) ∨ (∃ i, i < n ∧ j = i + 1 ∧ a = px x i ∧ ((k = 1 ∧ f = 34) ∨ (k = 2 ∧ f = 35) ∨ (k = 5 ∧ f = 39) ∨ (k = 6 ∧ f = 40))) ∨ (∃ i r, i < n ∧ r < 8 ∧ j = 8 * (i + 1) + r ∧ a = kx x i r ∧ ((k = 12 ∧ f = 71) ∨ (k = 13 ∧ f = 72) ∨ (k = 14 ∧ f = 73)))
def TI (x n k j a t : Nat) : Prop := (k = 24 ∧ a = ax x n + 2 ∧ t = j ∧ j < 4) ∨ (k = 21 ∧ a = ax x n + 3 ∧ t = j ∧ j < 101) ∨ (∃ i r, i < n ∧ r < 8 ∧ t < 16 ∧ j = 16 * (8 * (i + 1) + r) + t ∧ ((k = 33 ∧ a = kx x i r + 1) ∨ (k = 34 ∧ a = kx x i r + 2)))
def TJ (x n k j a t : Nat) : Prop := (k = 22 ∧ a = ax x n + 4 ∧ t = j ∧ j < 101) ∨ (∃ i r, i < n ∧ r < 8 ∧ t < 8 ∧ j = 8 * (8 * (i + 1) + r) + t ∧ ((k = 10 ∧ a = kx x i r + 3) ∨ (k = 11 ∧ a = kx x i r + 4)))
theorem SI_u {x n k j f a k' j' f' a' : Nat} (h : SI x n k j f a) (h' : SI x n k' j' f' a') : (f' = f ∧ a' = a) ↔ (k' = k ∧ j' = j) := by
  unfold SI px kx at h h'
  rcases h with h | h | ⟨i, h⟩ | ⟨i, r, h⟩ <;> rcases h' with h' | h' | ⟨i', h'⟩ | ⟨i', r', h'⟩ <;> omega
theorem SJ_u {x n k j f a k' j' f' a' : Nat} (h : SJ x n k j f a) (h' : SJ x n k' j' f' a') : (f' = f ∧ a' = a) ↔ (k' = k ∧ j' = j) := by
  unfold SJ px kx at h h'
  rcases h with h | ⟨i, h⟩ | ⟨i, r, h⟩ <;> rcases h' with h' | ⟨i', h'⟩ | ⟨i', r', h'⟩ <;> omega
theorem TI_u {x n k j a t k' j' a' t' : Nat} (h : TI x n k j a t) (h' : TI x n k' j' a' t') : (a' = a ∧ t' = t) ↔ (k' = k ∧ j' = j) := by
  unfold TI ax kx at h h'
  rcases h with h | h | ⟨i, r, h⟩ <;> rcases h' with h' | h' | ⟨i', r', h'⟩ <;> omega
theorem TJ_u {x n k j a t k' j' a' t' : Nat} (h : TJ x n k j a t) (h' : TJ x n k' j' a' t') : (a' = a ∧ t' = t) ↔ (k' = k ∧ j' = j) := by
  unfold TJ ax kx at h h'
  rcases h with h | ⟨i, r, h⟩ <;> rcases h' with h' | ⟨i', r', h'⟩ <;> omega
/-- cells that are not the class's: ahead of it, the reference's, the law's array -/
def OX (x n a : Nat) : Prop := a < x ∨ (ax x n + 5 ≤ a ∧ a ≤ ax x n + 30)
theorem SI_in {x n k j f a : Nat} (h : SI x n k j f a) : ¬ OX x n a ∧ a < ax x n + 5 ∧ ¬ f = 32 ∧ ¬ f = 193 ∧ ¬ f = 97 ∧ ¬ f = 130 ∧ ¬ f = 160 ∧ ¬ f = 161 ∧ ¬ k = 16 ∧ ¬ k = 37 ∧ ¬ k = 23 ∧ ¬ (k = 0 ∧ j = 4) ∧ ¬ k = 17 ∧ ¬ k = 35 ∧ ¬ k = 36 := by
  unfold SI px kx at h
  unfold OX ax
  rcases h with h | h | ⟨i, h⟩ | ⟨i, r, h⟩ <;> omega
theorem SJ_in {x n k j f a : Nat} (h : SJ x n k j f a) : ¬ OX x n a ∧ a < ax x n + 5 ∧ ¬ f = 98 ∧ ¬ f = 128 ∧ ¬ f = 129 ∧ ¬ f = 162 ∧ ¬ f = 163 ∧ ¬ k = 16 ∧ ¬ k = 37 ∧ ¬ k = 23 ∧ ¬ (k = 0 ∧ j = 4) ∧ ¬ k = 17 ∧ ¬ k = 35 ∧ ¬ k = 36 := by
  unfold SJ px kx at h
  unfold OX ax
  rcases h with h | ⟨i, h⟩ | ⟨i, r, h⟩ <;> omega
theorem TI_in {x n k j a t : Nat} (h : TI x n k j a t) : ¬ OX x n a ∧ a < ax x n + 5 ∧ ¬ k = 16 ∧ ¬ k = 37 ∧ ¬ k = 23 ∧ ¬ (k = 0 ∧ j = 4) ∧ ¬ k = 17 ∧ ¬ k = 35 ∧ ¬ k = 36 := by
  unfold TI kx ax at h
  unfold OX ax
  rcases h with h | h | ⟨i, r, h⟩ <;> omega
theorem TJ_in {x n k j a t : Nat} (h : TJ x n k j a t) : ¬ OX x n a ∧ a < ax x n + 5 ∧ ¬ k = 16 ∧ ¬ k = 37 ∧ ¬ k = 23 ∧ ¬ (k = 0 ∧ j = 4) ∧ ¬ k = 17 ∧ ¬ k = 35 ∧ ¬ k = 36 := by
  unfold TJ kx ax at h
  unfold OX ax
  rcases h with h | ⟨i, r, h⟩ <;> omega
/-- fixed cells -/
def RXs (h : am_H) (x n : Nat) (s : sg) : Prop := SX h x n ∧ (∀ k j f a, SI x n k j f a → am_I h f a = iI (s k j)) ∧ (∀ k j f a, SJ x n k j f a → am_J h f a = jJ (s k j)) ∧ (∀ k j a t, TI x n k j a t → am_aI h a t = iI (s k j)) ∧ (∀ k j a t, TJ x n k j a t → am_aJ h a t = jJ (s k j))
/-- an address's cells at v -/
def RA (h : am_H) (s : sg) (a v : Nat) : Prop := am_T h v = 13 ∧ am_R h 96 v = v + 1 ∧ am_T h (v + 1) = 103 ∧ am_N h (v + 1) = 8 ∧ am_I h 97 v = iI (s 16 a) ∧ am_J h 98 v = jJ (s 17 a) ∧ ∀ r, r < 8 → am_aR h (v + 1) r = v + 2 + r ∧ am_T h (v + 2 + r) = 14 ∧ am_J h 128 (v + 2 + r) = jJ (s 35 (8 * a + r)) ∧ am_J h 129 (v + 2 + r) = jJ (s 36 (8 * a + r)) ∧ am_I h 130 (v + 2 + r) = iI (s 37 (8 * a + r))
def RXa (h : am_H) (x n : Nat) (s : sg) (α : Nat → Nat) : Prop := (∀ a, a ≤ 1000 → am_aR h (ax x n) a = α a) ∧ (∀ a, a ≤ 1000 → ¬ α a = 0 → ax x n + 30 < α a ∧ α a + 9 ≤ am_Z h ∧ RA h s a (α a)) ∧ (∀ a, a ≤ 1000 → α a = 0 → s 16 a = 0 ∧ s 17 a = 0 ∧ ∀ r, r < 8 → s 35 (8 * a + r) = -1 ∧ s 36 (8 * a + r) = 0 ∧ s 37 (8 * a + r) = 0) ∧ (∀ a b, a ≤ 1000 → b ≤ 1000 → ¬ a = b → ¬ α a = 0 → ¬ α b = 0 → α a + 10 ≤ α b ∨ α b + 10 ≤ α a)
/-- the list: its array e, its departures -/
def RD (h : am_H) (x n : Nat) (s : sg) (i v : Nat) : Prop := ax x n + 30 < v ∧ v ≤ am_Z h ∧ am_T h v = 15 ∧ am_I h 160 v = iI (s 23 (4 * i)) ∧ am_I h 161 v = iI (s 23 (4 * i + 1)) ∧ am_J h 162 v = jJ (s 23 (4 * i + 2)) ∧ am_J h 163 v = jJ (s 23 (4 * i + 3))
def RXd (h : am_H) (x n : Nat) (s : sg) (e : Nat) : Prop := am_I h 193 (ax x n + 1) = iI (s 0 4) ∧ am_R h 192 (ax x n + 1) = e ∧ (0 ≤ s 0 4 ∧ s 0 4 ≤ 5000) ∧ ((s 0 4 = 0 ∧ e = am_R h 9000 0 ∧ e < x ∧ am_T h e = 4 ∧ am_N h e = 0) ∨ (ax x n + 30 < e ∧ e ≤ am_Z h ∧ am_T h e = 104 ∧ s 0 4 ≤ am_N h e ∧ 10 ≤ am_N h e ∧ am_N h e ≤ 7500)) ∧ (∀ i : Nat, (i : Int) < s 0 4 → RD h x n s i (am_aR h e i))
/-- the room that is used -/
def RO (h : am_H) (s : sg) (e c : Nat) : Prop := am_C h ≤ 2000 + 20 * c + (s 0 4).toNat + am_N h e ∧ am_S h ≤ 200000 + 100 * c + 4 * (s 0 4).toNat + 4 * am_N h e
def RX (h : am_H) (x n : Nat) (s : sg) (α : Nat → Nat) (e c : Nat) : Prop := RXs h x n s ∧ RXa h x n s α ∧ RXd h x n s e ∧ RO h s e c ∧ ax x n + 30 ≤ am_Z h
theorem SX_sI {h : am_H} {x n f a : Nat} {v : Int32} (hS : SX h x n) (hf : ¬ f = 32) : SX (am_sI h f a v) x n := by
  obtain ⟨s1, s2, s3, s4, s5⟩ := hS
  refine ⟨s1, s2, s3, fun i hi => ?_, s5⟩
  obtain ⟨t1, t2, t3⟩ := s4 i hi
  exact ⟨t1, by rw [hp_I_sI, if_neg (fun z => hf z.1.symm)]; exact t2, t3⟩
/-- what RA says of the state -/
theorem RA_s {h : am_H} {s s' : sg} {a v : Nat} (hR : RA h s a v) (h16 : s' 16 a = s 16 a) (h17 : s' 17 a = s 17 a) (h3 : ∀ r, r < 8 → s' 35 (8 * a + r) = s 35 (8 * a + r) ∧ s' 36 (8 * a + r) = s 36 (8 * a + r) ∧ s' 37 (8 * a + r) = s 37 (8 * a + r)) : RA h s' a v := by
  obtain ⟨t1, t2, t3, t4, t5, t6, t7⟩ := hR
  refine ⟨t1, t2, t3, t4, by rw [h16]; exact t5, by rw [h17]; exact t6, fun r hr => ?_⟩
  obtain ⟨u1, u2, u3, u4, u5⟩ := t7 r hr
  obtain ⟨v1, v2, v3⟩ := h3 r hr
  exact ⟨u1, u2, by rw [v1]; exact u3, by rw [v2]; exact u4, by rw [v3]; exact u5⟩
theorem RX_sI {h : am_H} {x n k j f a e c : Nat} {s : sg} {α : Nat → Nat} {v : Int} (hX : RX h x n s α e c) (hs : SI x n k j f a) : RX (am_sI h f a (iI v)) x n (am_u2 s k j v) α e c := by
  obtain ⟨⟨b1, b2, b3, b4, b5⟩, ⟨a1, a2, a3, a4⟩, ⟨d1, d2, d3, d4, d5⟩, ⟨o1, o2⟩, hz⟩ := hX
  obtain ⟨n1, n2, n3, n4, n5, n6, n7, n8, n9, n10, n11, n12, n13, n14, n15⟩ := SI_in hs
  have e04 : am_u2 s k j v 0 4 = s 0 4 := by rw [am_u2, if_neg (fun z => n12 ⟨z.1.symm, z.2.symm⟩)]
  have ek : ∀ k', ¬ k = k' → ∀ j', am_u2 s k j v k' j' = s k' j' := fun k' hk j' => u2_ne (fun z => hk z.symm)
  have gI : ∀ f' b, ¬ f = f' → am_I (am_sI h f a (iI v)) f' b = am_I h f' b := fun f' b hf => by rw [hp_I_sI, if_neg (fun z => hf z.1.symm)]
  refine ⟨⟨SX_sI b1 n3, fun k' j' f' a' hs' => ?_, fun k' j' f' a' hs' => ?_, fun k' j' a' t' hs' => ?_, fun k' j' a' t' hs' => ?_⟩, ⟨a1, fun b hb hb0 => ?_, fun b hb hb0 => ?_, a4⟩, ⟨?_, d2, by rw [e04]; exact d3, by rw [e04]; exact d4, fun i hi => ?_⟩, ⟨by rw [e04]; exact o1, by rw [e04]; exact o2⟩, hz⟩
  · rw [hp_I_sI, am_u2]
    by_cases hc : f' = f ∧ a' = a
    · rw [if_pos hc, if_pos ((SI_u hs hs').mp hc)]
    · rw [if_neg hc, if_neg (fun z => hc ((SI_u hs hs').mpr z))]
      exact b2 k' j' f' a' hs'
  · rw [hp_J_sI, am_u2, if_neg (fun z => ?_)]
    · exact b3 k' j' f' a' hs'
    · rw [z.1, z.2] at hs'
      unfold SI at hs
      unfold SJ at hs'
      rcases hs with hs | hs | ⟨i, hs⟩ | ⟨i, r, hs⟩ <;> rcases hs' with hs' | ⟨i', hs'⟩ | ⟨i', r', hs'⟩ <;> omega
  · rw [hp_aI_sI, am_u2, if_neg (fun z => ?_)]
    · exact b4 k' j' a' t' hs'
    · rw [z.1, z.2] at hs'
      unfold SI at hs
      unfold TI at hs'
      rcases hs with hs | hs | ⟨i, hs⟩ | ⟨i, r, hs⟩ <;> rcases hs' with hs' | hs' | ⟨i', r', hs'⟩ <;> omega
  · rw [hp_aJ_sI, am_u2, if_neg (fun z => ?_)]
    · exact b5 k' j' a' t' hs'
    · rw [z.1, z.2] at hs'
      unfold SI at hs
      unfold TJ at hs'
      rcases hs with hs | hs | ⟨i, hs⟩ | ⟨i, r, hs⟩ <;> rcases hs' with hs' | ⟨i', r', hs'⟩ <;> omega
  · obtain ⟨z1, z2, z3⟩ := a2 b hb hb0
    obtain ⟨t1, t2, t3, t4, t5, t6, t7⟩ := RA_s (s' := am_u2 s k j v) z3 (ek 16 n9 _) (ek 17 n13 _) (fun r hr => ⟨ek 35 n14 _, ek 36 n15 _, ek 37 n10 _⟩)
    refine ⟨z1, z2, t1, t2, t3, t4, by rw [gI 97 _ n5]; exact t5, t6, fun r hr => ?_⟩
    obtain ⟨u1, u2, u3, u4, u5⟩ := t7 r hr
    exact ⟨u1, u2, u3, u4, by rw [gI 130 _ n6]; exact u5⟩
  · obtain ⟨z1, z2, z3⟩ := a3 b hb hb0
    rw [ek 16 n9, ek 17 n13]
    refine ⟨z1, z2, fun r hr => ?_⟩
    rw [ek 35 n14, ek 36 n15, ek 37 n10]
    exact z3 r hr
  · rw [e04, gI 193 _ n4]; exact d1
  · rw [e04] at hi
    obtain ⟨q0, q1, q2, q3, q4, q5, q6⟩ := d5 i hi
    exact ⟨q0, q1, q2, by rw [gI 160 _ n7, ek 23 n11]; exact q3, by rw [gI 161 _ n8, ek 23 n11]; exact q4, by rw [ek 23 n11]; exact q5, by rw [ek 23 n11]; exact q6⟩
theorem RX_sJ {h : am_H} {x n k j f a e c : Nat} {s : sg} {α : Nat → Nat} {v : Int} (hX : RX h x n s α e c) (hs : SJ x n k j f a) : RX (am_sJ h f a (jJ v)) x n (am_u2 s k j v) α e c := by
  obtain ⟨⟨b1, b2, b3, b4, b5⟩, ⟨a1, a2, a3, a4⟩, ⟨d1, d2, d3, d4, d5⟩, ⟨o1, o2⟩, hz⟩ := hX
  obtain ⟨n1, n2, n5, n6, n4, n7, n8, n9, n10, n11, n12, n13, n14, n15⟩ := SJ_in hs
  have e04 : am_u2 s k j v 0 4 = s 0 4 := by rw [am_u2, if_neg (fun z => n12 ⟨z.1.symm, z.2.symm⟩)]
  have ek : ∀ k', ¬ k = k' → ∀ j', am_u2 s k j v k' j' = s k' j' := fun k' hk j' => u2_ne (fun z => hk z.symm)
  have gJ : ∀ f' b, ¬ f = f' → am_J (am_sJ h f a (jJ v)) f' b = am_J h f' b := fun f' b hf => by rw [hp_J_sJ, if_neg (fun z => hf z.1.symm)]
  refine ⟨⟨b1, fun k' j' f' a' hs' => ?_, fun k' j' f' a' hs' => ?_, fun k' j' a' t' hs' => ?_, fun k' j' a' t' hs' => ?_⟩, ⟨a1, fun b hb hb0 => ?_, fun b hb hb0 => ?_, a4⟩, ⟨by rw [e04]; exact d1, d2, by rw [e04]; exact d3, by rw [e04]; exact d4, fun i hi => ?_⟩, ⟨by rw [e04]; exact o1, by rw [e04]; exact o2⟩, hz⟩
  · rw [hp_I_sJ, am_u2, if_neg (fun z => ?_)]
    · exact b2 k' j' f' a' hs'
    · rw [z.1, z.2] at hs'
      unfold SJ at hs
      unfold SI at hs'
      rcases hs with hs | ⟨i, hs⟩ | ⟨i, r, hs⟩ <;> rcases hs' with hs' | hs' | ⟨i', hs'⟩ | ⟨i', r', hs'⟩ <;> omega
  · rw [hp_J_sJ, am_u2]
    by_cases hc : f' = f ∧ a' = a
    · rw [if_pos hc, if_pos ((SJ_u hs hs').mp hc)]
    · rw [if_neg hc, if_neg (fun z => hc ((SJ_u hs hs').mpr z))]
      exact b3 k' j' f' a' hs'
  · rw [hp_aI_sJ, am_u2, if_neg (fun z => ?_)]
    · exact b4 k' j' a' t' hs'
    · rw [z.1, z.2] at hs'
      unfold SJ at hs
      unfold TI at hs'
      rcases hs with hs | ⟨i, hs⟩ | ⟨i, r, hs⟩ <;> rcases hs' with hs' | hs' | ⟨i', r', hs'⟩ <;> omega
  · rw [hp_aJ_sJ, am_u2, if_neg (fun z => ?_)]
    · exact b5 k' j' a' t' hs'
    · rw [z.1, z.2] at hs'
      unfold SJ at hs
      unfold TJ at hs'
      rcases hs with hs | ⟨i, hs⟩ | ⟨i, r, hs⟩ <;> rcases hs' with hs' | ⟨i', r', hs'⟩ <;> omega
  · obtain ⟨z1, z2, z3⟩ := a2 b hb hb0
    obtain ⟨t1, t2, t3, t4, t5, t6, t7⟩ := RA_s (s' := am_u2 s k j v) z3 (ek 16 n9 _) (ek 17 n13 _) (fun r hr => ⟨ek 35 n14 _, ek 36 n15 _, ek 37 n10 _⟩)
    refine ⟨z1, z2, t1, t2, t3, t4, t5, by rw [gJ 98 _ n5]; exact t6, fun r hr => ?_⟩
    obtain ⟨u1, u2, u3, u4, u5⟩ := t7 r hr
    exact ⟨u1, u2, by rw [gJ 128 _ n6]; exact u3, by rw [gJ 129 _ n4]; exact u4, u5⟩
  · obtain ⟨z1, z2, z3⟩ := a3 b hb hb0
    rw [ek 16 n9, ek 17 n13]
    refine ⟨z1, z2, fun r hr => ?_⟩
    rw [ek 35 n14, ek 36 n15, ek 37 n10]
    exact z3 r hr
  · rw [e04] at hi
    obtain ⟨q0, q1, q2, q3, q4, q5, q6⟩ := d5 i hi
    exact ⟨q0, q1, q2, by rw [ek 23 n11]; exact q3, by rw [ek 23 n11]; exact q4, by rw [gJ 162 _ n7, ek 23 n11]; exact q5, by rw [gJ 163 _ n8, ek 23 n11]; exact q6⟩
theorem RX_xI {h : am_H} {x n k j a t e c : Nat} {s : sg} {α : Nat → Nat} {v : Int} (hX : RX h x n s α e c) (hs : TI x n k j a t) : RX (am_xI h a t (iI v)) x n (am_u2 s k j v) α e c := by
  obtain ⟨⟨b1, b2, b3, b4, b5⟩, ⟨a1, a2, a3, a4⟩, ⟨d1, d2, d3, d4, d5⟩, ⟨o1, o2⟩, hz⟩ := hX
  obtain ⟨n1, n2, n9, n10, n11, n12, n13, n14, n15⟩ := TI_in hs
  have e04 : am_u2 s k j v 0 4 = s 0 4 := by rw [am_u2, if_neg (fun z => n12 ⟨z.1.symm, z.2.symm⟩)]
  have ek : ∀ k', ¬ k = k' → ∀ j', am_u2 s k j v k' j' = s k' j' := fun k' hk j' => u2_ne (fun z => hk z.symm)
  refine ⟨⟨b1, fun k' j' f' a' hs' => ?_, fun k' j' f' a' hs' => ?_, fun k' j' a' t' hs' => ?_, fun k' j' a' t' hs' => ?_⟩, ⟨a1, fun b hb hb0 => ?_, fun b hb hb0 => ?_, a4⟩, ⟨by rw [e04]; exact d1, d2, by rw [e04]; exact d3, by rw [e04]; exact d4, fun i hi => ?_⟩, ⟨by rw [e04]; exact o1, by rw [e04]; exact o2⟩, hz⟩
  · rw [hp_I_xI, am_u2, if_neg (fun z => ?_)]
    · exact b2 k' j' f' a' hs'
    · rw [z.1, z.2] at hs'
      unfold TI at hs
      unfold SI at hs'
      rcases hs with hs | hs | ⟨i, r, hs⟩ <;> rcases hs' with hs' | hs' | ⟨i', hs'⟩ | ⟨i', r', hs'⟩ <;> omega
  · rw [hp_J_xI, am_u2, if_neg (fun z => ?_)]
    · exact b3 k' j' f' a' hs'
    · rw [z.1, z.2] at hs'
      unfold TI at hs
      unfold SJ at hs'
      rcases hs with hs | hs | ⟨i, r, hs⟩ <;> rcases hs' with hs' | ⟨i', hs'⟩ | ⟨i', r', hs'⟩ <;> omega
  · rw [hp_aI_xI, am_u2]
    by_cases hc : a' = a ∧ t' = t
    · rw [if_pos hc, if_pos ((TI_u hs hs').mp hc)]
    · rw [if_neg hc, if_neg (fun z => hc ((TI_u hs hs').mpr z))]
      exact b4 k' j' a' t' hs'
  · rw [hp_aJ_xI, am_u2, if_neg (fun z => ?_)]
    · exact b5 k' j' a' t' hs'
    · rw [z.1, z.2] at hs'
      unfold TI at hs
      unfold TJ at hs'
      rcases hs with hs | hs | ⟨i, r, hs⟩ <;> rcases hs' with hs' | ⟨i', r', hs'⟩ <;> omega
  · obtain ⟨z1, z2, z3⟩ := a2 b hb hb0
    exact ⟨z1, z2, RA_s (s' := am_u2 s k j v) z3 (ek 16 n9 _) (ek 17 n13 _) (fun r hr => ⟨ek 35 n14 _, ek 36 n15 _, ek 37 n10 _⟩)⟩
  · obtain ⟨z1, z2, z3⟩ := a3 b hb hb0
    rw [ek 16 n9, ek 17 n13]
    refine ⟨z1, z2, fun r hr => ?_⟩
    rw [ek 35 n14, ek 36 n15, ek 37 n10]
    exact z3 r hr
  · rw [e04] at hi
    obtain ⟨q0, q1, q2, q3, q4, q5, q6⟩ := d5 i hi
    exact ⟨q0, q1, q2, by rw [ek 23 n11]; exact q3, by rw [ek 23 n11]; exact q4, by rw [ek 23 n11]; exact q5, by rw [ek 23 n11]; exact q6⟩
theorem RX_xJ {h : am_H} {x n k j a t e c : Nat} {s : sg} {α : Nat → Nat} {v : Int} (hX : RX h x n s α e c) (hs : TJ x n k j a t) : RX (am_xJ h a t (jJ v)) x n (am_u2 s k j v) α e c := by
  obtain ⟨⟨b1, b2, b3, b4, b5⟩, ⟨a1, a2, a3, a4⟩, ⟨d1, d2, d3, d4, d5⟩, ⟨o1, o2⟩, hz⟩ := hX
  obtain ⟨n1, n2, n9, n10, n11, n12, n13, n14, n15⟩ := TJ_in hs
  have e04 : am_u2 s k j v 0 4 = s 0 4 := by rw [am_u2, if_neg (fun z => n12 ⟨z.1.symm, z.2.symm⟩)]
  have ek : ∀ k', ¬ k = k' → ∀ j', am_u2 s k j v k' j' = s k' j' := fun k' hk j' => u2_ne (fun z => hk z.symm)
  refine ⟨⟨b1, fun k' j' f' a' hs' => ?_, fun k' j' f' a' hs' => ?_, fun k' j' a' t' hs' => ?_, fun k' j' a' t' hs' => ?_⟩, ⟨a1, fun b hb hb0 => ?_, fun b hb hb0 => ?_, a4⟩, ⟨by rw [e04]; exact d1, d2, by rw [e04]; exact d3, by rw [e04]; exact d4, fun i hi => ?_⟩, ⟨by rw [e04]; exact o1, by rw [e04]; exact o2⟩, hz⟩
  · rw [hp_I_xJ, am_u2, if_neg (fun z => ?_)]
    · exact b2 k' j' f' a' hs'
    · rw [z.1, z.2] at hs'
      unfold TJ at hs
      unfold SI at hs'
      rcases hs with hs | ⟨i, r, hs⟩ <;> rcases hs' with hs' | hs' | ⟨i', hs'⟩ | ⟨i', r', hs'⟩ <;> omega
  · rw [hp_J_xJ, am_u2, if_neg (fun z => ?_)]
    · exact b3 k' j' f' a' hs'
    · rw [z.1, z.2] at hs'
      unfold TJ at hs
      unfold SJ at hs'
      rcases hs with hs | ⟨i, r, hs⟩ <;> rcases hs' with hs' | ⟨i', hs'⟩ | ⟨i', r', hs'⟩ <;> omega
  · rw [hp_aI_xJ, am_u2, if_neg (fun z => ?_)]
    · exact b4 k' j' a' t' hs'
    · rw [z.1, z.2] at hs'
      unfold TJ at hs
      unfold TI at hs'
      rcases hs with hs | ⟨i, r, hs⟩ <;> rcases hs' with hs' | hs' | ⟨i', r', hs'⟩ <;> omega
  · rw [hp_aJ_xJ, am_u2]
    by_cases hc : a' = a ∧ t' = t
    · rw [if_pos hc, if_pos ((TJ_u hs hs').mp hc)]
    · rw [if_neg hc, if_neg (fun z => hc ((TJ_u hs hs').mpr z))]
      exact b5 k' j' a' t' hs'
  · obtain ⟨z1, z2, z3⟩ := a2 b hb hb0
    exact ⟨z1, z2, RA_s (s' := am_u2 s k j v) z3 (ek 16 n9 _) (ek 17 n13 _) (fun r hr => ⟨ek 35 n14 _, ek 36 n15 _, ek 37 n10 _⟩)⟩
  · obtain ⟨z1, z2, z3⟩ := a3 b hb hb0
    rw [ek 16 n9, ek 17 n13]
    refine ⟨z1, z2, fun r hr => ?_⟩
    rw [ek 35 n14, ek 36 n15, ek 37 n10]
    exact z3 r hr
  · rw [e04] at hi
    obtain ⟨q0, q1, q2, q3, q4, q5, q6⟩ := d5 i hi
    exact ⟨q0, q1, q2, by rw [ek 23 n11]; exact q3, by rw [ek 23 n11]; exact q4, by rw [ek 23 n11]; exact q5, by rw [ek 23 n11]; exact q6⟩
end
section
/-! THE CLASS: reading its cells -/
theorem X_n {h : am_H} {x n e c : Nat} {s : sg} {α : Nat → Nat} (hX : RX h x n s α e c) : 1 ≤ n ∧ n ≤ 16 := hX.1.1.1
theorem X_T {h : am_H} {x n e c : Nat} {s : sg} {α : Nat → Nat} (hX : RX h x n s α e c) : am_T h x = 10 := hX.1.1.2.1
theorem X_R0 {h : am_H} {x n e c : Nat} {s : sg} {α : Nat → Nat} (hX : RX h x n s α e c) : am_R h 0 x = x + 1 := hX.1.1.2.2.1.1
theorem X_T0 {h : am_H} {x n e c : Nat} {s : sg} {α : Nat → Nat} (hX : RX h x n s α e c) : am_T h (x + 1) = 100 := hX.1.1.2.2.1.2.1
theorem X_N0 {h : am_H} {x n e c : Nat} {s : sg} {α : Nat → Nat} (hX : RX h x n s α e c) : am_N h (x + 1) = n := hX.1.1.2.2.1.2.2.1
theorem X_a0 {h : am_H} {x n e c : Nat} {s : sg} {α : Nat → Nat} (hX : RX h x n s α e c) {i : Nat} (hi : i < n) : am_aR h (x + 1) i = px x i := hX.1.1.2.2.1.2.2.2 i hi
theorem XP_T {h : am_H} {x n e c : Nat} {s : sg} {α : Nat → Nat} (hX : RX h x n s α e c) {i : Nat} (hi : i < n) : am_T h (px x i) = 11 := (hX.1.1.2.2.2.1 i hi).1
theorem XP_32 {h : am_H} {x n e c : Nat} {s : sg} {α : Nat → Nat} (hX : RX h x n s α e c) {i : Nat} (hi : i < n) : am_I h 32 (px x i) = nI (i + 1) := (hX.1.1.2.2.2.1 i hi).2.1
theorem XP_33 {h : am_H} {x n e c : Nat} {s : sg} {α : Nat → Nat} (hX : RX h x n s α e c) {i : Nat} (hi : i < n) : am_R h 33 (px x i) = px x i + 1 := (hX.1.1.2.2.2.1 i hi).2.2.1
theorem XP_T1 {h : am_H} {x n e c : Nat} {s : sg} {α : Nat → Nat} (hX : RX h x n s α e c) {i : Nat} (hi : i < n) : am_T h (px x i + 1) = 101 := (hX.1.1.2.2.2.1 i hi).2.2.2.1
theorem XP_N1 {h : am_H} {x n e c : Nat} {s : sg} {α : Nat → Nat} (hX : RX h x n s α e c) {i : Nat} (hi : i < n) : am_N h (px x i + 1) = 8 := (hX.1.1.2.2.2.1 i hi).2.2.2.2.1
theorem XP_a {h : am_H} {x n e c : Nat} {s : sg} {α : Nat → Nat} (hX : RX h x n s α e c) {i : Nat} (hi : i < n) {r : Nat} (hr : r < 8) : am_aR h (px x i + 1) r = kx x i r := (hX.1.1.2.2.2.1 i hi).2.2.2.2.2 r hr
theorem XK_T {h : am_H} {x n e c : Nat} {s : sg} {α : Nat → Nat} (hX : RX h x n s α e c) {i r : Nat} (hi : i < n) (hr : r < 8) : am_T h (kx x i r) = 12 := (hX.1.1.2.2.2.2.1 i r hi hr).1
theorem XK_64 {h : am_H} {x n e c : Nat} {s : sg} {α : Nat → Nat} (hX : RX h x n s α e c) {i r : Nat} (hi : i < n) (hr : r < 8) : am_R h 64 (kx x i r) = kx x i r + 1 := (hX.1.1.2.2.2.2.1 i r hi hr).2.1
theorem XK_65 {h : am_H} {x n e c : Nat} {s : sg} {α : Nat → Nat} (hX : RX h x n s α e c) {i r : Nat} (hi : i < n) (hr : r < 8) : am_R h 65 (kx x i r) = kx x i r + 2 := (hX.1.1.2.2.2.2.1 i r hi hr).2.2.1
theorem XK_68 {h : am_H} {x n e c : Nat} {s : sg} {α : Nat → Nat} (hX : RX h x n s α e c) {i r : Nat} (hi : i < n) (hr : r < 8) : am_R h 68 (kx x i r) = kx x i r + 3 := (hX.1.1.2.2.2.2.1 i r hi hr).2.2.2.1
theorem XK_69 {h : am_H} {x n e c : Nat} {s : sg} {α : Nat → Nat} (hX : RX h x n s α e c) {i r : Nat} (hi : i < n) (hr : r < 8) : am_R h 69 (kx x i r) = kx x i r + 4 := (hX.1.1.2.2.2.2.1 i r hi hr).2.2.2.2.1
theorem XK_T1 {h : am_H} {x n e c : Nat} {s : sg} {α : Nat → Nat} (hX : RX h x n s α e c) {i r : Nat} (hi : i < n) (hr : r < 8) : am_T h (kx x i r + 1) = 1 := (hX.1.1.2.2.2.2.1 i r hi hr).2.2.2.2.2.1
theorem XK_T2 {h : am_H} {x n e c : Nat} {s : sg} {α : Nat → Nat} (hX : RX h x n s α e c) {i r : Nat} (hi : i < n) (hr : r < 8) : am_T h (kx x i r + 2) = 1 := (hX.1.1.2.2.2.2.1 i r hi hr).2.2.2.2.2.2.1
theorem XK_T3 {h : am_H} {x n e c : Nat} {s : sg} {α : Nat → Nat} (hX : RX h x n s α e c) {i r : Nat} (hi : i < n) (hr : r < 8) : am_T h (kx x i r + 3) = 2 := (hX.1.1.2.2.2.2.1 i r hi hr).2.2.2.2.2.2.2.1
theorem XK_T4 {h : am_H} {x n e c : Nat} {s : sg} {α : Nat → Nat} (hX : RX h x n s α e c) {i r : Nat} (hi : i < n) (hr : r < 8) : am_T h (kx x i r + 4) = 2 := (hX.1.1.2.2.2.2.1 i r hi hr).2.2.2.2.2.2.2.2.1
theorem XK_N1 {h : am_H} {x n e c : Nat} {s : sg} {α : Nat → Nat} (hX : RX h x n s α e c) {i r : Nat} (hi : i < n) (hr : r < 8) : am_N h (kx x i r + 1) = 16 := (hX.1.1.2.2.2.2.1 i r hi hr).2.2.2.2.2.2.2.2.2.1
theorem XK_N2 {h : am_H} {x n e c : Nat} {s : sg} {α : Nat → Nat} (hX : RX h x n s α e c) {i r : Nat} (hi : i < n) (hr : r < 8) : am_N h (kx x i r + 2) = 16 := (hX.1.1.2.2.2.2.1 i r hi hr).2.2.2.2.2.2.2.2.2.2.1
theorem XK_N3 {h : am_H} {x n e c : Nat} {s : sg} {α : Nat → Nat} (hX : RX h x n s α e c) {i r : Nat} (hi : i < n) (hr : r < 8) : am_N h (kx x i r + 3) = 8 := (hX.1.1.2.2.2.2.1 i r hi hr).2.2.2.2.2.2.2.2.2.2.2.1
theorem XK_N4 {h : am_H} {x n e c : Nat} {s : sg} {α : Nat → Nat} (hX : RX h x n s α e c) {i r : Nat} (hi : i < n) (hr : r < 8) : am_N h (kx x i r + 4) = 8 := (hX.1.1.2.2.2.2.1 i r hi hr).2.2.2.2.2.2.2.2.2.2.2.2
theorem X_R1 {h : am_H} {x n e c : Nat} {s : sg} {α : Nat → Nat} (hX : RX h x n s α e c) : am_R h 1 x = ax x n := hX.1.1.2.2.2.2.2.1.1
theorem X_T_1 {h : am_H} {x n e c : Nat} {s : sg} {α : Nat → Nat} (hX : RX h x n s α e c) : am_T h (ax x n) = 102 := hX.1.1.2.2.2.2.2.1.2.1
theorem X_N1 {h : am_H} {x n e c : Nat} {s : sg} {α : Nat → Nat} (hX : RX h x n s α e c) : am_N h (ax x n) = 1001 := hX.1.1.2.2.2.2.2.1.2.2
theorem X_R2 {h : am_H} {x n e c : Nat} {s : sg} {α : Nat → Nat} (hX : RX h x n s α e c) : am_R h 2 x = ax x n + 1 := hX.1.1.2.2.2.2.2.2.1.1
theorem X_T2 {h : am_H} {x n e c : Nat} {s : sg} {α : Nat → Nat} (hX : RX h x n s α e c) : am_T h (ax x n + 1) = 16 := hX.1.1.2.2.2.2.2.2.1.2
theorem X_R3 {h : am_H} {x n e c : Nat} {s : sg} {α : Nat → Nat} (hX : RX h x n s α e c) : am_R h 3 x = ax x n + 2 := hX.1.1.2.2.2.2.2.2.2.1.1
theorem X_T3 {h : am_H} {x n e c : Nat} {s : sg} {α : Nat → Nat} (hX : RX h x n s α e c) : am_T h (ax x n + 2) = 1 := hX.1.1.2.2.2.2.2.2.2.1.2.1
theorem X_N3 {h : am_H} {x n e c : Nat} {s : sg} {α : Nat → Nat} (hX : RX h x n s α e c) : am_N h (ax x n + 2) = 4 := hX.1.1.2.2.2.2.2.2.2.1.2.2
theorem X_R4 {h : am_H} {x n e c : Nat} {s : sg} {α : Nat → Nat} (hX : RX h x n s α e c) : am_R h 4 x = ax x n + 3 := hX.1.1.2.2.2.2.2.2.2.2.1.1
theorem X_T4 {h : am_H} {x n e c : Nat} {s : sg} {α : Nat → Nat} (hX : RX h x n s α e c) : am_T h (ax x n + 3) = 1 := hX.1.1.2.2.2.2.2.2.2.2.1.2.1
theorem X_N4 {h : am_H} {x n e c : Nat} {s : sg} {α : Nat → Nat} (hX : RX h x n s α e c) : am_N h (ax x n + 3) = 101 := hX.1.1.2.2.2.2.2.2.2.2.1.2.2
theorem X_R5 {h : am_H} {x n e c : Nat} {s : sg} {α : Nat → Nat} (hX : RX h x n s α e c) : am_R h 5 x = ax x n + 4 := hX.1.1.2.2.2.2.2.2.2.2.2.1
theorem X_T5 {h : am_H} {x n e c : Nat} {s : sg} {α : Nat → Nat} (hX : RX h x n s α e c) : am_T h (ax x n + 4) = 2 := hX.1.1.2.2.2.2.2.2.2.2.2.2.1
theorem X_N5 {h : am_H} {x n e c : Nat} {s : sg} {α : Nat → Nat} (hX : RX h x n s α e c) : am_N h (ax x n + 4) = 101 := hX.1.1.2.2.2.2.2.2.2.2.2.2.2
theorem SI_02 {x n : Nat} : SI x n 0 2 9 x := Or.inl ⟨rfl, rfl, rfl, rfl⟩
theorem SI_03 {x n : Nat} : SI x n 0 3 10 x := Or.inr (Or.inl ⟨rfl, rfl, rfl, rfl⟩)
theorem SI_31 {x n : Nat} {i : Nat} (hi : i < n) : SI x n 31 (i + 1) 36 (px x i) := Or.inr (Or.inr (Or.inl ⟨i, hi, rfl, rfl, Or.inl ⟨rfl, rfl⟩⟩))
theorem SI_3 {x n : Nat} {i : Nat} (hi : i < n) : SI x n 3 (i + 1) 37 (px x i) := Or.inr (Or.inr (Or.inl ⟨i, hi, rfl, rfl, Or.inr (Or.inl ⟨rfl, rfl⟩)⟩))
theorem SI_4 {x n : Nat} {i : Nat} (hi : i < n) : SI x n 4 (i + 1) 38 (px x i) := Or.inr (Or.inr (Or.inl ⟨i, hi, rfl, rfl, Or.inr (Or.inr (⟨rfl, rfl⟩))⟩))
theorem SI_32 {x n : Nat} {i r : Nat} (hi : i < n) (hr : r < 8) : SI x n 32 (8 * (i + 1) + r) 66 (kx x i r) := Or.inr (Or.inr (Or.inr ⟨i, r, hi, hr, rfl, rfl, Or.inl ⟨rfl, rfl⟩⟩))
theorem SI_7 {x n : Nat} {i r : Nat} (hi : i < n) (hr : r < 8) : SI x n 7 (8 * (i + 1) + r) 67 (kx x i r) := Or.inr (Or.inr (Or.inr ⟨i, r, hi, hr, rfl, rfl, Or.inr (Or.inl ⟨rfl, rfl⟩)⟩))
theorem SI_9 {x n : Nat} {i r : Nat} (hi : i < n) (hr : r < 8) : SI x n 9 (8 * (i + 1) + r) 70 (kx x i r) := Or.inr (Or.inr (Or.inr ⟨i, r, hi, hr, rfl, rfl, Or.inr (Or.inr (⟨rfl, rfl⟩))⟩))
theorem SJ_00 {x n : Nat} : SJ x n 0 0 6 x := Or.inl ⟨rfl, Or.inl ⟨rfl, rfl, rfl⟩⟩
theorem SJ_01 {x n : Nat} : SJ x n 0 1 7 x := Or.inl ⟨rfl, Or.inr (Or.inl ⟨rfl, rfl, rfl⟩)⟩
theorem SJ_30 {x n : Nat} : SJ x n 30 0 8 x := Or.inl ⟨rfl, Or.inr (Or.inr ⟨rfl, rfl, rfl⟩)⟩
theorem SJ_1 {x n : Nat} {i : Nat} (hi : i < n) : SJ x n 1 (i + 1) 34 (px x i) := Or.inr (Or.inl ⟨i, hi, rfl, rfl, Or.inl ⟨rfl, rfl⟩⟩)
theorem SJ_2 {x n : Nat} {i : Nat} (hi : i < n) : SJ x n 2 (i + 1) 35 (px x i) := Or.inr (Or.inl ⟨i, hi, rfl, rfl, Or.inr (Or.inl ⟨rfl, rfl⟩)⟩)
theorem SJ_5 {x n : Nat} {i : Nat} (hi : i < n) : SJ x n 5 (i + 1) 39 (px x i) := Or.inr (Or.inl ⟨i, hi, rfl, rfl, Or.inr (Or.inr (Or.inl ⟨rfl, rfl⟩))⟩)
theorem SJ_6 {x n : Nat} {i : Nat} (hi : i < n) : SJ x n 6 (i + 1) 40 (px x i) := Or.inr (Or.inl ⟨i, hi, rfl, rfl, Or.inr (Or.inr (Or.inr (⟨rfl, rfl⟩)))⟩)
theorem SJ_12 {x n : Nat} {i r : Nat} (hi : i < n) (hr : r < 8) : SJ x n 12 (8 * (i + 1) + r) 71 (kx x i r) := Or.inr (Or.inr ⟨i, r, hi, hr, rfl, rfl, Or.inl ⟨rfl, rfl⟩⟩)
theorem SJ_13 {x n : Nat} {i r : Nat} (hi : i < n) (hr : r < 8) : SJ x n 13 (8 * (i + 1) + r) 72 (kx x i r) := Or.inr (Or.inr ⟨i, r, hi, hr, rfl, rfl, Or.inr (Or.inl ⟨rfl, rfl⟩)⟩)
theorem SJ_14 {x n : Nat} {i r : Nat} (hi : i < n) (hr : r < 8) : SJ x n 14 (8 * (i + 1) + r) 73 (kx x i r) := Or.inr (Or.inr ⟨i, r, hi, hr, rfl, rfl, Or.inr (Or.inr (⟨rfl, rfl⟩))⟩)
theorem TI_24 {x n : Nat} {j : Nat} (hj : j < 4) : TI x n 24 j (ax x n + 2) j := Or.inl ⟨rfl, rfl, rfl, hj⟩
theorem TI_21 {x n : Nat} {j : Nat} (hj : j < 101) : TI x n 21 j (ax x n + 3) j := Or.inr (Or.inl ⟨rfl, rfl, rfl, hj⟩)
theorem TJ_22 {x n : Nat} {j : Nat} (hj : j < 101) : TJ x n 22 j (ax x n + 4) j := Or.inl ⟨rfl, rfl, rfl, hj⟩
theorem TI_33 {x n : Nat} {i r : Nat} (hi : i < n) (hr : r < 8) {t : Nat} (ht : t < 16) : TI x n 33 (16 * (8 * (i + 1) + r) + t) (kx x i r + 1) t := Or.inr (Or.inr ⟨i, r, hi, hr, ht, rfl, Or.inl ⟨rfl, rfl⟩⟩)
theorem TI_34 {x n : Nat} {i r : Nat} (hi : i < n) (hr : r < 8) {t : Nat} (ht : t < 16) : TI x n 34 (16 * (8 * (i + 1) + r) + t) (kx x i r + 2) t := Or.inr (Or.inr ⟨i, r, hi, hr, ht, rfl, Or.inr ⟨rfl, rfl⟩⟩)
theorem TJ_10 {x n : Nat} {i r : Nat} (hi : i < n) (hr : r < 8) {t : Nat} (ht : t < 8) : TJ x n 10 (8 * (8 * (i + 1) + r) + t) (kx x i r + 3) t := Or.inr ⟨i, r, hi, hr, ht, rfl, Or.inl ⟨rfl, rfl⟩⟩
theorem TJ_11 {x n : Nat} {i r : Nat} (hi : i < n) (hr : r < 8) {t : Nat} (ht : t < 8) : TJ x n 11 (8 * (8 * (i + 1) + r) + t) (kx x i r + 4) t := Or.inr ⟨i, r, hi, hr, ht, rfl, Or.inr ⟨rfl, rfl⟩⟩
theorem X_9 {h : am_H} {x n e c : Nat} {s : sg} {α : Nat → Nat} (hX : RX h x n s α e c) : am_I h 9 x = iI (s 0 2) := hX.1.2.1 _ _ _ _ SI_02
theorem X_10 {h : am_H} {x n e c : Nat} {s : sg} {α : Nat → Nat} (hX : RX h x n s α e c) : am_I h 10 x = iI (s 0 3) := hX.1.2.1 _ _ _ _ SI_03
theorem X_6 {h : am_H} {x n e c : Nat} {s : sg} {α : Nat → Nat} (hX : RX h x n s α e c) : am_J h 6 x = jJ (s 0 0) := hX.1.2.2.1 _ _ _ _ SJ_00
theorem X_7 {h : am_H} {x n e c : Nat} {s : sg} {α : Nat → Nat} (hX : RX h x n s α e c) : am_J h 7 x = jJ (s 0 1) := hX.1.2.2.1 _ _ _ _ SJ_01
theorem X_8 {h : am_H} {x n e c : Nat} {s : sg} {α : Nat → Nat} (hX : RX h x n s α e c) : am_J h 8 x = jJ (s 30 0) := hX.1.2.2.1 _ _ _ _ SJ_30
theorem XP_36 {h : am_H} {x n e c : Nat} {s : sg} {α : Nat → Nat} (hX : RX h x n s α e c) {i : Nat} (hi : i < n) : am_I h 36 (px x i) = iI (s 31 (i + 1)) := hX.1.2.1 _ _ _ _ (SI_31 hi)
theorem XP_37 {h : am_H} {x n e c : Nat} {s : sg} {α : Nat → Nat} (hX : RX h x n s α e c) {i : Nat} (hi : i < n) : am_I h 37 (px x i) = iI (s 3 (i + 1)) := hX.1.2.1 _ _ _ _ (SI_3 hi)
theorem XP_38 {h : am_H} {x n e c : Nat} {s : sg} {α : Nat → Nat} (hX : RX h x n s α e c) {i : Nat} (hi : i < n) : am_I h 38 (px x i) = iI (s 4 (i + 1)) := hX.1.2.1 _ _ _ _ (SI_4 hi)
theorem XP_34 {h : am_H} {x n e c : Nat} {s : sg} {α : Nat → Nat} (hX : RX h x n s α e c) {i : Nat} (hi : i < n) : am_J h 34 (px x i) = jJ (s 1 (i + 1)) := hX.1.2.2.1 _ _ _ _ (SJ_1 hi)
theorem XP_35 {h : am_H} {x n e c : Nat} {s : sg} {α : Nat → Nat} (hX : RX h x n s α e c) {i : Nat} (hi : i < n) : am_J h 35 (px x i) = jJ (s 2 (i + 1)) := hX.1.2.2.1 _ _ _ _ (SJ_2 hi)
theorem XP_39 {h : am_H} {x n e c : Nat} {s : sg} {α : Nat → Nat} (hX : RX h x n s α e c) {i : Nat} (hi : i < n) : am_J h 39 (px x i) = jJ (s 5 (i + 1)) := hX.1.2.2.1 _ _ _ _ (SJ_5 hi)
theorem XP_40 {h : am_H} {x n e c : Nat} {s : sg} {α : Nat → Nat} (hX : RX h x n s α e c) {i : Nat} (hi : i < n) : am_J h 40 (px x i) = jJ (s 6 (i + 1)) := hX.1.2.2.1 _ _ _ _ (SJ_6 hi)
theorem XK_66 {h : am_H} {x n e c : Nat} {s : sg} {α : Nat → Nat} (hX : RX h x n s α e c) {i r : Nat} (hi : i < n) (hr : r < 8) : am_I h 66 (kx x i r) = iI (s 32 (8 * (i + 1) + r)) := hX.1.2.1 _ _ _ _ (SI_32 hi hr)
theorem XK_67 {h : am_H} {x n e c : Nat} {s : sg} {α : Nat → Nat} (hX : RX h x n s α e c) {i r : Nat} (hi : i < n) (hr : r < 8) : am_I h 67 (kx x i r) = iI (s 7 (8 * (i + 1) + r)) := hX.1.2.1 _ _ _ _ (SI_7 hi hr)
theorem XK_70 {h : am_H} {x n e c : Nat} {s : sg} {α : Nat → Nat} (hX : RX h x n s α e c) {i r : Nat} (hi : i < n) (hr : r < 8) : am_I h 70 (kx x i r) = iI (s 9 (8 * (i + 1) + r)) := hX.1.2.1 _ _ _ _ (SI_9 hi hr)
theorem XK_71 {h : am_H} {x n e c : Nat} {s : sg} {α : Nat → Nat} (hX : RX h x n s α e c) {i r : Nat} (hi : i < n) (hr : r < 8) : am_J h 71 (kx x i r) = jJ (s 12 (8 * (i + 1) + r)) := hX.1.2.2.1 _ _ _ _ (SJ_12 hi hr)
theorem XK_72 {h : am_H} {x n e c : Nat} {s : sg} {α : Nat → Nat} (hX : RX h x n s α e c) {i r : Nat} (hi : i < n) (hr : r < 8) : am_J h 72 (kx x i r) = jJ (s 13 (8 * (i + 1) + r)) := hX.1.2.2.1 _ _ _ _ (SJ_13 hi hr)
theorem XK_73 {h : am_H} {x n e c : Nat} {s : sg} {α : Nat → Nat} (hX : RX h x n s α e c) {i r : Nat} (hi : i < n) (hr : r < 8) : am_J h 73 (kx x i r) = jJ (s 14 (8 * (i + 1) + r)) := hX.1.2.2.1 _ _ _ _ (SJ_14 hi hr)
theorem X_a24 {h : am_H} {x n e c : Nat} {s : sg} {α : Nat → Nat} (hX : RX h x n s α e c) {j : Nat} (hj : j < 4) : am_aI h (ax x n + 2) j = iI (s 24 j) := hX.1.2.2.2.1 _ _ _ _ (TI_24 hj)
theorem X_a21 {h : am_H} {x n e c : Nat} {s : sg} {α : Nat → Nat} (hX : RX h x n s α e c) {j : Nat} (hj : j < 101) : am_aI h (ax x n + 3) j = iI (s 21 j) := hX.1.2.2.2.1 _ _ _ _ (TI_21 hj)
theorem X_a22 {h : am_H} {x n e c : Nat} {s : sg} {α : Nat → Nat} (hX : RX h x n s α e c) {j : Nat} (hj : j < 101) : am_aJ h (ax x n + 4) j = jJ (s 22 j) := hX.1.2.2.2.2 _ _ _ _ (TJ_22 hj)
theorem XK_a33 {h : am_H} {x n e c : Nat} {s : sg} {α : Nat → Nat} (hX : RX h x n s α e c) {i r : Nat} (hi : i < n) (hr : r < 8) {t : Nat} (ht : t < 16) : am_aI h (kx x i r + 1) t = iI (s 33 (16 * (8 * (i + 1) + r) + t)) := hX.1.2.2.2.1 _ _ _ _ (TI_33 hi hr ht)
theorem XK_a34 {h : am_H} {x n e c : Nat} {s : sg} {α : Nat → Nat} (hX : RX h x n s α e c) {i r : Nat} (hi : i < n) (hr : r < 8) {t : Nat} (ht : t < 16) : am_aI h (kx x i r + 2) t = iI (s 34 (16 * (8 * (i + 1) + r) + t)) := hX.1.2.2.2.1 _ _ _ _ (TI_34 hi hr ht)
theorem XK_a10 {h : am_H} {x n e c : Nat} {s : sg} {α : Nat → Nat} (hX : RX h x n s α e c) {i r : Nat} (hi : i < n) (hr : r < 8) {t : Nat} (ht : t < 8) : am_aJ h (kx x i r + 3) t = jJ (s 10 (8 * (8 * (i + 1) + r) + t)) := hX.1.2.2.2.2 _ _ _ _ (TJ_10 hi hr ht)
theorem XK_a11 {h : am_H} {x n e c : Nat} {s : sg} {α : Nat → Nat} (hX : RX h x n s α e c) {i r : Nat} (hi : i < n) (hr : r < 8) {t : Nat} (ht : t < 8) : am_aJ h (kx x i r + 4) t = jJ (s 11 (8 * (8 * (i + 1) + r) + t)) := hX.1.2.2.2.2 _ _ _ _ (TJ_11 hi hr ht)
/-- what a call of the class leaves: the new state, all cells that are not its own as they were -/
def gX (x n : Nat) (h : am_H) (s : sg) (α : Nat → Nat) (e c : Nat) (h' : am_H) : Prop := RX h' x n s α e c ∧ eqon (OX x n) h h'
theorem gX_rf {x n e c : Nat} {h : am_H} {s : sg} {α : Nat → Nat} (hX : RX h x n s α e c) : gX x n h s α e c h := ⟨hX, eqon_rf _ _⟩
theorem gX_tr {x n e c e' c' : Nat} {h h1 h2 : am_H} {s s' : sg} {α α' : Nat → Nat} (a : gX x n h s α e c h1) (b : gX x n h1 s' α' e' c' h2) : gX x n h s' α' e' c' h2 := ⟨b.1, eqon_tr a.2 b.2⟩
theorem gX_sI {x n k j f a e c : Nat} {h : am_H} {s : sg} {α : Nat → Nat} {v : Int} (hX : RX h x n s α e c) (hs : SI x n k j f a) : gX x n h (am_u2 s k j v) α e c (am_sI h f a (iI v)) := ⟨RX_sI hX hs, eqon_sI (SI_in hs).1⟩
theorem gX_sJ {x n k j f a e c : Nat} {h : am_H} {s : sg} {α : Nat → Nat} {v : Int} (hX : RX h x n s α e c) (hs : SJ x n k j f a) : gX x n h (am_u2 s k j v) α e c (am_sJ h f a (jJ v)) := ⟨RX_sJ hX hs, eqon_sJ (SJ_in hs).1⟩
theorem gX_xI {x n k j a t e c : Nat} {h : am_H} {s : sg} {α : Nat → Nat} {v : Int} (hX : RX h x n s α e c) (hs : TI x n k j a t) : gX x n h (am_u2 s k j v) α e c (am_xI h a t (iI v)) := ⟨RX_xI hX hs, eqon_xI (TI_in hs).1⟩
theorem gX_xJ {x n k j a t e c : Nat} {h : am_H} {s : sg} {α : Nat → Nat} {v : Int} (hX : RX h x n s α e c) (hs : TJ x n k j a t) : gX x n h (am_u2 s k j v) α e c (am_xJ h a t (jJ v)) := ⟨RX_xJ hX hs, eqon_xJ (TJ_in hs).1⟩
theorem px_ne {x i : Nat} : ¬ px x i = 0 := by unfold px; omega
/-! small calls, in whole numbers -/
theorem sp_findPort {d x n e c : Nat} {p : Int} {h : am_H} {s : sg} {α : Nat → Nat} {Q : Option am_V → am_H → Prop} (hX : RX h x n s α e c) (hp : rI p) (hbad : (p < 1 ∨ (n : Int) < p) → Q (some (.inr (.inr 0))) h) (hok : ∀ i : Nat, i < n → p = ((i + 1 : Nat) : Int) → Q (some (.inr (.inr (px x i)))) h) : am_PC (d + 1) mi_X_findPort [.inr (.inr x), .inl (iI p)] h Q := by
  have hn := X_n hX
  by_cases c : p < 1 ∨ (n : Int) < p
  · refine sp_findPort_f hX.1.1 ?_ (hbad c)
    rw [iI_p1 hp, iI_pn hp hn.2]
    omega
  · obtain ⟨k, hk⟩ : ∃ k : Nat, p = ((k + 1 : Nat) : Int) := ⟨p.toNat - 1, by omega⟩
    refine sp_findPort_t hX.1.1 (i := k) (by omega) (by rw [hk, iI_nat]) ?_ ?_ (hok k (by omega) hk)
    · rw [iI_p1 hp]; omega
    · rw [iI_pn hp hn.2]; omega
theorem sp_isRank {d : Nat} {r : Int} {h : am_H} {Q : Option am_V → am_H → Prop} (hr : rI r) (hbad : (r < 0 ∨ 7 < r) → Q (some (.inl 0)) h) (hok : ¬ (r < 0 ∨ 7 < r) → Q (some (.inl 1)) h) : am_PC (d + 1) mi_X_isRank [.inl (iI r)] h Q :=
  bk_X_isRank (ek_if (iI_lt (b := 0) hr (by unfold rI; omega)) (fun q => ⟨Or.inl rfl, hbad (Or.inl q)⟩) (fun q => ek_if (iI_le (a := 8) (by unfold rI; omega) hr) (fun q2 => ⟨Or.inl rfl, hbad (by omega)⟩) (fun q2 => ⟨Or.inr rfl, hok (by omega)⟩)))
theorem sp_isAddress {d : Nat} {r : Int} {h : am_H} {Q : Option am_V → am_H → Prop} (hr : rI r) (hbad : (r < 1 ∨ 1000 < r) → Q (some (.inl 0)) h) (hok : ¬ (r < 1 ∨ 1000 < r) → Q (some (.inl 1)) h) : am_PC (d + 1) mi_X_isAddress [.inl (iI r)] h Q :=
  bk_X_isAddress (ek_if (iI_lt (b := 1) hr (by unfold rI; omega)) (fun q => ⟨Or.inl rfl, hbad (Or.inl q)⟩) (fun q => ek_if (iI_lt (a := 1000) (by unfold rI; omega) hr) (fun q2 => ⟨Or.inl rfl, hbad (by omega)⟩) (fun q2 => ⟨Or.inr rfl, hok (by omega)⟩)))
theorem sp_isService {d : Nat} {r : Int} {h : am_H} {Q : Option am_V → am_H → Prop} (hr : rI r) (hbad : (r < 1 ∨ 100 < r) → Q (some (.inl 0)) h) (hok : ¬ (r < 1 ∨ 100 < r) → Q (some (.inl 1)) h) : am_PC (d + 1) mi_X_isService [.inl (iI r)] h Q :=
  bk_X_isService (ek_if (iI_lt (b := 1) hr (by unfold rI; omega)) (fun q => ⟨Or.inl rfl, hbad (Or.inl q)⟩) (fun q => ek_if (iI_lt (a := 100) (by unfold rI; omega) hr) (fun q2 => ⟨Or.inl rfl, hbad (by omega)⟩) (fun q2 => ⟨Or.inr rfl, hok (by omega)⟩)))
theorem sp_isSending {d x n e c i : Nat} {h : am_H} {s : sg} {α : Nat → Nat} {Q : Option am_V → am_H → Prop} (hX : RX h x n s α e c) (hi : i < n) (h3 : rI (s 3 (i + 1))) (h0 : s 3 (i + 1) = 0 → Q (some (.inl 0)) h) (h1 : ¬ s 3 (i + 1) = 0 → Q (some (.inl 1)) h) : am_PC (d + 1) mi_P_isSending [.inr (.inr (px x i))] h Q := by
  refine bk_P_isSending ?_
  rw [XP_37 hX hi]
  exact ⟨XP_T hX hi, ek_if (iI_eq (b := 0) h3 (by unfold rI; omega)) (fun q => ⟨Or.inl rfl, h0 q⟩) (fun q => ⟨Or.inr rfl, h1 q⟩)⟩
theorem sp_isShaped {d x n e c i r : Nat} {h : am_H} {s : sg} {α : Nat → Nat} {Q : Option am_V → am_H → Prop} (hX : RX h x n s α e c) (hi : i < n) (hr : r < 8) (h3 : rJ (s 12 (8 * (i + 1) + r))) (h0 : ¬ 0 < s 12 (8 * (i + 1) + r) → Q (some (.inl 0)) h) (h1 : 0 < s 12 (8 * (i + 1) + r) → Q (some (.inl 1)) h) : am_PC (d + 1) mi_K_isShaped [.inr (.inr (kx x i r))] h Q := by
  refine bk_K_isShaped ?_
  rw [XK_71 hX hi hr]
  exact ⟨XK_T hX hi hr, ek_if (cmp_le (b := 0) h3 (by unfold rJ; omega)) (fun q => ⟨Or.inl rfl, h0 (by omega)⟩) (fun q => ⟨Or.inr rfl, h1 (by omega)⟩)⟩
/-! dropped, clock, service, credit -/
theorem sp_X_dropped {d x n e c : Nat} {w : Int} {h : am_H} {s : sg} {α : Nat → Nat} {Q : Option am_V → am_H → Prop} (hX : RX h x n s α e c) (hw : rI w) (hQ : ∀ h', gX x n h s α e c h' → Q (some (.inl (iI (f_dropped s w)))) h') : am_PC (d + 1) mi_X_dropped [.inr (.inr x), .inl (iI w)] h Q := by
  have hq : ∀ (r : Int) (v : Int32), iI r = v → f_dropped s w = r → Q (some (.inl v)) h := fun r v e1 e => by subst e1; subst e; exact hQ _ (gX_rf hX)
  refine bk_X_dropped ?_
  rw [X_R3 hX, X_T3 hX, X_N3 hX, show Int32.ofNat 4 = iI 4 from rfl]
  refine ek_if (iI_lt (b := 0) hw (by unfold rI; omega)) (fun q => hq (-2) _ im2 (by unfold f_dropped; rw [if_pos (Or.inl q)])) (fun q => ⟨X_T hX, Or.inl rfl, ek_if (iI_lt (b := 4) hw (by unfold rI; omega)) (fun q2 => ⟨X_T hX, Or.inl rfl, iI_in (by omega) (by omega) (by omega), ?_⟩) (fun q2 => hq (-2) _ im2 (by unfold f_dropped; rw [if_pos (by omega)]))⟩)
  rw [iI_clamp (by omega) hw, X_a24 hX (by omega)]
  exact hq _ _ rfl (by unfold f_dropped; rw [if_neg (by omega)])
theorem sp_X_clock {d x n e c : Nat} {p v : Int} {h : am_H} {s : sg} {α : Nat → Nat} {Q : Option am_V → am_H → Prop} (hX : RX h x n s α e c) (hp : rI p) (hv : rJ v) (h2 : ∀ j, j < 17 → 0 ≤ s 2 j ∧ s 2 j ≤ 1000000)
    (hQ : ∀ h', gX x n h (f_clock n s p v).2 α e c h' → Q (some (.inl (iI (f_clock n s p v).1))) h') : am_PC (d + 2) mi_X_clock [.inr (.inr x), .inl (iI p), .inr (.inl (jJ v))] h Q := by
  have hn := X_n hX
  have hq : ∀ (y : Int × sg) (w : Int32) h', iI y.1 = w → f_clock n s p v = y → gX x n h y.2 α e c h' → Q (some (.inl w)) h' := fun y w h' e1 e g => by subst e1; subst e; exact hQ h' g
  refine bk_X_clock ⟨X_T hX, sp_findPort hX hp (fun cb => ⟨0, rfl, fun _ => hq (-1, s) _ _ im1 (by unfold f_clock; rw [if_pos cb]) (gX_rf hX), fun z => absurd rfl z⟩) (fun i hi ep => ⟨px x i, rfl, fun z => absurd z px_ne, fun _ => ?_⟩)⟩
  have cb : ¬ (p < 1 ∨ (n : Int) < p) := by omega
  have bad : (v < 0 ∨ 1000000 < v) → Q (some (.inl (-2))) h := fun c2 => hq (-2, s) _ _ im2 (by unfold f_clock; rw [if_neg cb, if_pos c2]) (gX_rf hX)
  refine ek_if (cmp_lt (b := 0) hv (by unfold rJ; omega)) (fun q => bad (by omega)) (fun q => ek_if (cmp_le (b := 1000000) hv (by unfold rJ; omega)) (fun q2 => ⟨XP_T hX hi, rfl, XP_T hX hi, XP_T hX hi, fun h4 e4 => ?_⟩) (fun q2 => bad (by omega)))
  have b2 := h2 (i + 1) (by omega)
  have e5 : h4 = am_sJ h 35 (px x i) (jJ (clk (s 2 (i + 1)) v)) := by
    rw [e4, XP_35 hX hi, jJ_sub, show (100 : Int64) = jJ 100 from rfl, jJ_neg]
    congr 1
    unfold clk
    by_cases c1 : v - s 2 (i + 1) < 100
    · rw [if_pos ((jJ_lt (by unfold rJ; omega) (by unfold rJ; omega)).mpr c1)]
      by_cases c2 : v - s 2 (i + 1) < -100
      · rw [if_pos ((jJ_lt (by unfold rJ; omega) (by unfold rJ; omega)).mpr c2), jJ_add, if_neg (by omega), if_pos (by omega)]
        rfl
      · rw [if_neg (fun z => c2 ((jJ_lt (by unfold rJ; omega) (by unfold rJ; omega)).mp z)), jJ_add]
        congr 1
        split <;> split <;> omega
    · rw [if_neg (fun z => c1 ((jJ_lt (by unfold rJ; omega) (by unfold rJ; omega)).mp z)), if_neg (fun z => absurd ((jJ_lt (by unfold rJ; omega) (by unfold rJ; omega)).mp z) (by omega)), jJ_add]
      congr 1
      split <;> split <;> omega
  have g4 : gX x n h (am_u2 s 2 (i + 1) (clk (s 2 (i + 1)) v)) α e c h4 := by subst e5; exact gX_sJ hX (SJ_2 hi)
  rw [XP_35 g4.1 hi, u2_eq]
  have ept : p.toNat = i + 1 := by omega
  have cl : 0 ≤ clk (s 2 (i + 1)) v ∧ clk (s 2 (i + 1)) v ≤ 1000000 := by unfold clk; split <;> split <;> omega
  rw [jJ_i (by unfold rI; omega)]
  exact ⟨XP_T g4.1 hi, hq (clk (s 2 (i + 1)) v, am_u2 s 2 (i + 1) (clk (s 2 (i + 1)) v)) _ _ rfl (by unfold f_clock; rw [if_neg cb, if_neg (by omega), ept]) g4⟩
theorem sp_X_service {d x n e c : Nat} {o f : Int} {h : am_H} {s : sg} {α : Nat → Nat} {Q : Option am_V → am_H → Prop} (hX : RX h x n s α e c) (ho : rI o) (hf : rI f) (ht : 0 ≤ s 0 0 ∧ s 0 0 ≤ 2000000) (h21 : ∀ j, j ≤ 100 → 0 ≤ s 21 j ∧ s 21 j ≤ 16) (h22 : ∀ j, j ≤ 100 → 0 ≤ s 22 j ∧ s 22 j ≤ 3000000)
    (hQ : ∀ h', gX x n h (f_service n s o f).2 α e c h' → Q (some (.inl (iI (f_service n s o f).1))) h') : am_PC (d + 3) mi_X_service [.inr (.inr x), .inl (iI o), .inl (iI f)] h Q := by
  have hn := X_n hX
  have hq : ∀ (y : Int × sg) (w : Int32) h', iI y.1 = w → f_service n s o f = y → gX x n h y.2 α e c h' → Q (some (.inl w)) h' := fun y w h' e1 e g => by subst e1; subst e; exact hQ h' g
  refine bk_X_service (ek_if (iI_eq (b := 0) ho (by unfold rI; omega)) (fun q => ⟨X_T hX, ?_⟩) (fun q => ⟨X_T hX, ?_⟩))
  · refine bk_X_offererOf (sp_isService hf (fun cb => ⟨0, rfl, fun _ => ⟨_, rfl, hq (-2, s) _ _ im2 (by unfold f_service; rw [if_neg (by omega), if_pos (by omega)]) (gX_rf hX)⟩, fun z => absurd rfl z⟩) (fun cb => ⟨1, rfl, fun z => absurd z (by decide), fun _ => ?_⟩))
    have b21 := h21 f.toNat (by omega)
    have b22 := h22 f.toNat (by omega)
    have hin : vp_in (iI f) 101 := iI_in (by omega) (by omega) (by omega)
    rw [X_R5 hX, X_T5 hX, X_N5 hX, X_6 hX, iI_clamp (by omega) hf, X_a22 hX (by omega), X_R4 hX, X_T4 hX, X_N4 hX, X_a21 hX (by omega)]
    refine ⟨X_T hX, X_T hX, rfl, hin, ek_if (cmp_ge (by unfold rJ; omega) (by unfold rJ; omega)) (fun c2 => ⟨_, rfl, hq (0, s) _ _ rfl ?_ (gX_rf hX)⟩) (fun c2 => ⟨X_T hX, Or.inl rfl, hin, _, rfl, ?_⟩)⟩
    · unfold f_service; rw [if_neg (by omega), if_neg (by omega), if_neg (by omega), if_neg (by omega)]
    · by_cases c3 : 0 < s 21 f.toNat
      · exact hq (s 21 f.toNat, s) _ _ rfl (by unfold f_service; rw [if_neg (by omega), if_neg (by omega), if_neg (by omega), if_pos (by omega)]) (gX_rf hX)
      · have e0 : s 21 f.toNat = 0 := by omega
        rw [e0]
        exact hq (0, s) _ _ rfl (by unfold f_service; rw [if_neg (by omega), if_neg (by omega), if_neg (by omega), if_neg (by omega)]) (gX_rf hX)
  · refine sp_findPort hX hf (fun cb => ⟨0, rfl, fun _ => hq (-1, s) _ _ im1 (by unfold f_service; rw [if_pos ⟨q, cb⟩]) (gX_rf hX), fun z => absurd rfl z⟩) (fun i hi ep => ⟨px x i, rfl, fun z => absurd z px_ne, fun _ => ?_⟩)
    refine sp_isService ho (fun cb => ⟨0, rfl, fun _ => hq (-2, s) _ _ im2 (by unfold f_service; rw [if_neg (by omega), if_pos (by omega)]) (gX_rf hX), fun z => absurd rfl z⟩) (fun cb => ⟨1, rfl, fun z => absurd z (by decide), fun _ => ?_⟩)
    have hin : vp_in (iI o) 101 := iI_in (by omega) (by omega) (by omega)
    rw [X_R4 hX, X_T4 hX, X_N4 hX, iI_clamp (by omega) ho]
    refine ⟨X_T hX, rfl, hin, fun h1 e1 => ?_⟩
    have g1 : gX x n h (am_u2 s 21 o.toNat f) α e c h1 := by subst e1; exact gX_xI hX (TI_21 (by omega))
    have hX1 := g1.1
    rw [X_R5 hX1, X_T5 hX1, X_N5 hX1, X_6 hX1, u2_ne (by decide), show (1000 : Int64) = jJ 1000 from rfl, jJ_add]
    refine ⟨X_T hX1, X_T hX1, rfl, hin, fun h2 e2 => ?_⟩
    have g2 : gX x n h1 (am_u2 (am_u2 s 21 o.toNat f) 22 o.toNat (s 0 0 + 1000)) α e c h2 := by subst e2; exact gX_xJ hX1 (TJ_22 (by omega))
    exact hq (f, am_u2 (am_u2 s 21 o.toNat f) 22 o.toNat (s 0 0 + 1000)) _ _ rfl (by unfold f_service; rw [if_neg (by omega), if_neg (by omega), if_pos (by omega)]) (gX_tr g1 g2)
theorem sp_X_credit {d x n e c : Nat} {p r a b : Int} {h : am_H} {s : sg} {α : Nat → Nat} {Q : Option am_V → am_H → Prop} (hX : RX h x n s α e c) (hp : rI p) (hr : rI r) (ha : rJ a) (hb : rJ b)
    (hQ : ∀ h', gX x n h (f_credit n s p r a b).2 α e c h' → Q (some (.inl (iI (f_credit n s p r a b).1))) h') : am_PC (d + 2) mi_X_credit [.inr (.inr x), .inl (iI p), .inl (iI r), .inr (.inl (jJ a)), .inr (.inl (jJ b))] h Q := by
  have hn := X_n hX
  have hq : ∀ (y : Int × sg) (w : Int32) h', iI y.1 = w → f_credit n s p r a b = y → gX x n h y.2 α e c h' → Q (some (.inl w)) h' := fun y w h' e1 e g => by subst e1; subst e; exact hQ h' g
  refine bk_X_credit ⟨X_T hX, sp_findPort hX hp (fun cb => ⟨0, rfl, fun _ => hq (-1, s) _ _ im1 (by unfold f_credit; rw [if_pos (by omega)]) (gX_rf hX), fun z => absurd rfl z⟩) (fun i hi ep => ⟨px x i, rfl, fun z => absurd z px_ne, fun _ => ?_⟩)⟩
  refine sp_isRank hr (fun cb => ⟨0, rfl, fun _ => hq (-1, s) _ _ im1 (by unfold f_credit; rw [if_pos (by omega)]) (gX_rf hX), fun z => absurd rfl z⟩) (fun cb => ⟨1, rfl, fun z => absurd z (by decide), fun _ => ?_⟩)
  have bad : (b < 1 ∨ 1000 < b ∨ a < 0 ∨ 10000 * b < a) → Q (some (.inl (-2))) h := fun c2 => hq (-2, s) _ _ im2 (by unfold f_credit; rw [if_neg (by omega), if_pos c2]) (gX_rf hX)
  refine ek_if (cmp_lt (b := 1) hb (by unfold rJ; omega)) (fun q => bad (by omega)) (fun q => ek_if (cmp_gt (b := 1000) hb (by unfold rJ; omega)) (fun q2 => bad (by omega)) (fun q2 => ek_if (cmp_lt (b := 0) ha (by unfold rJ; omega)) (fun q3 => bad (by omega)) (fun q3 => ?_)))
  obtain ⟨kr, rfl⟩ := Int.eq_ofNat_of_zero_le (show 0 ≤ r by omega)
  have hkr : kr < 8 := by omega
  rw [show (10000 : Int64) = jJ 10000 from rfl, jJ_mul, XP_33 hX hi, XP_T1 hX hi, XP_N1 hX hi, iI_nat kr, nI_clamp (by omega), XP_a hX hi hkr]
  refine ek_if (cmp_le ha (by unfold rJ; omega)) (fun q4 => ⟨XP_T hX hi, by decide, vp_in_nI hkr (by omega), XK_T hX hi hkr, bk_K_shape ⟨XK_T hX hi hkr, fun h1 e1 => ?_⟩⟩) (fun q4 => bad (by omega))
  have eq : (8 * p + (kr : Int)).toNat = 8 * (i + 1) + kr := by omega
  have g1 : gX x n h (am_u2 s 12 (8 * (i + 1) + kr) a) α e c h1 := by subst e1; exact gX_sJ hX (SJ_12 hi hkr)
  refine ⟨XK_T g1.1 hi hkr, fun h2 e2 => ?_⟩
  have g2 : gX x n h1 (am_u2 (am_u2 s 12 (8 * (i + 1) + kr) a) 13 (8 * (i + 1) + kr) b) α e c h2 := by subst e2; exact gX_sJ g1.1 (SJ_13 hi hkr)
  refine ⟨XK_T g2.1 hi hkr, fun h3 e3 => ⟨rfl, ?_⟩⟩
  have g3 : gX x n h2 (am_u2 (am_u2 (am_u2 s 12 (8 * (i + 1) + kr) a) 13 (8 * (i + 1) + kr) b) 14 (8 * (i + 1) + kr) 0) α e c h3 := by subst e3; exact gX_sJ (v := 0) g2.1 (SJ_14 hi hkr)
  exact hq (1, am_u2 (am_u2 (am_u2 s 12 (8 * (i + 1) + kr) a) 13 (8 * (i + 1) + kr) b) 14 (8 * (i + 1) + kr) 0) _ _ rfl (by unfold f_credit; rw [if_neg (by omega), if_neg (by omega), eq]) (gX_tr (gX_tr g1 g2) g3)
end
