-- ===== PART A: goes FIRST, ahead of the names: the tables' words, and 'selects' of the private methods out of them =====
/-- a private method of a class that the tables say can be made, by its rows of tables_1 -/
def lw_okq (q : MethodName × Nat) : Prop := (q.1.cls ≠ "java/lang/invoke/MethodHandle" ∧ q.1.cls ≠ "java/lang/invoke/VarHandle") ∧ Cond.instantiable q.1.cls q.2 ∈ tables_1 ∧ Cond.privateMethod q.1 ∈ tables_1 ∧ Cond.instanceMethod q.1 ∈ tables_1
theorem lw_p0 : lw_okq (⟨"NullKinds$Machine", "begin", "(II)V"⟩, 12) := ⟨⟨by decide +kernel, by decide +kernel⟩, List.mem_of_getElem? (i := 81) (by decide +kernel), List.mem_of_getElem? (i := 289) (by decide +kernel), List.mem_of_getElem? (i := 290) (by decide +kernel)⟩
theorem lw_p1 : lw_okq (⟨"NullKinds$Machine", "takeStep", "(I)V"⟩, 12) := ⟨⟨by decide +kernel, by decide +kernel⟩, List.mem_of_getElem? (i := 81) (by decide +kernel), List.mem_of_getElem? (i := 306) (by decide +kernel), List.mem_of_getElem? (i := 307) (by decide +kernel)⟩
theorem lw_p2 : lw_okq (⟨"NullKinds$Machine", "perform", "(IIII)I"⟩, 12) := ⟨⟨by decide +kernel, by decide +kernel⟩, List.mem_of_getElem? (i := 81) (by decide +kernel), List.mem_of_getElem? (i := 325) (by decide +kernel), List.mem_of_getElem? (i := 326) (by decide +kernel)⟩
theorem lw_p3 : lw_okq (⟨"NullKinds$Machine", "makeThing", "(II)I"⟩, 12) := ⟨⟨by decide +kernel, by decide +kernel⟩, List.mem_of_getElem? (i := 81) (by decide +kernel), List.mem_of_getElem? (i := 329) (by decide +kernel), List.mem_of_getElem? (i := 330) (by decide +kernel)⟩
theorem lw_p4 : lw_okq (⟨"NullKinds$Machine", "makeArray", "(III)I"⟩, 12) := ⟨⟨by decide +kernel, by decide +kernel⟩, List.mem_of_getElem? (i := 81) (by decide +kernel), List.mem_of_getElem? (i := 348) (by decide +kernel), List.mem_of_getElem? (i := 349) (by decide +kernel)⟩
theorem lw_p5 : lw_okq (⟨"NullKinds$Machine", "castInto", "(III)I"⟩, 12) := ⟨⟨by decide +kernel, by decide +kernel⟩, List.mem_of_getElem? (i := 81) (by decide +kernel), List.mem_of_getElem? (i := 352) (by decide +kernel), List.mem_of_getElem? (i := 353) (by decide +kernel)⟩
theorem lw_p6 : lw_okq (⟨"NullKinds$Machine", "castFault", "(II)I"⟩, 12) := ⟨⟨by decide +kernel, by decide +kernel⟩, List.mem_of_getElem? (i := 81) (by decide +kernel), List.mem_of_getElem? (i := 356) (by decide +kernel), List.mem_of_getElem? (i := 357) (by decide +kernel)⟩
theorem lw_p7 : lw_okq (⟨"NullKinds$Machine", "getNext", "(II)I"⟩, 12) := ⟨⟨by decide +kernel, by decide +kernel⟩, List.mem_of_getElem? (i := 81) (by decide +kernel), List.mem_of_getElem? (i := 365) (by decide +kernel), List.mem_of_getElem? (i := 366) (by decide +kernel)⟩
theorem lw_p8 : lw_okq (⟨"NullKinds$Machine", "useFault", "(II)I"⟩, 12) := ⟨⟨by decide +kernel, by decide +kernel⟩, List.mem_of_getElem? (i := 81) (by decide +kernel), List.mem_of_getElem? (i := 369) (by decide +kernel), List.mem_of_getElem? (i := 370) (by decide +kernel)⟩
theorem lw_p9 : lw_okq (⟨"NullKinds$Machine", "setNext", "(II)I"⟩, 12) := ⟨⟨by decide +kernel, by decide +kernel⟩, List.mem_of_getElem? (i := 81) (by decide +kernel), List.mem_of_getElem? (i := 377) (by decide +kernel), List.mem_of_getElem? (i := 378) (by decide +kernel)⟩
theorem lw_p10 : lw_okq (⟨"NullKinds$Machine", "getCell", "(III)I"⟩, 12) := ⟨⟨by decide +kernel, by decide +kernel⟩, List.mem_of_getElem? (i := 81) (by decide +kernel), List.mem_of_getElem? (i := 385) (by decide +kernel), List.mem_of_getElem? (i := 386) (by decide +kernel)⟩
theorem lw_p11 : lw_okq (⟨"NullKinds$Machine", "cellFault", "(III)I"⟩, 12) := ⟨⟨by decide +kernel, by decide +kernel⟩, List.mem_of_getElem? (i := 81) (by decide +kernel), List.mem_of_getElem? (i := 389) (by decide +kernel), List.mem_of_getElem? (i := 390) (by decide +kernel)⟩
theorem lw_p12 : lw_okq (⟨"NullKinds$Machine", "setCell", "(III)I"⟩, 12) := ⟨⟨by decide +kernel, by decide +kernel⟩, List.mem_of_getElem? (i := 81) (by decide +kernel), List.mem_of_getElem? (i := 401) (by decide +kernel), List.mem_of_getElem? (i := 402) (by decide +kernel)⟩
theorem lw_p13 : lw_okq (⟨"NullKinds$Machine", "askFace", "(IIZ)I"⟩, 12) := ⟨⟨by decide +kernel, by decide +kernel⟩, List.mem_of_getElem? (i := 81) (by decide +kernel), List.mem_of_getElem? (i := 414) (by decide +kernel), List.mem_of_getElem? (i := 415) (by decide +kernel)⟩
theorem lw_p14 : lw_okq (⟨"NullKinds$Machine", "getLength", "(II)I"⟩, 12) := ⟨⟨by decide +kernel, by decide +kernel⟩, List.mem_of_getElem? (i := 81) (by decide +kernel), List.mem_of_getElem? (i := 418) (by decide +kernel), List.mem_of_getElem? (i := 419) (by decide +kernel)⟩
theorem lw_p15 : lw_okq (⟨"NullKinds$Machine", "getInt", "(III)I"⟩, 12) := ⟨⟨by decide +kernel, by decide +kernel⟩, List.mem_of_getElem? (i := 81) (by decide +kernel), List.mem_of_getElem? (i := 422) (by decide +kernel), List.mem_of_getElem? (i := 423) (by decide +kernel)⟩
def lw_privs_1 : List (MethodName × Nat) := [(⟨"NullKinds$Machine", "begin", "(II)V"⟩, 12), (⟨"NullKinds$Machine", "takeStep", "(I)V"⟩, 12), (⟨"NullKinds$Machine", "perform", "(IIII)I"⟩, 12), (⟨"NullKinds$Machine", "makeThing", "(II)I"⟩, 12), (⟨"NullKinds$Machine", "makeArray", "(III)I"⟩, 12), (⟨"NullKinds$Machine", "castInto", "(III)I"⟩, 12), (⟨"NullKinds$Machine", "castFault", "(II)I"⟩, 12), (⟨"NullKinds$Machine", "getNext", "(II)I"⟩, 12), (⟨"NullKinds$Machine", "useFault", "(II)I"⟩, 12), (⟨"NullKinds$Machine", "setNext", "(II)I"⟩, 12), (⟨"NullKinds$Machine", "getCell", "(III)I"⟩, 12), (⟨"NullKinds$Machine", "cellFault", "(III)I"⟩, 12), (⟨"NullKinds$Machine", "setCell", "(III)I"⟩, 12), (⟨"NullKinds$Machine", "askFace", "(IIZ)I"⟩, 12), (⟨"NullKinds$Machine", "getLength", "(II)I"⟩, 12), (⟨"NullKinds$Machine", "getInt", "(III)I"⟩, 12)]
theorem lw_r1 : ∀ q ∈ lw_privs_1, lw_okq q := List.forall_mem_cons.mpr ⟨lw_p0, List.forall_mem_cons.mpr ⟨lw_p1, List.forall_mem_cons.mpr ⟨lw_p2, List.forall_mem_cons.mpr ⟨lw_p3, List.forall_mem_cons.mpr ⟨lw_p4, List.forall_mem_cons.mpr ⟨lw_p5, List.forall_mem_cons.mpr ⟨lw_p6, List.forall_mem_cons.mpr ⟨lw_p7, List.forall_mem_cons.mpr ⟨lw_p8, List.forall_mem_cons.mpr ⟨lw_p9, List.forall_mem_cons.mpr ⟨lw_p10, List.forall_mem_cons.mpr ⟨lw_p11, List.forall_mem_cons.mpr ⟨lw_p12, List.forall_mem_cons.mpr ⟨lw_p13, List.forall_mem_cons.mpr ⟨lw_p14, List.forall_mem_cons.mpr ⟨lw_p15, fun _ h => absurd h List.not_mem_nil⟩⟩⟩⟩⟩⟩⟩⟩⟩⟩⟩⟩⟩⟩⟩⟩
theorem lw_p16 : lw_okq (⟨"NullKinds$Machine", "setInt", "(III)I"⟩, 12) := ⟨⟨by decide +kernel, by decide +kernel⟩, List.mem_of_getElem? (i := 81) (by decide +kernel), List.mem_of_getElem? (i := 426) (by decide +kernel), List.mem_of_getElem? (i := 427) (by decide +kernel)⟩
theorem lw_p17 : lw_okq (⟨"NullKinds$Machine", "divide", "(II)I"⟩, 12) := ⟨⟨by decide +kernel, by decide +kernel⟩, List.mem_of_getElem? (i := 81) (by decide +kernel), List.mem_of_getElem? (i := 430) (by decide +kernel), List.mem_of_getElem? (i := 431) (by decide +kernel)⟩
theorem lw_p18 : lw_okq (⟨"NullKinds$Machine", "move", "(IIII)I"⟩, 12) := ⟨⟨by decide +kernel, by decide +kernel⟩, List.mem_of_getElem? (i := 81) (by decide +kernel), List.mem_of_getElem? (i := 434) (by decide +kernel), List.mem_of_getElem? (i := 435) (by decide +kernel)⟩
theorem lw_p19 : lw_okq (⟨"NullKinds$Machine", "performSafely", "(IIII)V"⟩, 12) := ⟨⟨by decide +kernel, by decide +kernel⟩, List.mem_of_getElem? (i := 81) (by decide +kernel), List.mem_of_getElem? (i := 446) (by decide +kernel), List.mem_of_getElem? (i := 447) (by decide +kernel)⟩
theorem lw_p20 : lw_okq (⟨"NullKinds$Machine", "jumpIf", "(ZI)V"⟩, 12) := ⟨⟨by decide +kernel, by decide +kernel⟩, List.mem_of_getElem? (i := 81) (by decide +kernel), List.mem_of_getElem? (i := 450) (by decide +kernel), List.mem_of_getElem? (i := 451) (by decide +kernel)⟩
theorem lw_p21 : lw_okq (⟨"NullKinds$Machine", "meetFault", "(II)V"⟩, 12) := ⟨⟨by decide +kernel, by decide +kernel⟩, List.mem_of_getElem? (i := 81) (by decide +kernel), List.mem_of_getElem? (i := 454) (by decide +kernel), List.mem_of_getElem? (i := 455) (by decide +kernel)⟩
theorem lw_p22 : lw_okq (⟨"NullKinds$Outlook", "goTo", "(I)V"⟩, 7) := ⟨⟨by decide +kernel, by decide +kernel⟩, List.mem_of_getElem? (i := 149) (by decide +kernel), List.mem_of_getElem? (i := 524) (by decide +kernel), List.mem_of_getElem? (i := 525) (by decide +kernel)⟩
theorem lw_p23 : lw_okq (⟨"NullKinds$Outlook", "lookAt", "(I)V"⟩, 7) := ⟨⟨by decide +kernel, by decide +kernel⟩, List.mem_of_getElem? (i := 149) (by decide +kernel), List.mem_of_getElem? (i := 533) (by decide +kernel), List.mem_of_getElem? (i := 534) (by decide +kernel)⟩
theorem lw_p24 : lw_okq (⟨"NullKinds$Outlook", "store", "(I)V"⟩, 7) := ⟨⟨by decide +kernel, by decide +kernel⟩, List.mem_of_getElem? (i := 149) (by decide +kernel), List.mem_of_getElem? (i := 537) (by decide +kernel), List.mem_of_getElem? (i := 538) (by decide +kernel)⟩
theorem lw_p25 : lw_okq (⟨"NullKinds$Outlook", "addToAll", "(II)V"⟩, 7) := ⟨⟨by decide +kernel, by decide +kernel⟩, List.mem_of_getElem? (i := 149) (by decide +kernel), List.mem_of_getElem? (i := 545) (by decide +kernel), List.mem_of_getElem? (i := 546) (by decide +kernel)⟩
theorem lw_p26 : lw_okq (⟨"NullKinds$Outlook", "storeCell", "(II)V"⟩, 7) := ⟨⟨by decide +kernel, by decide +kernel⟩, List.mem_of_getElem? (i := 149) (by decide +kernel), List.mem_of_getElem? (i := 549) (by decide +kernel), List.mem_of_getElem? (i := 550) (by decide +kernel)⟩
theorem lw_p27 : lw_okq (⟨"NullKinds$Outlook", "storeMoved", "(II)V"⟩, 7) := ⟨⟨by decide +kernel, by decide +kernel⟩, List.mem_of_getElem? (i := 149) (by decide +kernel), List.mem_of_getElem? (i := 554) (by decide +kernel), List.mem_of_getElem? (i := 555) (by decide +kernel)⟩
theorem lw_p28 : lw_okq (⟨"NullKinds$Outlook", "faultsOf", "(I)I"⟩, 7) := ⟨⟨by decide +kernel, by decide +kernel⟩, List.mem_of_getElem? (i := 149) (by decide +kernel), List.mem_of_getElem? (i := 558) (by decide +kernel), List.mem_of_getElem? (i := 559) (by decide +kernel)⟩
theorem lw_p29 : lw_okq (⟨"NullKinds$Outlook", "moveFaults", "(II)I"⟩, 7) := ⟨⟨by decide +kernel, by decide +kernel⟩, List.mem_of_getElem? (i := 149) (by decide +kernel), List.mem_of_getElem? (i := 581) (by decide +kernel), List.mem_of_getElem? (i := 582) (by decide +kernel)⟩
theorem lw_p30 : lw_okq (⟨"NullKinds$Outlook", "moveFaultsOf", "(II)I"⟩, 7) := ⟨⟨by decide +kernel, by decide +kernel⟩, List.mem_of_getElem? (i := 149) (by decide +kernel), List.mem_of_getElem? (i := 586) (by decide +kernel), List.mem_of_getElem? (i := 587) (by decide +kernel)⟩
theorem lw_p31 : lw_okq (⟨"NullKinds$Outlook", "cellsIn", "(I)I"⟩, 7) := ⟨⟨by decide +kernel, by decide +kernel⟩, List.mem_of_getElem? (i := 149) (by decide +kernel), List.mem_of_getElem? (i := 591) (by decide +kernel), List.mem_of_getElem? (i := 592) (by decide +kernel)⟩
def lw_privs_2 : List (MethodName × Nat) := [(⟨"NullKinds$Machine", "setInt", "(III)I"⟩, 12), (⟨"NullKinds$Machine", "divide", "(II)I"⟩, 12), (⟨"NullKinds$Machine", "move", "(IIII)I"⟩, 12), (⟨"NullKinds$Machine", "performSafely", "(IIII)V"⟩, 12), (⟨"NullKinds$Machine", "jumpIf", "(ZI)V"⟩, 12), (⟨"NullKinds$Machine", "meetFault", "(II)V"⟩, 12), (⟨"NullKinds$Outlook", "goTo", "(I)V"⟩, 7), (⟨"NullKinds$Outlook", "lookAt", "(I)V"⟩, 7), (⟨"NullKinds$Outlook", "store", "(I)V"⟩, 7), (⟨"NullKinds$Outlook", "addToAll", "(II)V"⟩, 7), (⟨"NullKinds$Outlook", "storeCell", "(II)V"⟩, 7), (⟨"NullKinds$Outlook", "storeMoved", "(II)V"⟩, 7), (⟨"NullKinds$Outlook", "faultsOf", "(I)I"⟩, 7), (⟨"NullKinds$Outlook", "moveFaults", "(II)I"⟩, 7), (⟨"NullKinds$Outlook", "moveFaultsOf", "(II)I"⟩, 7), (⟨"NullKinds$Outlook", "cellsIn", "(I)I"⟩, 7)]
theorem lw_r2 : ∀ q ∈ lw_privs_2, lw_okq q := List.forall_mem_cons.mpr ⟨lw_p16, List.forall_mem_cons.mpr ⟨lw_p17, List.forall_mem_cons.mpr ⟨lw_p18, List.forall_mem_cons.mpr ⟨lw_p19, List.forall_mem_cons.mpr ⟨lw_p20, List.forall_mem_cons.mpr ⟨lw_p21, List.forall_mem_cons.mpr ⟨lw_p22, List.forall_mem_cons.mpr ⟨lw_p23, List.forall_mem_cons.mpr ⟨lw_p24, List.forall_mem_cons.mpr ⟨lw_p25, List.forall_mem_cons.mpr ⟨lw_p26, List.forall_mem_cons.mpr ⟨lw_p27, List.forall_mem_cons.mpr ⟨lw_p28, List.forall_mem_cons.mpr ⟨lw_p29, List.forall_mem_cons.mpr ⟨lw_p30, List.forall_mem_cons.mpr ⟨lw_p31, fun _ h => absurd h List.not_mem_nil⟩⟩⟩⟩⟩⟩⟩⟩⟩⟩⟩⟩⟩⟩⟩⟩
theorem lw_p32 : lw_okq (⟨"NullKinds$Outlook", "begin", "(I)V"⟩, 7) := ⟨⟨by decide +kernel, by decide +kernel⟩, List.mem_of_getElem? (i := 149) (by decide +kernel), List.mem_of_getElem? (i := 595) (by decide +kernel), List.mem_of_getElem? (i := 596) (by decide +kernel)⟩
theorem lw_p33 : lw_okq (⟨"NullKinds$Outlook", "goOn", "(IIIII)V"⟩, 7) := ⟨⟨by decide +kernel, by decide +kernel⟩, List.mem_of_getElem? (i := 149) (by decide +kernel), List.mem_of_getElem? (i := 599) (by decide +kernel), List.mem_of_getElem? (i := 600) (by decide +kernel)⟩
theorem lw_p34 : lw_okq (⟨"NullKinds$Outlook", "goBothWays", "(II)V"⟩, 7) := ⟨⟨by decide +kernel, by decide +kernel⟩, List.mem_of_getElem? (i := 149) (by decide +kernel), List.mem_of_getElem? (i := 603) (by decide +kernel), List.mem_of_getElem? (i := 604) (by decide +kernel)⟩
theorem lw_p35 : lw_okq (⟨"NullKinds$Outlook", "keep", "(II)Z"⟩, 7) := ⟨⟨by decide +kernel, by decide +kernel⟩, List.mem_of_getElem? (i := 149) (by decide +kernel), List.mem_of_getElem? (i := 607) (by decide +kernel), List.mem_of_getElem? (i := 608) (by decide +kernel)⟩
theorem lw_p36 : lw_okq (⟨"NullKinds$Outlook", "pass", "(IIII)Z"⟩, 7) := ⟨⟨by decide +kernel, by decide +kernel⟩, List.mem_of_getElem? (i := 149) (by decide +kernel), List.mem_of_getElem? (i := 611) (by decide +kernel), List.mem_of_getElem? (i := 612) (by decide +kernel)⟩
theorem lw_p37 : lw_okq (⟨"NullKinds$Outlook", "put", "(II)Z"⟩, 7) := ⟨⟨by decide +kernel, by decide +kernel⟩, List.mem_of_getElem? (i := 149) (by decide +kernel), List.mem_of_getElem? (i := 615) (by decide +kernel), List.mem_of_getElem? (i := 616) (by decide +kernel)⟩
theorem lw_p38 : lw_okq (⟨"NullKinds$Outlook", "cellsOf", "(I)I"⟩, 7) := ⟨⟨by decide +kernel, by decide +kernel⟩, List.mem_of_getElem? (i := 149) (by decide +kernel), List.mem_of_getElem? (i := 620) (by decide +kernel), List.mem_of_getElem? (i := 621) (by decide +kernel)⟩
theorem lw_p39 : lw_okq (⟨"NullKinds$Outlook", "keepBoth", "(IIII)Z"⟩, 7) := ⟨⟨by decide +kernel, by decide +kernel⟩, List.mem_of_getElem? (i := 149) (by decide +kernel), List.mem_of_getElem? (i := 630) (by decide +kernel), List.mem_of_getElem? (i := 631) (by decide +kernel)⟩
theorem lw_p40 : lw_okq (⟨"NullKinds$Outlook", "isReached", "(I)Z"⟩, 7) := ⟨⟨by decide +kernel, by decide +kernel⟩, List.mem_of_getElem? (i := 149) (by decide +kernel), List.mem_of_getElem? (i := 649) (by decide +kernel), List.mem_of_getElem? (i := 650) (by decide +kernel)⟩
theorem lw_p41 : lw_okq (⟨"java/lang/Throwable", "fillInStackTrace", "(I)Ljava/lang/Throwable;"⟩, 6) := ⟨⟨by decide +kernel, by decide +kernel⟩, List.mem_of_getElem? (i := 717) (by decide +kernel), List.mem_of_getElem? (i := 715) (by decide +kernel), List.mem_of_getElem? (i := 716) (by decide +kernel)⟩
theorem lw_p42 : lw_okq (⟨"NullKindsModel", "forget", "()V"⟩, 31) := ⟨⟨by decide +kernel, by decide +kernel⟩, List.mem_of_getElem? (i := 750) (by decide +kernel), List.mem_of_getElem? (i := 882) (by decide +kernel), List.mem_of_getElem? (i := 883) (by decide +kernel)⟩
theorem lw_p43 : lw_okq (⟨"NullKindsModel", "kind", "(I)I"⟩, 31) := ⟨⟨by decide +kernel, by decide +kernel⟩, List.mem_of_getElem? (i := 750) (by decide +kernel), List.mem_of_getElem? (i := 894) (by decide +kernel), List.mem_of_getElem? (i := 895) (by decide +kernel)⟩
theorem lw_p44 : lw_okq (⟨"NullKindsModel", "doStep", "(I)I"⟩, 31) := ⟨⟨by decide +kernel, by decide +kernel⟩, List.mem_of_getElem? (i := 750) (by decide +kernel), List.mem_of_getElem? (i := 898) (by decide +kernel), List.mem_of_getElem? (i := 899) (by decide +kernel)⟩
theorem lw_p45 : lw_okq (⟨"NullKindsModel", "newObject", "(I)I"⟩, 31) := ⟨⟨by decide +kernel, by decide +kernel⟩, List.mem_of_getElem? (i := 750) (by decide +kernel), List.mem_of_getElem? (i := 902) (by decide +kernel), List.mem_of_getElem? (i := 903) (by decide +kernel)⟩
theorem lw_p46 : lw_okq (⟨"NullKindsModel", "newArray", "(II)I"⟩, 31) := ⟨⟨by decide +kernel, by decide +kernel⟩, List.mem_of_getElem? (i := 750) (by decide +kernel), List.mem_of_getElem? (i := 906) (by decide +kernel), List.mem_of_getElem? (i := 907) (by decide +kernel)⟩
theorem lw_p47 : lw_okq (⟨"NullKindsModel", "isWrong", "(II)Z"⟩, 31) := ⟨⟨by decide +kernel, by decide +kernel⟩, List.mem_of_getElem? (i := 750) (by decide +kernel), List.mem_of_getElem? (i := 913) (by decide +kernel), List.mem_of_getElem? (i := 914) (by decide +kernel)⟩
def lw_privs_3 : List (MethodName × Nat) := [(⟨"NullKinds$Outlook", "begin", "(I)V"⟩, 7), (⟨"NullKinds$Outlook", "goOn", "(IIIII)V"⟩, 7), (⟨"NullKinds$Outlook", "goBothWays", "(II)V"⟩, 7), (⟨"NullKinds$Outlook", "keep", "(II)Z"⟩, 7), (⟨"NullKinds$Outlook", "pass", "(IIII)Z"⟩, 7), (⟨"NullKinds$Outlook", "put", "(II)Z"⟩, 7), (⟨"NullKinds$Outlook", "cellsOf", "(I)I"⟩, 7), (⟨"NullKinds$Outlook", "keepBoth", "(IIII)Z"⟩, 7), (⟨"NullKinds$Outlook", "isReached", "(I)Z"⟩, 7), (⟨"java/lang/Throwable", "fillInStackTrace", "(I)Ljava/lang/Throwable;"⟩, 6), (⟨"NullKindsModel", "forget", "()V"⟩, 31), (⟨"NullKindsModel", "kind", "(I)I"⟩, 31), (⟨"NullKindsModel", "doStep", "(I)I"⟩, 31), (⟨"NullKindsModel", "newObject", "(I)I"⟩, 31), (⟨"NullKindsModel", "newArray", "(II)I"⟩, 31), (⟨"NullKindsModel", "isWrong", "(II)Z"⟩, 31)]
theorem lw_r3 : ∀ q ∈ lw_privs_3, lw_okq q := List.forall_mem_cons.mpr ⟨lw_p32, List.forall_mem_cons.mpr ⟨lw_p33, List.forall_mem_cons.mpr ⟨lw_p34, List.forall_mem_cons.mpr ⟨lw_p35, List.forall_mem_cons.mpr ⟨lw_p36, List.forall_mem_cons.mpr ⟨lw_p37, List.forall_mem_cons.mpr ⟨lw_p38, List.forall_mem_cons.mpr ⟨lw_p39, List.forall_mem_cons.mpr ⟨lw_p40, List.forall_mem_cons.mpr ⟨lw_p41, List.forall_mem_cons.mpr ⟨lw_p42, List.forall_mem_cons.mpr ⟨lw_p43, List.forall_mem_cons.mpr ⟨lw_p44, List.forall_mem_cons.mpr ⟨lw_p45, List.forall_mem_cons.mpr ⟨lw_p46, List.forall_mem_cons.mpr ⟨lw_p47, fun _ h => absurd h List.not_mem_nil⟩⟩⟩⟩⟩⟩⟩⟩⟩⟩⟩⟩⟩⟩⟩⟩
theorem lw_p48 : lw_okq (⟨"NullKindsModel", "isCell", "(II)Z"⟩, 31) := ⟨⟨by decide +kernel, by decide +kernel⟩, List.mem_of_getElem? (i := 750) (by decide +kernel), List.mem_of_getElem? (i := 917) (by decide +kernel), List.mem_of_getElem? (i := 918) (by decide +kernel)⟩
theorem lw_p49 : lw_okq (⟨"NullKindsModel", "store", "(III)I"⟩, 31) := ⟨⟨by decide +kernel, by decide +kernel⟩, List.mem_of_getElem? (i := 750) (by decide +kernel), List.mem_of_getElem? (i := 921) (by decide +kernel), List.mem_of_getElem? (i := 922) (by decide +kernel)⟩
theorem lw_p50 : lw_okq (⟨"NullKindsModel", "tag", "(IZ)I"⟩, 31) := ⟨⟨by decide +kernel, by decide +kernel⟩, List.mem_of_getElem? (i := 750) (by decide +kernel), List.mem_of_getElem? (i := 925) (by decide +kernel), List.mem_of_getElem? (i := 926) (by decide +kernel)⟩
theorem lw_p51 : lw_okq (⟨"NullKindsModel", "doOther", "(IIII)I"⟩, 31) := ⟨⟨by decide +kernel, by decide +kernel⟩, List.mem_of_getElem? (i := 750) (by decide +kernel), List.mem_of_getElem? (i := 929) (by decide +kernel), List.mem_of_getElem? (i := 930) (by decide +kernel)⟩
theorem lw_p52 : lw_okq (⟨"NullKindsModel", "copy", "(III)I"⟩, 31) := ⟨⟨by decide +kernel, by decide +kernel⟩, List.mem_of_getElem? (i := 750) (by decide +kernel), List.mem_of_getElem? (i := 933) (by decide +kernel), List.mem_of_getElem? (i := 934) (by decide +kernel)⟩
theorem lw_p53 : lw_okq (⟨"NullKindsModel", "tell", "()V"⟩, 31) := ⟨⟨by decide +kernel, by decide +kernel⟩, List.mem_of_getElem? (i := 750) (by decide +kernel), List.mem_of_getElem? (i := 962) (by decide +kernel), List.mem_of_getElem? (i := 963) (by decide +kernel)⟩
theorem lw_p54 : lw_okq (⟨"NullKindsModel", "goOn", "(I)V"⟩, 31) := ⟨⟨by decide +kernel, by decide +kernel⟩, List.mem_of_getElem? (i := 750) (by decide +kernel), List.mem_of_getElem? (i := 966) (by decide +kernel), List.mem_of_getElem? (i := 967) (by decide +kernel)⟩
theorem lw_p55 : lw_okq (⟨"NullKindsModel", "takes", "(I)V"⟩, 31) := ⟨⟨by decide +kernel, by decide +kernel⟩, List.mem_of_getElem? (i := 750) (by decide +kernel), List.mem_of_getElem? (i := 970) (by decide +kernel), List.mem_of_getElem? (i := 971) (by decide +kernel)⟩
theorem lw_p56 : lw_okq (⟨"NullKindsModel", "comes", "(I)V"⟩, 31) := ⟨⟨by decide +kernel, by decide +kernel⟩, List.mem_of_getElem? (i := 750) (by decide +kernel), List.mem_of_getElem? (i := 977) (by decide +kernel), List.mem_of_getElem? (i := 978) (by decide +kernel)⟩
theorem lw_p57 : lw_okq (⟨"NullKindsModel", "adds", "(II)V"⟩, 31) := ⟨⟨by decide +kernel, by decide +kernel⟩, List.mem_of_getElem? (i := 750) (by decide +kernel), List.mem_of_getElem? (i := 981) (by decide +kernel), List.mem_of_getElem? (i := 982) (by decide +kernel)⟩
theorem lw_p58 : lw_okq (⟨"NullKindsModel", "faultsOf", "(I)I"⟩, 31) := ⟨⟨by decide +kernel, by decide +kernel⟩, List.mem_of_getElem? (i := 750) (by decide +kernel), List.mem_of_getElem? (i := 988) (by decide +kernel), List.mem_of_getElem? (i := 989) (by decide +kernel)⟩
theorem lw_p59 : lw_okq (⟨"NullKindsModel", "copyFaults", "(II)I"⟩, 31) := ⟨⟨by decide +kernel, by decide +kernel⟩, List.mem_of_getElem? (i := 750) (by decide +kernel), List.mem_of_getElem? (i := 995) (by decide +kernel), List.mem_of_getElem? (i := 996) (by decide +kernel)⟩
def lw_privs_4 : List (MethodName × Nat) := [(⟨"NullKindsModel", "isCell", "(II)Z"⟩, 31), (⟨"NullKindsModel", "store", "(III)I"⟩, 31), (⟨"NullKindsModel", "tag", "(IZ)I"⟩, 31), (⟨"NullKindsModel", "doOther", "(IIII)I"⟩, 31), (⟨"NullKindsModel", "copy", "(III)I"⟩, 31), (⟨"NullKindsModel", "tell", "()V"⟩, 31), (⟨"NullKindsModel", "goOn", "(I)V"⟩, 31), (⟨"NullKindsModel", "takes", "(I)V"⟩, 31), (⟨"NullKindsModel", "comes", "(I)V"⟩, 31), (⟨"NullKindsModel", "adds", "(II)V"⟩, 31), (⟨"NullKindsModel", "faultsOf", "(I)I"⟩, 31), (⟨"NullKindsModel", "copyFaults", "(II)I"⟩, 31)]
theorem lw_r4 : ∀ q ∈ lw_privs_4, lw_okq q := List.forall_mem_cons.mpr ⟨lw_p48, List.forall_mem_cons.mpr ⟨lw_p49, List.forall_mem_cons.mpr ⟨lw_p50, List.forall_mem_cons.mpr ⟨lw_p51, List.forall_mem_cons.mpr ⟨lw_p52, List.forall_mem_cons.mpr ⟨lw_p53, List.forall_mem_cons.mpr ⟨lw_p54, List.forall_mem_cons.mpr ⟨lw_p55, List.forall_mem_cons.mpr ⟨lw_p56, List.forall_mem_cons.mpr ⟨lw_p57, List.forall_mem_cons.mpr ⟨lw_p58, List.forall_mem_cons.mpr ⟨lw_p59, fun _ h => absurd h List.not_mem_nil⟩⟩⟩⟩⟩⟩⟩⟩⟩⟩⟩⟩
def lw_privs : List (MethodName × Nat) := lw_privs_1 ++ (lw_privs_2 ++ (lw_privs_3 ++ (lw_privs_4)))
def lw_tbl : List Cond := k2_sels lw_privs ++ tables_1
theorem lw_privs_ok : ∀ q ∈ lw_privs, lw_okq q := by
  show ∀ q ∈ lw_privs_1 ++ (lw_privs_2 ++ (lw_privs_3 ++ (lw_privs_4))), lw_okq q
  exact List.forall_mem_append.mpr ⟨lw_r1, List.forall_mem_append.mpr ⟨lw_r2, List.forall_mem_append.mpr ⟨lw_r3, lw_r4⟩⟩⟩

def RX0 : String := "NullKinds$Heap"
def TX0 : u_T := fun k => match k with
  | 0 => ("NullKinds$Heap", "kinds", "[I", true)
  | 1 => ("NullKinds$Heap", "lengths", "[I", true)
  | 2 => ("NullKinds$Heap", "nexts", "[I", true)
  | 3 => ("NullKinds$Heap", "cells", "[I", true)
  | 4 => ("NullKinds$Heap", "moving", "[I", true)
  | _ => ("NullKinds$Heap", "made", "I", false)
def tyX0 : Nat → FieldType := fun k => match k with
  | 0 => .array .int
  | 1 => .array .int
  | 2 => .array .int
  | 3 => .array .int
  | 4 => .array .int
  | _ => .int
abbrev wsX00 : List Cond := u_ws RX0 TX0 6
theorem nmX0 : ∀ a, a < 6 → ∀ b, b < 6 → a ≠ b → (TX0 a).2.1 ≠ (TX0 b).2.1 := by decide +kernel
theorem tyX0_ok : ∀ k, k < 6 → parseFieldDescriptor (TX0 k).2.2.1 = some (tyX0 k) := by decide +kernel
abbrev cX0_init : ByteArray := prog_2_method_1_code
def yX0_init : MethodName := ⟨RX0, "<init>", "()V"⟩
abbrev cX0_empty : ByteArray := prog_2_method_2_code
def yX0_empty : MethodName := ⟨RX0, "empty", "()V"⟩
abbrev cX0_size : ByteArray := prog_2_method_3_code
def yX0_size : MethodName := ⟨RX0, "size", "()I"⟩
abbrev cX0_isFull : ByteArray := prog_2_method_4_code
def yX0_isFull : MethodName := ⟨RX0, "isFull", "()Z"⟩
abbrev cX0_make : ByteArray := prog_2_method_5_code
def yX0_make : MethodName := ⟨RX0, "make", "(II)I"⟩
abbrev cX0_firstCell : ByteArray := prog_2_method_6_code
def yX0_firstCell : MethodName := ⟨RX0, "firstCell", "(I)I"⟩
abbrev cX0_kindOf : ByteArray := prog_2_method_7_code
def yX0_kindOf : MethodName := ⟨RX0, "kindOf", "(I)I"⟩
abbrev cX0_lengthOf : ByteArray := prog_2_method_8_code
def yX0_lengthOf : MethodName := ⟨RX0, "lengthOf", "(I)I"⟩
abbrev cX0_nextOf : ByteArray := prog_2_method_9_code
def yX0_nextOf : MethodName := ⟨RX0, "nextOf", "(I)I"⟩
abbrev cX0_setNext : ByteArray := prog_2_method_10_code
def yX0_setNext : MethodName := ⟨RX0, "setNext", "(II)V"⟩
abbrev cX0_cell : ByteArray := prog_2_method_11_code
def yX0_cell : MethodName := ⟨RX0, "cell", "(II)I"⟩
abbrev cX0_setCell : ByteArray := prog_2_method_12_code
def yX0_setCell : MethodName := ⟨RX0, "setCell", "(III)V"⟩
abbrev cX0_takes : ByteArray := prog_2_method_13_code
def yX0_takes : MethodName := ⟨RX0, "takes", "(II)Z"⟩
abbrev cX0_move : ByteArray := prog_2_method_14_code
def yX0_move : MethodName := ⟨RX0, "move", "(IIII)I"⟩
def RX1 : String := "NullKinds$Machine"
def TX1 : u_T := fun k => match k with
  | 0 => ("NullKinds$Machine", "program", "LNullKinds$Program;", true)
  | 1 => ("NullKinds$Machine", "watch", "LNullKinds$Watch;", true)
  | 2 => ("NullKinds$Machine", "heap", "LNullKinds$Heap;", true)
  | 3 => ("NullKinds$Machine", "variables", "[I", true)
  | 4 => ("NullKinds$Machine", "numbers", "[I", true)
  | 5 => ("NullKinds$Machine", "at", "I", false)
  | 6 => ("NullKinds$Machine", "done", "I", false)
  | 7 => ("NullKinds$Machine", "faulted", "I", false)
  | 8 => ("NullKinds$Machine", "state", "I", false)
  | 9 => ("NullKinds$Machine", "endedWith", "I", false)
  | 10 => ("NullKinds$Machine", "thrownFault", "I", false)
  | _ => ("NullKinds$Machine", "thrownStep", "I", false)
def tyX1 : Nat → FieldType := fun k => match k with
  | 0 => .object "NullKinds$Program"
  | 1 => .object "NullKinds$Watch"
  | 2 => .object "NullKinds$Heap"
  | 3 => .array .int
  | 4 => .array .int
  | 5 => .int
  | 6 => .int
  | 7 => .int
  | 8 => .int
  | 9 => .int
  | 10 => .int
  | _ => .int
abbrev wsX10 : List Cond := u_ws RX1 TX1 12
theorem nmX1 : ∀ a, a < 12 → ∀ b, b < 12 → a ≠ b → (TX1 a).2.1 ≠ (TX1 b).2.1 := by decide +kernel
theorem tyX1_ok : ∀ k, k < 12 → parseFieldDescriptor (TX1 k).2.2.1 = some (tyX1 k) := by decide +kernel
abbrev cX1_init : ByteArray := prog_3_method_1_code
def yX1_init : MethodName := ⟨RX1, "<init>", "(LNullKinds$Program;LNullKinds$Watch;)V"⟩
abbrev cX1_forget : ByteArray := prog_3_method_2_code
def yX1_forget : MethodName := ⟨RX1, "forget", "()V"⟩
abbrev cX1_hasRun : ByteArray := prog_3_method_3_code
def yX1_hasRun : MethodName := ⟨RX1, "hasRun", "()Z"⟩
abbrev cX1_go : ByteArray := prog_3_method_4_code
def yX1_go : MethodName := ⟨RX1, "go", "(II)I"⟩
abbrev cX1_begin : ByteArray := prog_3_method_5_code
def yX1_begin : MethodName := ⟨RX1, "begin", "(II)V"⟩
abbrev cX1_takeStep : ByteArray := prog_3_method_6_code
def yX1_takeStep : MethodName := ⟨RX1, "takeStep", "(I)V"⟩
abbrev cX1_meetFault : ByteArray := prog_3_method_7_code
def yX1_meetFault : MethodName := ⟨RX1, "meetFault", "(II)V"⟩
abbrev cX1_perform : ByteArray := prog_3_method_8_code
def yX1_perform : MethodName := ⟨RX1, "perform", "(IIII)I"⟩
abbrev cX1_performSafely : ByteArray := prog_3_method_9_code
def yX1_performSafely : MethodName := ⟨RX1, "performSafely", "(IIII)V"⟩
abbrev cX1_jumpIf : ByteArray := prog_3_method_10_code
def yX1_jumpIf : MethodName := ⟨RX1, "jumpIf", "(ZI)V"⟩
abbrev cX1_makeThing : ByteArray := prog_3_method_11_code
def yX1_makeThing : MethodName := ⟨RX1, "makeThing", "(II)I"⟩
abbrev cX1_makeArray : ByteArray := prog_3_method_12_code
def yX1_makeArray : MethodName := ⟨RX1, "makeArray", "(III)I"⟩
abbrev cX1_castInto : ByteArray := prog_3_method_13_code
def yX1_castInto : MethodName := ⟨RX1, "castInto", "(III)I"⟩
abbrev cX1_getNext : ByteArray := prog_3_method_14_code
def yX1_getNext : MethodName := ⟨RX1, "getNext", "(II)I"⟩
abbrev cX1_setNext : ByteArray := prog_3_method_15_code
def yX1_setNext : MethodName := ⟨RX1, "setNext", "(II)I"⟩
abbrev cX1_getCell : ByteArray := prog_3_method_16_code
def yX1_getCell : MethodName := ⟨RX1, "getCell", "(III)I"⟩
abbrev cX1_setCell : ByteArray := prog_3_method_17_code
def yX1_setCell : MethodName := ⟨RX1, "setCell", "(III)I"⟩
abbrev cX1_askFace : ByteArray := prog_3_method_18_code
def yX1_askFace : MethodName := ⟨RX1, "askFace", "(IIZ)I"⟩
abbrev cX1_getLength : ByteArray := prog_3_method_19_code
def yX1_getLength : MethodName := ⟨RX1, "getLength", "(II)I"⟩
abbrev cX1_getInt : ByteArray := prog_3_method_20_code
def yX1_getInt : MethodName := ⟨RX1, "getInt", "(III)I"⟩
abbrev cX1_setInt : ByteArray := prog_3_method_21_code
def yX1_setInt : MethodName := ⟨RX1, "setInt", "(III)I"⟩
abbrev cX1_divide : ByteArray := prog_3_method_22_code
def yX1_divide : MethodName := ⟨RX1, "divide", "(II)I"⟩
abbrev cX1_move : ByteArray := prog_3_method_23_code
def yX1_move : MethodName := ⟨RX1, "move", "(IIII)I"⟩
abbrev cX1_castFault : ByteArray := prog_3_method_24_code
def yX1_castFault : MethodName := ⟨RX1, "castFault", "(II)I"⟩
abbrev cX1_useFault : ByteArray := prog_3_method_25_code
def yX1_useFault : MethodName := ⟨RX1, "useFault", "(II)I"⟩
abbrev cX1_cellFault : ByteArray := prog_3_method_26_code
def yX1_cellFault : MethodName := ⟨RX1, "cellFault", "(III)I"⟩
abbrev cX1_report : ByteArray := prog_3_method_27_code
def yX1_report : MethodName := ⟨RX1, "report", "(I)J"⟩
abbrev cX1_look : ByteArray := prog_3_method_28_code
def yX1_look : MethodName := ⟨RX1, "look", "(II)I"⟩
abbrev cX1_numberAt : ByteArray := prog_3_method_29_code
def yX1_numberAt : MethodName := ⟨RX1, "numberAt", "(I)I"⟩
def RX2 : String := "NullKinds$Outlook"
def TX2 : u_T := fun k => match k with
  | 0 => ("NullKinds$Outlook", "program", "LNullKinds$Program;", true)
  | 1 => ("NullKinds$Outlook", "mays", "[I", true)
  | 2 => ("NullKinds$Outlook", "alls", "[I", true)
  | 3 => ("NullKinds$Outlook", "after", "[I", true)
  | 4 => ("NullKinds$Outlook", "reached", "I", false)
  | 5 => ("NullKinds$Outlook", "waiting", "I", false)
  | _ => ("NullKinds$Outlook", "settled", "Z", false)
def tyX2 : Nat → FieldType := fun k => match k with
  | 0 => .object "NullKinds$Program"
  | 1 => .array .int
  | 2 => .array .int
  | 3 => .array .int
  | 4 => .int
  | 5 => .int
  | _ => .boolean
abbrev wsX20 : List Cond := u_ws RX2 TX2 7
theorem nmX2 : ∀ a, a < 7 → ∀ b, b < 7 → a ≠ b → (TX2 a).2.1 ≠ (TX2 b).2.1 := by decide +kernel
theorem tyX2_ok : ∀ k, k < 7 → parseFieldDescriptor (TX2 k).2.2.1 = some (tyX2 k) := by decide +kernel
abbrev cX2_init : ByteArray := prog_4_method_1_code
def yX2_init : MethodName := ⟨RX2, "<init>", "(LNullKinds$Program;)V"⟩
abbrev cX2_forget : ByteArray := prog_4_method_2_code
def yX2_forget : MethodName := ⟨RX2, "forget", "()V"⟩
abbrev cX2_settle : ByteArray := prog_4_method_3_code
def yX2_settle : MethodName := ⟨RX2, "settle", "()V"⟩
abbrev cX2_kindsAt : ByteArray := prog_4_method_4_code
def yX2_kindsAt : MethodName := ⟨RX2, "kindsAt", "(II)I"⟩
abbrev cX2_faultsAt : ByteArray := prog_4_method_5_code
def yX2_faultsAt : MethodName := ⟨RX2, "faultsAt", "(I)I"⟩
abbrev cX2_castAt : ByteArray := prog_4_method_6_code
def yX2_castAt : MethodName := ⟨RX2, "castAt", "(I)I"⟩
abbrev cX2_allOf : ByteArray := prog_4_method_7_code
def yX2_allOf : MethodName := ⟨RX2, "allOf", "(I)I"⟩
abbrev cX2_isReached : ByteArray := prog_4_method_8_code
def yX2_isReached : MethodName := ⟨RX2, "isReached", "(I)Z"⟩
abbrev cX2_lookAt : ByteArray := prog_4_method_9_code
def yX2_lookAt : MethodName := ⟨RX2, "lookAt", "(I)V"⟩
abbrev cX2_begin : ByteArray := prog_4_method_10_code
def yX2_begin : MethodName := ⟨RX2, "begin", "(I)V"⟩
abbrev cX2_goTo : ByteArray := prog_4_method_11_code
def yX2_goTo : MethodName := ⟨RX2, "goTo", "(I)V"⟩
abbrev cX2_addToAll : ByteArray := prog_4_method_12_code
def yX2_addToAll : MethodName := ⟨RX2, "addToAll", "(II)V"⟩
abbrev cX2_store : ByteArray := prog_4_method_13_code
def yX2_store : MethodName := ⟨RX2, "store", "(I)V"⟩
abbrev cX2_storeCell : ByteArray := prog_4_method_14_code
def yX2_storeCell : MethodName := ⟨RX2, "storeCell", "(II)V"⟩
abbrev cX2_storeMoved : ByteArray := prog_4_method_15_code
def yX2_storeMoved : MethodName := ⟨RX2, "storeMoved", "(II)V"⟩
abbrev cX2_goOn : ByteArray := prog_4_method_16_code
def yX2_goOn : MethodName := ⟨RX2, "goOn", "(IIIII)V"⟩
abbrev cX2_goBothWays : ByteArray := prog_4_method_17_code
def yX2_goBothWays : MethodName := ⟨RX2, "goBothWays", "(II)V"⟩
abbrev cX2_pass : ByteArray := prog_4_method_18_code
def yX2_pass : MethodName := ⟨RX2, "pass", "(IIII)Z"⟩
abbrev cX2_put : ByteArray := prog_4_method_19_code
def yX2_put : MethodName := ⟨RX2, "put", "(II)Z"⟩
abbrev cX2_keep : ByteArray := prog_4_method_20_code
def yX2_keep : MethodName := ⟨RX2, "keep", "(II)Z"⟩
abbrev cX2_keepBoth : ByteArray := prog_4_method_21_code
def yX2_keepBoth : MethodName := ⟨RX2, "keepBoth", "(IIII)Z"⟩
abbrev cX2_cellsOf : ByteArray := prog_4_method_22_code
def yX2_cellsOf : MethodName := ⟨RX2, "cellsOf", "(I)I"⟩
abbrev cX2_arraysThatTake : ByteArray := prog_4_method_23_code
def yX2_arraysThatTake : MethodName := ⟨RX2, "arraysThatTake", "(I)I"⟩
abbrev cX2_kindsTakenBy : ByteArray := prog_4_method_24_code
def yX2_kindsTakenBy : MethodName := ⟨RX2, "kindsTakenBy", "(I)I"⟩
abbrev cX2_movedTo : ByteArray := prog_4_method_25_code
def yX2_movedTo : MethodName := ⟨RX2, "movedTo", "(I)I"⟩
abbrev cX2_movedFrom : ByteArray := prog_4_method_26_code
def yX2_movedFrom : MethodName := ⟨RX2, "movedFrom", "(I)I"⟩
abbrev cX2_faultsOf : ByteArray := prog_4_method_27_code
def yX2_faultsOf : MethodName := ⟨RX2, "faultsOf", "(I)I"⟩
abbrev cX2_castFaults : ByteArray := prog_4_method_28_code
def yX2_castFaults : MethodName := ⟨RX2, "castFaults", "(II)I"⟩
abbrev cX2_useFaults : ByteArray := prog_4_method_29_code
def yX2_useFaults : MethodName := ⟨RX2, "useFaults", "(II)I"⟩
abbrev cX2_cellFaults : ByteArray := prog_4_method_30_code
def yX2_cellFaults : MethodName := ⟨RX2, "cellFaults", "(II)I"⟩
abbrev cX2_lengthFaults : ByteArray := prog_4_method_31_code
def yX2_lengthFaults : MethodName := ⟨RX2, "lengthFaults", "(I)I"⟩
abbrev cX2_setCellFaults : ByteArray := prog_4_method_32_code
def yX2_setCellFaults : MethodName := ⟨RX2, "setCellFaults", "(II)I"⟩
abbrev cX2_moveFaults : ByteArray := prog_4_method_33_code
def yX2_moveFaults : MethodName := ⟨RX2, "moveFaults", "(II)I"⟩
abbrev cX2_moveFaultsOf : ByteArray := prog_4_method_34_code
def yX2_moveFaultsOf : MethodName := ⟨RX2, "moveFaultsOf", "(II)I"⟩
abbrev cX2_cellsIn : ByteArray := prog_4_method_35_code
def yX2_cellsIn : MethodName := ⟨RX2, "cellsIn", "(I)I"⟩
def RX3 : String := "NullKinds$Program"
def TX3 : u_T := fun k => match k with
  | 0 => ("NullKinds$Program", "codes", "[I", true)
  | 1 => ("NullKinds$Program", "as", "[I", true)
  | 2 => ("NullKinds$Program", "bs", "[I", true)
  | 3 => ("NullKinds$Program", "cs", "[I", true)
  | 4 => ("NullKinds$Program", "handlers", "[I", true)
  | _ => ("NullKinds$Program", "count", "I", false)
def tyX3 : Nat → FieldType := fun k => match k with
  | 0 => .array .int
  | 1 => .array .int
  | 2 => .array .int
  | 3 => .array .int
  | 4 => .array .int
  | _ => .int
abbrev wsX30 : List Cond := u_ws RX3 TX3 6
theorem nmX3 : ∀ a, a < 6 → ∀ b, b < 6 → a ≠ b → (TX3 a).2.1 ≠ (TX3 b).2.1 := by decide +kernel
theorem tyX3_ok : ∀ k, k < 6 → parseFieldDescriptor (TX3 k).2.2.1 = some (tyX3 k) := by decide +kernel
abbrev cX3_init : ByteArray := prog_5_method_1_code
def yX3_init : MethodName := ⟨RX3, "<init>", "()V"⟩
abbrev cX3_isInBounds : ByteArray := prog_5_method_2_code
def yX3_isInBounds : MethodName := ⟨RX3, "isInBounds", "(IIIII)Z"⟩
abbrev cX3_fits : ByteArray := prog_5_method_3_code
def yX3_fits : MethodName := ⟨RX3, "fits", "(II)Z"⟩
abbrev cX3_add : ByteArray := prog_5_method_4_code
def yX3_add : MethodName := ⟨RX3, "add", "(IIIII)I"⟩
abbrev cX3_empty : ByteArray := prog_5_method_5_code
def yX3_empty : MethodName := ⟨RX3, "empty", "()V"⟩
abbrev cX3_size : ByteArray := prog_5_method_6_code
def yX3_size : MethodName := ⟨RX3, "size", "()I"⟩
abbrev cX3_has : ByteArray := prog_5_method_7_code
def yX3_has : MethodName := ⟨RX3, "has", "(I)Z"⟩
def RX4 : String := "NullKinds$Watch"
def TX4 : u_T := fun k => match k with
  | 0 => ("NullKinds$Watch", "kinds", "[I", true)
  | 1 => ("NullKinds$Watch", "faults", "[I", true)
  | 2 => ("NullKinds$Watch", "steps", "I", false)
  | _ => ("NullKinds$Watch", "runs", "I", false)
def tyX4 : Nat → FieldType := fun k => match k with
  | 0 => .array .int
  | 1 => .array .int
  | 2 => .int
  | _ => .int
abbrev wsX40 : List Cond := u_ws RX4 TX4 4
theorem nmX4 : ∀ a, a < 4 → ∀ b, b < 4 → a ≠ b → (TX4 a).2.1 ≠ (TX4 b).2.1 := by decide +kernel
theorem tyX4_ok : ∀ k, k < 4 → parseFieldDescriptor (TX4 k).2.2.1 = some (tyX4 k) := by decide +kernel
abbrev cX4_init : ByteArray := prog_6_method_1_code
def yX4_init : MethodName := ⟨RX4, "<init>", "()V"⟩
abbrev cX4_forget : ByteArray := prog_6_method_2_code
def yX4_forget : MethodName := ⟨RX4, "forget", "()V"⟩
abbrev cX4_noteRun : ByteArray := prog_6_method_3_code
def yX4_noteRun : MethodName := ⟨RX4, "noteRun", "()V"⟩
abbrev cX4_noteStep : ByteArray := prog_6_method_4_code
def yX4_noteStep : MethodName := ⟨RX4, "noteStep", "()V"⟩
abbrev cX4_noteKind : ByteArray := prog_6_method_5_code
def yX4_noteKind : MethodName := ⟨RX4, "noteKind", "(III)V"⟩
abbrev cX4_noteFault : ByteArray := prog_6_method_6_code
def yX4_noteFault : MethodName := ⟨RX4, "noteFault", "(II)V"⟩
abbrev cX4_kindsAt : ByteArray := prog_6_method_7_code
def yX4_kindsAt : MethodName := ⟨RX4, "kindsAt", "(II)I"⟩
abbrev cX4_faultsAt : ByteArray := prog_6_method_8_code
def yX4_faultsAt : MethodName := ⟨RX4, "faultsAt", "(I)I"⟩
abbrev cX4_stepsDone : ByteArray := prog_6_method_9_code
def yX4_stepsDone : MethodName := ⟨RX4, "stepsDone", "()I"⟩
abbrev cX4_runs : ByteArray := prog_6_method_10_code
def yX4_runs : MethodName := ⟨RX4, "runs", "()I"⟩
def RX5 : String := "NullKinds"
def TX5 : u_T := fun k => match k with
  | 0 => ("NullKinds", "program", "LNullKinds$Program;", true)
  | 1 => ("NullKinds", "watch", "LNullKinds$Watch;", true)
  | 2 => ("NullKinds", "machine", "LNullKinds$Machine;", true)
  | _ => ("NullKinds", "outlook", "LNullKinds$Outlook;", true)
def tyX5 : Nat → FieldType := fun k => match k with
  | 0 => .object "NullKinds$Program"
  | 1 => .object "NullKinds$Watch"
  | 2 => .object "NullKinds$Machine"
  | _ => .object "NullKinds$Outlook"
abbrev wsX50 : List Cond := u_ws RX5 TX5 4
theorem nmX5 : ∀ a, a < 4 → ∀ b, b < 4 → a ≠ b → (TX5 a).2.1 ≠ (TX5 b).2.1 := by decide +kernel
theorem tyX5_ok : ∀ k, k < 4 → parseFieldDescriptor (TX5 k).2.2.1 = some (tyX5 k) := by decide +kernel
abbrev cX5_init : ByteArray := prog_1_method_1_code
def yX5_init : MethodName := ⟨RX5, "<init>", "()V"⟩
abbrev cX5_step : ByteArray := prog_1_method_2_code
def yX5_step : MethodName := ⟨RX5, "step", "(IIIII)I"⟩
abbrev cX5_clear : ByteArray := prog_1_method_3_code
def yX5_clear : MethodName := ⟨RX5, "clear", "()I"⟩
abbrev cX5_run : ByteArray := prog_1_method_4_code
def yX5_run : MethodName := ⟨RX5, "run", "(II)I"⟩
abbrev cX5_ran : ByteArray := prog_1_method_5_code
def yX5_ran : MethodName := ⟨RX5, "ran", "(I)J"⟩
abbrev cX5_variable : ByteArray := prog_1_method_6_code
def yX5_variable : MethodName := ⟨RX5, "variable", "(II)I"⟩
abbrev cX5_number : ByteArray := prog_1_method_7_code
def yX5_number : MethodName := ⟨RX5, "number", "(I)J"⟩
abbrev cX5_seen : ByteArray := prog_1_method_8_code
def yX5_seen : MethodName := ⟨RX5, "seen", "(II)I"⟩
abbrev cX5_had : ByteArray := prog_1_method_9_code
def yX5_had : MethodName := ⟨RX5, "had", "(I)I"⟩
abbrev cX5_may : ByteArray := prog_1_method_10_code
def yX5_may : MethodName := ⟨RX5, "may", "(II)I"⟩
abbrev cX5_faults : ByteArray := prog_1_method_11_code
def yX5_faults : MethodName := ⟨RX5, "faults", "(I)I"⟩
abbrev cX5_cast : ByteArray := prog_1_method_12_code
def yX5_cast : MethodName := ⟨RX5, "cast", "(I)I"⟩
abbrev cX5_all : ByteArray := prog_1_method_13_code
def yX5_all : MethodName := ⟨RX5, "all", "(I)I"⟩
abbrev cX5_mean : ByteArray := prog_1_method_14_code
def yX5_mean : MethodName := ⟨RX5, "mean", "()I"⟩
abbrev cX5_isVariable : ByteArray := prog_1_method_15_code
def yX5_isVariable : MethodName := ⟨RX5, "isVariable", "(I)Z"⟩
abbrev cX5_isNumber : ByteArray := prog_1_method_16_code
def yX5_isNumber : MethodName := ⟨RX5, "isNumber", "(I)Z"⟩
abbrev cX5_only : ByteArray := prog_1_method_17_code
def yX5_only : MethodName := ⟨RX5, "only", "(I)I"⟩
abbrev cX5_holds : ByteArray := prog_1_method_18_code
def yX5_holds : MethodName := ⟨RX5, "holds", "(II)Z"⟩
abbrev cX5_share : ByteArray := prog_1_method_19_code
def yX5_share : MethodName := ⟨RX5, "share", "(II)Z"⟩
abbrev cX5_faultIf : ByteArray := prog_1_method_20_code
def yX5_faultIf : MethodName := ⟨RX5, "faultIf", "(ZI)I"⟩
def RX6 : String := "NullKindsModel"
def TX6 : u_T := fun k => match k with
  | 0 => ("NullKindsModel", "thrown", "I", false)
  | 1 => ("NullKindsModel", "steps", "I", false)
  | 2 => ("NullKindsModel", "code", "[I", true)
  | 3 => ("NullKindsModel", "opA", "[I", true)
  | 4 => ("NullKindsModel", "opB", "[I", true)
  | 5 => ("NullKindsModel", "opC", "[I", true)
  | 6 => ("NullKindsModel", "handler", "[I", true)
  | 7 => ("NullKindsModel", "seen", "[I", true)
  | 8 => ("NullKindsModel", "had", "[I", true)
  | 9 => ("NullKindsModel", "doneAll", "J", false)
  | 10 => ("NullKindsModel", "runs", "I", false)
  | 11 => ("NullKindsModel", "has", "Z", false)
  | 12 => ("NullKindsModel", "done", "I", false)
  | 13 => ("NullKindsModel", "endedWith", "I", false)
  | 14 => ("NullKindsModel", "thrownBy", "I", false)
  | 15 => ("NullKindsModel", "thrownAt", "I", false)
  | 16 => ("NullKindsModel", "objects", "I", false)
  | 17 => ("NullKindsModel", "kindOf", "[I", true)
  | 18 => ("NullKindsModel", "nextOf", "[I", true)
  | 19 => ("NullKindsModel", "lengthOf", "[I", true)
  | 20 => ("NullKindsModel", "cells", "[I", true)
  | 21 => ("NullKindsModel", "var", "[I", true)
  | 22 => ("NullKindsModel", "num", "[I", true)
  | 23 => ("NullKindsModel", "told", "Z", false)
  | 24 => ("NullKindsModel", "next", "I", false)
  | 25 => ("NullKindsModel", "row", "[I", true)
  | 26 => ("NullKindsModel", "may", "[I", true)
  | 27 => ("NullKindsModel", "isCome", "[Z", true)
  | 28 => ("NullKindsModel", "all", "[I", true)
  | 29 => ("NullKindsModel", "isNew", "Z", false)
  | _ => ("NullKindsModel", "then", "[I", true)
def tyX6 : Nat → FieldType := fun k => match k with
  | 0 => .int
  | 1 => .int
  | 2 => .array .int
  | 3 => .array .int
  | 4 => .array .int
  | 5 => .array .int
  | 6 => .array .int
  | 7 => .array .int
  | 8 => .array .int
  | 9 => .long
  | 10 => .int
  | 11 => .boolean
  | 12 => .int
  | 13 => .int
  | 14 => .int
  | 15 => .int
  | 16 => .int
  | 17 => .array .int
  | 18 => .array .int
  | 19 => .array .int
  | 20 => .array .int
  | 21 => .array .int
  | 22 => .array .int
  | 23 => .boolean
  | 24 => .int
  | 25 => .array .int
  | 26 => .array .int
  | 27 => .array .boolean
  | 28 => .array .int
  | 29 => .boolean
  | _ => .array .int
abbrev wsX60 : List Cond := u_ws RX6 TX6 31
theorem nmX6 : ∀ a, a < 31 → ∀ b, b < 31 → a ≠ b → (TX6 a).2.1 ≠ (TX6 b).2.1 := by decide +kernel
theorem tyX6_ok : ∀ k, k < 31 → parseFieldDescriptor (TX6 k).2.2.1 = some (tyX6 k) := by decide +kernel
abbrev cX6_init : ByteArray := prog_8_method_1_code
def yX6_init : MethodName := ⟨RX6, "<init>", "()V"⟩
abbrev cX6_thrown : ByteArray := prog_8_method_2_code
def yX6_thrown : MethodName := ⟨RX6, "thrown", "()I"⟩
abbrev cX6_in : ByteArray := prog_8_method_3_code
def yX6_in : MethodName := ⟨RX6, "in", "(JJJ)Z"⟩
abbrev cX6_sortA : ByteArray := prog_8_method_4_code
def yX6_sortA : MethodName := ⟨RX6, "sortA", "(I)I"⟩
abbrev cX6_sortB : ByteArray := prog_8_method_5_code
def yX6_sortB : MethodName := ⟨RX6, "sortB", "(I)I"⟩
abbrev cX6_sortC : ByteArray := prog_8_method_6_code
def yX6_sortC : MethodName := ⟨RX6, "sortC", "(I)I"⟩
abbrev cX6_isGood : ByteArray := prog_8_method_7_code
def yX6_isGood : MethodName := ⟨RX6, "isGood", "(II)Z"⟩
abbrev cX6_forget : ByteArray := prog_8_method_8_code
def yX6_forget : MethodName := ⟨RX6, "forget", "()V"⟩
abbrev cX6_step : ByteArray := prog_8_method_9_code
def yX6_step : MethodName := ⟨RX6, "step", "(IIIII)I"⟩
abbrev cX6_clear : ByteArray := prog_8_method_10_code
def yX6_clear : MethodName := ⟨RX6, "clear", "()I"⟩
abbrev cX6_isOf : ByteArray := prog_8_method_11_code
def yX6_isOf : MethodName := ⟨RX6, "isOf", "(II)Z"⟩
abbrev cX6_kind : ByteArray := prog_8_method_12_code
def yX6_kind : MethodName := ⟨RX6, "kind", "(I)I"⟩
abbrev cX6_isWrong : ByteArray := prog_8_method_13_code
def yX6_isWrong : MethodName := ⟨RX6, "isWrong", "(II)Z"⟩
abbrev cX6_newObject : ByteArray := prog_8_method_14_code
def yX6_newObject : MethodName := ⟨RX6, "newObject", "(I)I"⟩
abbrev cX6_newArray : ByteArray := prog_8_method_15_code
def yX6_newArray : MethodName := ⟨RX6, "newArray", "(II)I"⟩
abbrev cX6_isCell : ByteArray := prog_8_method_16_code
def yX6_isCell : MethodName := ⟨RX6, "isCell", "(II)Z"⟩
abbrev cX6_doStep : ByteArray := prog_8_method_17_code
def yX6_doStep : MethodName := ⟨RX6, "doStep", "(I)I"⟩
abbrev cX6_tag : ByteArray := prog_8_method_18_code
def yX6_tag : MethodName := ⟨RX6, "tag", "(IZ)I"⟩
abbrev cX6_store : ByteArray := prog_8_method_19_code
def yX6_store : MethodName := ⟨RX6, "store", "(III)I"⟩
abbrev cX6_doOther : ByteArray := prog_8_method_20_code
def yX6_doOther : MethodName := ⟨RX6, "doOther", "(IIII)I"⟩
abbrev cX6_copy : ByteArray := prog_8_method_21_code
def yX6_copy : MethodName := ⟨RX6, "copy", "(III)I"⟩
abbrev cX6_run : ByteArray := prog_8_method_22_code
def yX6_run : MethodName := ⟨RX6, "run", "(II)I"⟩
abbrev cX6_ran : ByteArray := prog_8_method_23_code
def yX6_ran : MethodName := ⟨RX6, "ran", "(I)J"⟩
abbrev cX6_variable : ByteArray := prog_8_method_24_code
def yX6_variable : MethodName := ⟨RX6, "variable", "(II)I"⟩
abbrev cX6_number : ByteArray := prog_8_method_25_code
def yX6_number : MethodName := ⟨RX6, "number", "(I)J"⟩
abbrev cX6_seen : ByteArray := prog_8_method_26_code
def yX6_seen : MethodName := ⟨RX6, "seen", "(II)I"⟩
abbrev cX6_had : ByteArray := prog_8_method_27_code
def yX6_had : MethodName := ⟨RX6, "had", "(I)I"⟩
abbrev cX6_bitsOf : ByteArray := prog_8_method_28_code
def yX6_bitsOf : MethodName := ⟨RX6, "bitsOf", "(I)I"⟩
abbrev cX6_adds : ByteArray := prog_8_method_29_code
def yX6_adds : MethodName := ⟨RX6, "adds", "(II)V"⟩
abbrev cX6_takes : ByteArray := prog_8_method_30_code
def yX6_takes : MethodName := ⟨RX6, "takes", "(I)V"⟩
abbrev cX6_comes : ByteArray := prog_8_method_31_code
def yX6_comes : MethodName := ⟨RX6, "comes", "(I)V"⟩
abbrev cX6_copies : ByteArray := prog_8_method_32_code
def yX6_copies : MethodName := ⟨RX6, "copies", "(II)I"⟩
abbrev cX6_goOn : ByteArray := prog_8_method_33_code
def yX6_goOn : MethodName := ⟨RX6, "goOn", "(I)V"⟩
abbrev cX6_faultsOf : ByteArray := prog_8_method_34_code
def yX6_faultsOf : MethodName := ⟨RX6, "faultsOf", "(I)I"⟩
abbrev cX6_casts : ByteArray := prog_8_method_35_code
def yX6_casts : MethodName := ⟨RX6, "casts", "(II)I"⟩
abbrev cX6_copyFaults : ByteArray := prog_8_method_36_code
def yX6_copyFaults : MethodName := ⟨RX6, "copyFaults", "(II)I"⟩
abbrev cX6_tell : ByteArray := prog_8_method_37_code
def yX6_tell : MethodName := ⟨RX6, "tell", "()V"⟩
abbrev cX6_may : ByteArray := prog_8_method_38_code
def yX6_may : MethodName := ⟨RX6, "may", "(II)I"⟩
abbrev cX6_faults : ByteArray := prog_8_method_39_code
def yX6_faults : MethodName := ⟨RX6, "faults", "(I)I"⟩
abbrev cX6_cast : ByteArray := prog_8_method_40_code
def yX6_cast : MethodName := ⟨RX6, "cast", "(I)I"⟩
abbrev cX6_all : ByteArray := prog_8_method_41_code
def yX6_all : MethodName := ⟨RX6, "all", "(I)I"⟩
abbrev cX6_mean : ByteArray := prog_8_method_42_code
def yX6_mean : MethodName := ⟨RX6, "mean", "()I"⟩
def RJ0 : String := "java/lang/String"
def TJ0 : u_T := fun k => match k with
  | _ => ("", "", "", false)
def tyJ0 : Nat → FieldType := fun k => match k with
  | _ => .int
abbrev wsJ00 : List Cond := u_ws RJ0 TJ0 0
theorem nmJ0 : ∀ a, a < 0 → ∀ b, b < 0 → a ≠ b → (TJ0 a).2.1 ≠ (TJ0 b).2.1 := by decide +kernel
theorem tyJ0_ok : ∀ k, k < 0 → parseFieldDescriptor (TJ0 k).2.2.1 = some (tyJ0 k) := by decide +kernel
abbrev cJ0_charAt_5068e : ByteArray := prog_12_method_56_code
def yJ0_charAt_5068e : MethodName := ⟨RJ0, "charAt", "(I)C"⟩
abbrev cJ0_isLatin1_aae02 : ByteArray := prog_12_method_154_code
def yJ0_isLatin1_aae02 : MethodName := ⟨RJ0, "isLatin1", "()Z"⟩
abbrev cJ0_checkIndex_df160 : ByteArray := prog_12_method_155_code
def yJ0_checkIndex_df160 : MethodName := ⟨RJ0, "checkIndex", "(II)V"⟩
def RJ1 : String := "java/lang/StringLatin1"
def TJ1 : u_T := fun k => match k with
  | _ => ("", "", "", false)
def tyJ1 : Nat → FieldType := fun k => match k with
  | _ => .int
abbrev wsJ10 : List Cond := u_ws RJ1 TJ1 0
theorem nmJ1 : ∀ a, a < 0 → ∀ b, b < 0 → a ≠ b → (TJ1 a).2.1 ≠ (TJ1 b).2.1 := by decide +kernel
theorem tyJ1_ok : ∀ k, k < 0 → parseFieldDescriptor (TJ1 k).2.2.1 = some (tyJ1 k) := by decide +kernel
abbrev cJ1_charAt_3b067 : ByteArray := prog_13_method_2_code
def yJ1_charAt_3b067 : MethodName := ⟨RJ1, "charAt", "([BI)C"⟩
def RJ2 : String := "java/lang/StringUTF16"
def TJ2 : u_T := fun k => match k with
  | _ => ("", "", "", false)
def tyJ2 : Nat → FieldType := fun k => match k with
  | _ => .int
abbrev wsJ20 : List Cond := u_ws RJ2 TJ2 0
theorem nmJ2 : ∀ a, a < 0 → ∀ b, b < 0 → a ≠ b → (TJ2 a).2.1 ≠ (TJ2 b).2.1 := by decide +kernel
theorem tyJ2_ok : ∀ k, k < 0 → parseFieldDescriptor (TJ2 k).2.2.1 = some (tyJ2 k) := by decide +kernel
abbrev cJ2_getChar_3b067 : ByteArray := prog_14_method_5_code
def yJ2_getChar_3b067 : MethodName := ⟨RJ2, "getChar", "([BI)C"⟩
abbrev cJ2_length_9d52b : ByteArray := prog_14_method_6_code
def yJ2_length_9d52b : MethodName := ⟨RJ2, "length", "([B)I"⟩
abbrev cJ2_charAt_3b067 : ByteArray := prog_14_method_83_code
def yJ2_charAt_3b067 : MethodName := ⟨RJ2, "charAt", "([BI)C"⟩
abbrev cJ2_checkIndex_2214a : ByteArray := prog_14_method_91_code
def yJ2_checkIndex_2214a : MethodName := ⟨RJ2, "checkIndex", "(I[B)V"⟩
def RJ7 : String := "java/util/Arrays"
def TJ7 : u_T := fun k => match k with
  | _ => ("", "", "", false)
def tyJ7 : Nat → FieldType := fun k => match k with
  | _ => .int
abbrev wsJ70 : List Cond := u_ws RJ7 TJ7 0
theorem nmJ7 : ∀ a, a < 0 → ∀ b, b < 0 → a ≠ b → (TJ7 a).2.1 ≠ (TJ7 b).2.1 := by decide +kernel
theorem tyJ7_ok : ∀ k, k < 0 → parseFieldDescriptor (TJ7 k).2.2.1 = some (tyJ7 k) := by decide +kernel
abbrev cJ7_fill_53178 : ByteArray := prog_16_method_103_code
def yJ7_fill_53178 : MethodName := ⟨RJ7, "fill", "([II)V"⟩
def RJ3 : String := "jdk/internal/util/Preconditions"
def TJ3 : u_T := fun k => match k with
  | _ => ("", "", "", false)
def tyJ3 : Nat → FieldType := fun k => match k with
  | _ => .int
abbrev wsJ30 : List Cond := u_ws RJ3 TJ3 0
theorem nmJ3 : ∀ a, a < 0 → ∀ b, b < 0 → a ≠ b → (TJ3 a).2.1 ≠ (TJ3 b).2.1 := by decide +kernel
theorem tyJ3_ok : ∀ k, k < 0 → parseFieldDescriptor (TJ3 k).2.2.1 = some (tyJ3 k) := by decide +kernel
abbrev cJ3_checkIndex_8e157 : ByteArray := prog_17_method_11_code
def yJ3_checkIndex_8e157 : MethodName := ⟨RJ3, "checkIndex", "(IILjava/util/function/BiFunction;)I"⟩
def RL : String := "NullKindsLaw"
abbrev cL_mean : ByteArray := method_3_code
def yL_mean : MethodName := ⟨RL, "mean", "(LNullKinds;[J)I"⟩
abbrev cL_law : ByteArray := code
def yL_law : MethodName := ⟨RL, "law", "([I)Z"⟩
abbrev vwCl : List vw_C := [(RX0, TX0, 6), (RX1, TX1, 12), (RX2, TX2, 7), (RX3, TX3, 6), (RX4, TX4, 4), (RX5, TX5, 4), (RX6, TX6, 31)]
