section
-- ===== PART A: goes FIRST, ahead of the names: the tables' words, and 'selects' of the private methods out of them =====
/-- a private method of a class that the tables say can be made, by its rows of tables_1 -/
def lw_okq (q : MethodName × Nat) : Prop := (q.1.cls ≠ "java/lang/invoke/MethodHandle" ∧ q.1.cls ≠ "java/lang/invoke/VarHandle") ∧ Cond.instantiable q.1.cls q.2 ∈ tables_1 ∧ Cond.privateMethod q.1 ∈ tables_1 ∧ Cond.instanceMethod q.1 ∈ tables_1
theorem lw_p0 : lw_okq (⟨"NullKinds$Machine", "begin", "(II)V"⟩, 12) := ⟨⟨by decide +kernel, by decide +kernel⟩, List.mem_of_getElem? (i := 81) (by decide +kernel), List.mem_of_getElem? (i := 289) (by decide +kernel), List.mem_of_getElem? (i := 290) (by decide +kernel)⟩
theorem lw_p1 : lw_okq (⟨"NullKinds$Machine", "takeStep", "(I)V"⟩, 12) := ⟨⟨by decide +kernel, by decide +kernel⟩, List.mem_of_getElem? (i := 81) (by decide +kernel), List.mem_of_getElem? (i := 306) (by decide +kernel), List.mem_of_getElem? (i := 307) (by decide +kernel)⟩
theorem lw_p2 : lw_okq (⟨"NullKinds$Machine", "perform", "(IIII)I"⟩, 12) := ⟨⟨by decide +kernel, by decide +kernel⟩, List.mem_of_getElem? (i := 81) (by decide +kernel), List.mem_of_getElem? (i := 325) (by decide +kernel), List.mem_of_getElem? (i := 326) (by decide +kernel)⟩
theorem lw_p3 : lw_okq (⟨"NullKinds$Machine", "makeThing", "(II)I"⟩, 12) := ⟨⟨by decide +kernel, by decide +kernel⟩, List.mem_of_getElem? (i := 81) (by decide +kernel), List.mem_of_getElem? (i := 329) (by decide +kernel), List.mem_of_getElem? (i := 330) (by decide +kernel)⟩
theorem lw_p4 : lw_okq (⟨"NullKinds$Machine", "makeArray", "(III)I"⟩, 12) := ⟨⟨by decide +kernel, by decide +kernel⟩, List.mem_of_getElem? (i := 81) (by decide +kernel), List.mem_of_getElem? (i := 348) (by decide +kernel), List.mem_of_getElem? (i := 349) (by decide +kernel)⟩
theorem lw_p5 : lw_okq (⟨"NullKinds$Machine", "castInto", "(III)I"⟩, 12) := ⟨⟨by decide +kernel, by decide +kernel⟩, List.mem_of_getElem? (i := 81) (by decide +kernel), List.mem_of_getElem? (i := 352) (by decide +kernel), List.mem_of_getElem? (i := 353) (by decide +kernel)⟩
theorem lw_p6 : lw_okq (⟨"NullKinds$Machine", "castFault", "(II)I"⟩, 12) := ⟨⟨by decide +kernel, by decide +kernel⟩, List.mem_of_getElem? (i := 81) (by decide +kernel), List.mem_of_getElem? (i := 356) (by decide +kernel), List.mem_of_getElem? (i := 357) (by decide +kernel)⟩
theorem lw_p7 : lw_okq (⟨"NullKinds$Machine", "getNext", "(II)I"⟩, 12) := ⟨⟨by decide +kernel, by decide +kernel⟩, List.mem_of_getElem? (i := 81) (by decide +kernel), List.mem_of_getElem? (i := 365) (by decide +kernel), List.mem_of_getElem? (i := 366) (by decide +kernel)⟩
theorem lw_p8 : lw_okq (⟨"NullKinds$Machine", "useFault", "(II)I"⟩, 12) := ⟨⟨by decide +kernel, by decide +kernel⟩, List.mem_of_getElem? (i := 81) (by decide +kernel), List.mem_of_getElem? (i := 369) (by decide +kernel), List.mem_of_getElem? (i := 370) (by decide +kernel)⟩
theorem lw_p9 : lw_okq (⟨"NullKinds$Machine", "setNext", "(II)I"⟩, 12) := ⟨⟨by decide +kernel, by decide +kernel⟩, List.mem_of_getElem? (i := 81) (by decide +kernel), List.mem_of_getElem? (i := 377) (by decide +kernel), List.mem_of_getElem? (i := 378) (by decide +kernel)⟩
theorem lw_p10 : lw_okq (⟨"NullKinds$Machine", "getCell", "(III)I"⟩, 12) := ⟨⟨by decide +kernel, by decide +kernel⟩, List.mem_of_getElem? (i := 81) (by decide +kernel), List.mem_of_getElem? (i := 385) (by decide +kernel), List.mem_of_getElem? (i := 386) (by decide +kernel)⟩
theorem lw_p11 : lw_okq (⟨"NullKinds$Machine", "cellFault", "(III)I"⟩, 12) := ⟨⟨by decide +kernel, by decide +kernel⟩, List.mem_of_getElem? (i := 81) (by decide +kernel), List.mem_of_getElem? (i := 389) (by decide +kernel), List.mem_of_getElem? (i := 390) (by decide +kernel)⟩
theorem lw_p12 : lw_okq (⟨"NullKinds$Machine", "setCell", "(III)I"⟩, 12) := ⟨⟨by decide +kernel, by decide +kernel⟩, List.mem_of_getElem? (i := 81) (by decide +kernel), List.mem_of_getElem? (i := 401) (by decide +kernel), List.mem_of_getElem? (i := 402) (by decide +kernel)⟩
theorem lw_p13 : lw_okq (⟨"NullKinds$Machine", "askFace", "(IIZ)I"⟩, 12) := ⟨⟨by decide +kernel, by decide +kernel⟩, List.mem_of_getElem? (i := 81) (by decide +kernel), List.mem_of_getElem? (i := 414) (by decide +kernel), List.mem_of_getElem? (i := 415) (by decide +kernel)⟩
theorem lw_p14 : lw_okq (⟨"NullKinds$Machine", "getLength", "(II)I"⟩, 12) := ⟨⟨by decide +kernel, by decide +kernel⟩, List.mem_of_getElem? (i := 81) (by decide +kernel), List.mem_of_getElem? (i := 418) (by decide +kernel), List.mem_of_getElem? (i := 419) (by decide +kernel)⟩
theorem lw_p15 : lw_okq (⟨"NullKinds$Machine", "getInt", "(III)I"⟩, 12) := ⟨⟨by decide +kernel, by decide +kernel⟩, List.mem_of_getElem? (i := 81) (by decide +kernel), List.mem_of_getElem? (i := 422) (by decide +kernel), List.mem_of_getElem? (i := 423) (by decide +kernel)⟩
def lw_privs_1 : List (MethodName × Nat) := [(⟨"NullKinds$Machine", "begin", "(II)V"⟩, 12), (⟨"NullKinds$Machine", "takeStep", "(I)V"⟩, 12), (⟨"NullKinds$Machine", "perform", "(IIII)I"⟩, 12), (⟨"NullKinds$Machine", "makeThing", "(II)I"⟩, 12), (⟨"NullKinds$Machine", "makeArray", "(III)I"⟩, 12), (⟨"NullKinds$Machine", "castInto", "(III)I"⟩, 12), (⟨"NullKinds$Machine", "castFault", "(II)I"⟩, 12), (⟨"NullKinds$Machine", "getNext", "(II)I"⟩, 12), (⟨"NullKinds$Machine", "useFault", "(II)I"⟩, 12), (⟨"NullKinds$Machine", "setNext", "(II)I"⟩, 12), (⟨"NullKinds$Machine", "getCell", "(III)I"⟩, 12), (⟨"NullKinds$Machine", "cellFault", "(III)I"⟩, 12), (⟨"NullKinds$Machine", "setCell", "(III)I"⟩, 12), (⟨"NullKinds$Machine", "askFace", "(IIZ)I"⟩, 12), (⟨"NullKinds$Machine", "getLength", "(II)I"⟩, 12), (⟨"NullKinds$Machine", "getInt", "(III)I"⟩, 12)]
theorem lw_r1 : ∀ q ∈ lw_privs_1, lw_okq q := List.forall_mem_cons.mpr ⟨lw_p0, List.forall_mem_cons.mpr ⟨lw_p1, List.forall_mem_cons.mpr ⟨lw_p2, List.forall_mem_cons.mpr ⟨lw_p3, List.forall_mem_cons.mpr ⟨lw_p4, List.forall_mem_cons.mpr ⟨lw_p5, List.forall_mem_cons.mpr ⟨lw_p6, List.forall_mem_cons.mpr ⟨lw_p7, List.forall_mem_cons.mpr ⟨lw_p8, List.forall_mem_cons.mpr ⟨lw_p9, List.forall_mem_cons.mpr ⟨lw_p10, List.forall_mem_cons.mpr ⟨lw_p11, List.forall_mem_cons.mpr ⟨lw_p12, List.forall_mem_cons.mpr ⟨lw_p13, List.forall_mem_cons.mpr ⟨lw_p14, List.forall_mem_cons.mpr ⟨lw_p15, fun _ h => absurd h List.not_mem_nil⟩⟩⟩⟩⟩⟩⟩⟩⟩⟩⟩⟩⟩⟩⟩⟩
theorem lw_p16 : lw_okq (⟨"NullKinds$Machine", "setInt", "(III)I"⟩, 12) := ⟨⟨by decide +kernel, by decide +kernel⟩, List.mem_of_getElem? (i := 81) (by decide +kernel), List.mem_of_getElem? (i := 426) (by decide +kernel), List.mem_of_getElem? (i := 427) (by decide +kernel)⟩
theorem lw_p17 : lw_okq (⟨"NullKinds$Machine", "divide", "(II)I"⟩, 12) := ⟨⟨by decide +kernel, by decide +kernel⟩, List.mem_of_getElem? (i := 81) (by decide +kernel), List.mem_of_getElem? (i := 430) (by decide +kernel), List.mem_of_getElem? (i := 431) (by decide +kernel)⟩
theorem lw_p18 : lw_okq (⟨"NullKinds$Machine", "move", "(IIII)I"⟩, 12) := ⟨⟨by decide +kernel, by decide +kernel⟩, List.mem_of_getElem? (i := 81) (by decide +kernel), List.mem_of_getElem? (i := 434) (by decide +kernel), List.mem_of_getElem? (i := 435) (by decide +kernel)⟩
theorem lw_p19 : lw_okq (⟨"NullKinds$Machine", "performSafely", "(IIII)V"⟩, 12) := ⟨⟨by decide +kernel, by decide +kernel⟩, List.mem_of_getElem? (i := 81) (by decide +kernel), List.mem_of_getElem? (i := 446) (by decide +kernel), List.mem_of_getElem? (i := 447) (by decide +kernel)⟩
theorem lw_p20 : lw_okq (⟨"NullKinds$Machine", "jumpIf", "(ZI)V"⟩, 12) := ⟨⟨by decide +kernel, by decide +kernel⟩, List.mem_of_getElem? (i := 81) (by decide +kernel), List.mem_of_getElem? (i := 450) (by decide +kernel), List.mem_of_getElem? (i := 451) (by decide +kernel)⟩
theorem lw_p21 : lw_okq (⟨"NullKinds$Machine", "meetFault", "(II)V"⟩, 12) := ⟨⟨by decide +kernel, by decide +kernel⟩, List.mem_of_getElem? (i := 81) (by decide +kernel), List.mem_of_getElem? (i := 454) (by decide +kernel), List.mem_of_getElem? (i := 455) (by decide +kernel)⟩
theorem lw_p22 : lw_okq (⟨"NullKinds$Outlook", "goTo", "(I)V"⟩, 7) := ⟨⟨by decide +kernel, by decide +kernel⟩, List.mem_of_getElem? (i := 149) (by decide +kernel), List.mem_of_getElem? (i := 524) (by decide +kernel), List.mem_of_getElem? (i := 525) (by decide +kernel)⟩
theorem lw_p23 : lw_okq (⟨"NullKinds$Outlook", "lookAt", "(I)V"⟩, 7) := ⟨⟨by decide +kernel, by decide +kernel⟩, List.mem_of_getElem? (i := 149) (by decide +kernel), List.mem_of_getElem? (i := 533) (by decide +kernel), List.mem_of_getElem? (i := 534) (by decide +kernel)⟩
theorem lw_p24 : lw_okq (⟨"NullKinds$Outlook", "store", "(I)V"⟩, 7) := ⟨⟨by decide +kernel, by decide +kernel⟩, List.mem_of_getElem? (i := 149) (by decide +kernel), List.mem_of_getElem? (i := 537) (by decide +kernel), List.mem_of_getElem? (i := 538) (by decide +kernel)⟩
theorem lw_p25 : lw_okq (⟨"NullKinds$Outlook", "addToAll", "(II)V"⟩, 7) := ⟨⟨by decide +kernel, by decide +kernel⟩, List.mem_of_getElem? (i := 149) (by decide +kernel), List.mem_of_getElem? (i := 545) (by decide +kernel), List.mem_of_getElem? (i := 546) (by decide +kernel)⟩
theorem lw_p26 : lw_okq (⟨"NullKinds$Outlook", "storeCell", "(II)V"⟩, 7) := ⟨⟨by decide +kernel, by decide +kernel⟩, List.mem_of_getElem? (i := 149) (by decide +kernel), List.mem_of_getElem? (i := 549) (by decide +kernel), List.mem_of_getElem? (i := 550) (by decide +kernel)⟩
theorem lw_p27 : lw_okq (⟨"NullKinds$Outlook", "storeMoved", "(II)V"⟩, 7) := ⟨⟨by decide +kernel, by decide +kernel⟩, List.mem_of_getElem? (i := 149) (by decide +kernel), List.mem_of_getElem? (i := 554) (by decide +kernel), List.mem_of_getElem? (i := 555) (by decide +kernel)⟩
theorem lw_p28 : lw_okq (⟨"NullKinds$Outlook", "faultsOf", "(I)I"⟩, 7) := ⟨⟨by decide +kernel, by decide +kernel⟩, List.mem_of_getElem? (i := 149) (by decide +kernel), List.mem_of_getElem? (i := 558) (by decide +kernel), List.mem_of_getElem? (i := 559) (by decide +kernel)⟩
theorem lw_p29 : lw_okq (⟨"NullKinds$Outlook", "moveFaults", "(II)I"⟩, 7) := ⟨⟨by decide +kernel, by decide +kernel⟩, List.mem_of_getElem? (i := 149) (by decide +kernel), List.mem_of_getElem? (i := 581) (by decide +kernel), List.mem_of_getElem? (i := 582) (by decide +kernel)⟩
theorem lw_p30 : lw_okq (⟨"NullKinds$Outlook", "moveFaultsOf", "(II)I"⟩, 7) := ⟨⟨by decide +kernel, by decide +kernel⟩, List.mem_of_getElem? (i := 149) (by decide +kernel), List.mem_of_getElem? (i := 586) (by decide +kernel), List.mem_of_getElem? (i := 587) (by decide +kernel)⟩
theorem lw_p31 : lw_okq (⟨"NullKinds$Outlook", "cellsIn", "(I)I"⟩, 7) := ⟨⟨by decide +kernel, by decide +kernel⟩, List.mem_of_getElem? (i := 149) (by decide +kernel), List.mem_of_getElem? (i := 591) (by decide +kernel), List.mem_of_getElem? (i := 592) (by decide +kernel)⟩
def lw_privs_2 : List (MethodName × Nat) := [(⟨"NullKinds$Machine", "setInt", "(III)I"⟩, 12), (⟨"NullKinds$Machine", "divide", "(II)I"⟩, 12), (⟨"NullKinds$Machine", "move", "(IIII)I"⟩, 12), (⟨"NullKinds$Machine", "performSafely", "(IIII)V"⟩, 12), (⟨"NullKinds$Machine", "jumpIf", "(ZI)V"⟩, 12), (⟨"NullKinds$Machine", "meetFault", "(II)V"⟩, 12), (⟨"NullKinds$Outlook", "goTo", "(I)V"⟩, 7), (⟨"NullKinds$Outlook", "lookAt", "(I)V"⟩, 7), (⟨"NullKinds$Outlook", "store", "(I)V"⟩, 7), (⟨"NullKinds$Outlook", "addToAll", "(II)V"⟩, 7), (⟨"NullKinds$Outlook", "storeCell", "(II)V"⟩, 7), (⟨"NullKinds$Outlook", "storeMoved", "(II)V"⟩, 7), (⟨"NullKinds$Outlook", "faultsOf", "(I)I"⟩, 7), (⟨"NullKinds$Outlook", "moveFaults", "(II)I"⟩, 7), (⟨"NullKinds$Outlook", "moveFaultsOf", "(II)I"⟩, 7), (⟨"NullKinds$Outlook", "cellsIn", "(I)I"⟩, 7)]
theorem lw_r2 : ∀ q ∈ lw_privs_2, lw_okq q := List.forall_mem_cons.mpr ⟨lw_p16, List.forall_mem_cons.mpr ⟨lw_p17, List.forall_mem_cons.mpr ⟨lw_p18, List.forall_mem_cons.mpr ⟨lw_p19, List.forall_mem_cons.mpr ⟨lw_p20, List.forall_mem_cons.mpr ⟨lw_p21, List.forall_mem_cons.mpr ⟨lw_p22, List.forall_mem_cons.mpr ⟨lw_p23, List.forall_mem_cons.mpr ⟨lw_p24, List.forall_mem_cons.mpr ⟨lw_p25, List.forall_mem_cons.mpr ⟨lw_p26, List.forall_mem_cons.mpr ⟨lw_p27, List.forall_mem_cons.mpr ⟨lw_p28, List.forall_mem_cons.mpr ⟨lw_p29, List.forall_mem_cons.mpr ⟨lw_p30, List.forall_mem_cons.mpr ⟨lw_p31, fun _ h => absurd h List.not_mem_nil⟩⟩⟩⟩⟩⟩⟩⟩⟩⟩⟩⟩⟩⟩⟩⟩
theorem lw_p32 : lw_okq (⟨"NullKinds$Outlook", "begin", "(I)V"⟩, 7) := ⟨⟨by decide +kernel, by decide +kernel⟩, List.mem_of_getElem? (i := 149) (by decide +kernel), List.mem_of_getElem? (i := 595) (by decide +kernel), List.mem_of_getElem? (i := 596) (by decide +kernel)⟩
theorem lw_p33 : lw_okq (⟨"NullKinds$Outlook", "goOn", "(IIIII)V"⟩, 7) := ⟨⟨by decide +kernel, by decide +kernel⟩, List.mem_of_getElem? (i := 149) (by decide +kernel), List.mem_of_getElem? (i := 599) (by decide +kernel), List.mem_of_getElem? (i := 600) (by decide +kernel)⟩
theorem lw_p34 : lw_okq (⟨"NullKinds$Outlook", "goBothWays", "(II)V"⟩, 7) := ⟨⟨by decide +kernel, by decide +kernel⟩, List.mem_of_getElem? (i := 149) (by decide +kernel), List.mem_of_getElem? (i := 603) (by decide +kernel), List.mem_of_getElem? (i := 604) (by decide +kernel)⟩
theorem lw_p35 : lw_okq (⟨"NullKinds$Outlook", "keep", "(II)Z"⟩, 7) := ⟨⟨by decide +kernel, by decide +kernel⟩, List.mem_of_getElem? (i := 149) (by decide +kernel), List.mem_of_getElem? (i := 607) (by decide +kernel), List.mem_of_getElem? (i := 608) (by decide +kernel)⟩
theorem lw_p36 : lw_okq (⟨"NullKinds$Outlook", "pass", "(IIII)Z"⟩, 7) := ⟨⟨by decide +kernel, by decide +kernel⟩, List.mem_of_getElem? (i := 149) (by decide +kernel), List.mem_of_getElem? (i := 611) (by decide +kernel), List.mem_of_getElem? (i := 612) (by decide +kernel)⟩
theorem lw_p37 : lw_okq (⟨"NullKinds$Outlook", "put", "(II)Z"⟩, 7) := ⟨⟨by decide +kernel, by decide +kernel⟩, List.mem_of_getElem? (i := 149) (by decide +kernel), List.mem_of_getElem? (i := 615) (by decide +kernel), List.mem_of_getElem? (i := 616) (by decide +kernel)⟩
theorem lw_p38 : lw_okq (⟨"NullKinds$Outlook", "cellsOf", "(I)I"⟩, 7) := ⟨⟨by decide +kernel, by decide +kernel⟩, List.mem_of_getElem? (i := 149) (by decide +kernel), List.mem_of_getElem? (i := 620) (by decide +kernel), List.mem_of_getElem? (i := 621) (by decide +kernel)⟩
theorem lw_p39 : lw_okq (⟨"NullKinds$Outlook", "keepBoth", "(IIII)Z"⟩, 7) := ⟨⟨by decide +kernel, by decide +kernel⟩, List.mem_of_getElem? (i := 149) (by decide +kernel), List.mem_of_getElem? (i := 630) (by decide +kernel), List.mem_of_getElem? (i := 631) (by decide +kernel)⟩
theorem lw_p40 : lw_okq (⟨"NullKinds$Outlook", "isReached", "(I)Z"⟩, 7) := ⟨⟨by decide +kernel, by decide +kernel⟩, List.mem_of_getElem? (i := 149) (by decide +kernel), List.mem_of_getElem? (i := 649) (by decide +kernel), List.mem_of_getElem? (i := 650) (by decide +kernel)⟩
theorem lw_p41 : lw_okq (⟨"java/lang/Throwable", "fillInStackTrace", "(I)Ljava/lang/Throwable;"⟩, 6) := ⟨⟨by decide +kernel, by decide +kernel⟩, List.mem_of_getElem? (i := 717) (by decide +kernel), List.mem_of_getElem? (i := 715) (by decide +kernel), List.mem_of_getElem? (i := 716) (by decide +kernel)⟩
theorem lw_p42 : lw_okq (⟨"NullKindsModel", "forget", "()V"⟩, 31) := ⟨⟨by decide +kernel, by decide +kernel⟩, List.mem_of_getElem? (i := 750) (by decide +kernel), List.mem_of_getElem? (i := 882) (by decide +kernel), List.mem_of_getElem? (i := 883) (by decide +kernel)⟩
theorem lw_p43 : lw_okq (⟨"NullKindsModel", "kind", "(I)I"⟩, 31) := ⟨⟨by decide +kernel, by decide +kernel⟩, List.mem_of_getElem? (i := 750) (by decide +kernel), List.mem_of_getElem? (i := 894) (by decide +kernel), List.mem_of_getElem? (i := 895) (by decide +kernel)⟩
theorem lw_p44 : lw_okq (⟨"NullKindsModel", "doStep", "(I)I"⟩, 31) := ⟨⟨by decide +kernel, by decide +kernel⟩, List.mem_of_getElem? (i := 750) (by decide +kernel), List.mem_of_getElem? (i := 898) (by decide +kernel), List.mem_of_getElem? (i := 899) (by decide +kernel)⟩
theorem lw_p45 : lw_okq (⟨"NullKindsModel", "newObject", "(I)I"⟩, 31) := ⟨⟨by decide +kernel, by decide +kernel⟩, List.mem_of_getElem? (i := 750) (by decide +kernel), List.mem_of_getElem? (i := 902) (by decide +kernel), List.mem_of_getElem? (i := 903) (by decide +kernel)⟩
theorem lw_p46 : lw_okq (⟨"NullKindsModel", "newArray", "(II)I"⟩, 31) := ⟨⟨by decide +kernel, by decide +kernel⟩, List.mem_of_getElem? (i := 750) (by decide +kernel), List.mem_of_getElem? (i := 906) (by decide +kernel), List.mem_of_getElem? (i := 907) (by decide +kernel)⟩
theorem lw_p47 : lw_okq (⟨"NullKindsModel", "isWrong", "(II)Z"⟩, 31) := ⟨⟨by decide +kernel, by decide +kernel⟩, List.mem_of_getElem? (i := 750) (by decide +kernel), List.mem_of_getElem? (i := 913) (by decide +kernel), List.mem_of_getElem? (i := 914) (by decide +kernel)⟩
def lw_privs_3 : List (MethodName × Nat) := [(⟨"NullKinds$Outlook", "begin", "(I)V"⟩, 7), (⟨"NullKinds$Outlook", "goOn", "(IIIII)V"⟩, 7), (⟨"NullKinds$Outlook", "goBothWays", "(II)V"⟩, 7), (⟨"NullKinds$Outlook", "keep", "(II)Z"⟩, 7), (⟨"NullKinds$Outlook", "pass", "(IIII)Z"⟩, 7), (⟨"NullKinds$Outlook", "put", "(II)Z"⟩, 7), (⟨"NullKinds$Outlook", "cellsOf", "(I)I"⟩, 7), (⟨"NullKinds$Outlook", "keepBoth", "(IIII)Z"⟩, 7), (⟨"NullKinds$Outlook", "isReached", "(I)Z"⟩, 7), (⟨"java/lang/Throwable", "fillInStackTrace", "(I)Ljava/lang/Throwable;"⟩, 6), (⟨"NullKindsModel", "forget", "()V"⟩, 31), (⟨"NullKindsModel", "kind", "(I)I"⟩, 31), (⟨"NullKindsModel", "doStep", "(I)I"⟩, 31), (⟨"NullKindsModel", "newObject", "(I)I"⟩, 31), (⟨"NullKindsModel", "newArray", "(II)I"⟩, 31), (⟨"NullKindsModel", "isWrong", "(II)Z"⟩, 31)]
theorem lw_r3 : ∀ q ∈ lw_privs_3, lw_okq q := List.forall_mem_cons.mpr ⟨lw_p32, List.forall_mem_cons.mpr ⟨lw_p33, List.forall_mem_cons.mpr ⟨lw_p34, List.forall_mem_cons.mpr ⟨lw_p35, List.forall_mem_cons.mpr ⟨lw_p36, List.forall_mem_cons.mpr ⟨lw_p37, List.forall_mem_cons.mpr ⟨lw_p38, List.forall_mem_cons.mpr ⟨lw_p39, List.forall_mem_cons.mpr ⟨lw_p40, List.forall_mem_cons.mpr ⟨lw_p41, List.forall_mem_cons.mpr ⟨lw_p42, List.forall_mem_cons.mpr ⟨lw_p43, List.forall_mem_cons.mpr ⟨lw_p44, List.forall_mem_cons.mpr ⟨lw_p45, List.forall_mem_cons.mpr ⟨lw_p46, List.forall_mem_cons.mpr ⟨lw_p47, fun _ h => absurd h List.not_mem_nil⟩⟩⟩⟩⟩⟩⟩⟩⟩⟩⟩⟩⟩⟩⟩⟩
theorem lw_p48 : lw_okq (⟨"NullKindsModel", "isCell", "(II)Z"⟩, 31) := ⟨⟨by decide +kernel, by decide +kernel⟩, List.mem_of_getElem? (i := 750) (by decide +kernel), List.mem_of_getElem? (i := 917) (by decide +kernel), List.mem_of_getElem? (i := 918) (by decide +kernel)⟩
theorem lw_p49 : lw_okq (⟨"NullKindsModel", "store", "(III)I"⟩, 31) := ⟨⟨by decide +kernel, by decide +kernel⟩, List.mem_of_getElem? (i := 750) (by decide +kernel), List.mem_of_getElem? (i := 921) (by decide +kernel), List.mem_of_getElem? (i := 922) (by decide +kernel)⟩
theorem lw_p50 : lw_okq (⟨"NullKindsModel", "tag", "(IZ)I"⟩, 31) := ⟨⟨by decide +kernel, by decide +kernel⟩, List.mem_of_getElem? (i := 750) (by decide +kernel), List.mem_of_getElem? (i := 925) (by decide +kernel), List.mem_of_getElem? (i := 926) (by decide +kernel)⟩
theorem lw_p51 : lw_okq (⟨"NullKindsModel", "doOther", "(IIII)I"⟩, 31) := ⟨⟨by decide +kernel, by decide +kernel⟩, List.mem_of_getElem? (i := 750) (by decide +kernel), List.mem_of_getElem? (i := 929) (by decide +kernel), List.mem_of_getElem? (i := 930) (by decide +kernel)⟩
theorem lw_p52 : lw_okq (⟨"NullKindsModel", "copy", "(III)I"⟩, 31) := ⟨⟨by decide +kernel, by decide +kernel⟩, List.mem_of_getElem? (i := 750) (by decide +kernel), List.mem_of_getElem? (i := 933) (by decide +kernel), List.mem_of_getElem? (i := 934) (by decide +kernel)⟩
theorem lw_p53 : lw_okq (⟨"NullKindsModel", "tell", "()V"⟩, 31) := ⟨⟨by decide +kernel, by decide +kernel⟩, List.mem_of_getElem? (i := 750) (by decide +kernel), List.mem_of_getElem? (i := 962) (by decide +kernel), List.mem_of_getElem? (i := 963) (by decide +kernel)⟩
theorem lw_p54 : lw_okq (⟨"NullKindsModel", "goOn", "(I)V"⟩, 31) := ⟨⟨by decide +kernel, by decide +kernel⟩, List.mem_of_getElem? (i := 750) (by decide +kernel), List.mem_of_getElem? (i := 966) (by decide +kernel), List.mem_of_getElem? (i := 967) (by decide +kernel)⟩
theorem lw_p55 : lw_okq (⟨"NullKindsModel", "takes", "(I)V"⟩, 31) := ⟨⟨by decide +kernel, by decide +kernel⟩, List.mem_of_getElem? (i := 750) (by decide +kernel), List.mem_of_getElem? (i := 970) (by decide +kernel), List.mem_of_getElem? (i := 971) (by decide +kernel)⟩
theorem lw_p56 : lw_okq (⟨"NullKindsModel", "comes", "(I)V"⟩, 31) := ⟨⟨by decide +kernel, by decide +kernel⟩, List.mem_of_getElem? (i := 750) (by decide +kernel), List.mem_of_getElem? (i := 977) (by decide +kernel), List.mem_of_getElem? (i := 978) (by decide +kernel)⟩
theorem lw_p57 : lw_okq (⟨"NullKindsModel", "adds", "(II)V"⟩, 31) := ⟨⟨by decide +kernel, by decide +kernel⟩, List.mem_of_getElem? (i := 750) (by decide +kernel), List.mem_of_getElem? (i := 981) (by decide +kernel), List.mem_of_getElem? (i := 982) (by decide +kernel)⟩
theorem lw_p58 : lw_okq (⟨"NullKindsModel", "faultsOf", "(I)I"⟩, 31) := ⟨⟨by decide +kernel, by decide +kernel⟩, List.mem_of_getElem? (i := 750) (by decide +kernel), List.mem_of_getElem? (i := 988) (by decide +kernel), List.mem_of_getElem? (i := 989) (by decide +kernel)⟩
theorem lw_p59 : lw_okq (⟨"NullKindsModel", "copyFaults", "(II)I"⟩, 31) := ⟨⟨by decide +kernel, by decide +kernel⟩, List.mem_of_getElem? (i := 750) (by decide +kernel), List.mem_of_getElem? (i := 995) (by decide +kernel), List.mem_of_getElem? (i := 996) (by decide +kernel)⟩
def lw_privs_4 : List (MethodName × Nat) := [(⟨"NullKindsModel", "isCell", "(II)Z"⟩, 31), (⟨"NullKindsModel", "store", "(III)I"⟩, 31), (⟨"NullKindsModel", "tag", "(IZ)I"⟩, 31), (⟨"NullKindsModel", "doOther", "(IIII)I"⟩, 31), (⟨"NullKindsModel", "copy", "(III)I"⟩, 31), (⟨"NullKindsModel", "tell", "()V"⟩, 31), (⟨"NullKindsModel", "goOn", "(I)V"⟩, 31), (⟨"NullKindsModel", "takes", "(I)V"⟩, 31), (⟨"NullKindsModel", "comes", "(I)V"⟩, 31), (⟨"NullKindsModel", "adds", "(II)V"⟩, 31), (⟨"NullKindsModel", "faultsOf", "(I)I"⟩, 31), (⟨"NullKindsModel", "copyFaults", "(II)I"⟩, 31)]
theorem lw_r4 : ∀ q ∈ lw_privs_4, lw_okq q := List.forall_mem_cons.mpr ⟨lw_p48, List.forall_mem_cons.mpr ⟨lw_p49, List.forall_mem_cons.mpr ⟨lw_p50, List.forall_mem_cons.mpr ⟨lw_p51, List.forall_mem_cons.mpr ⟨lw_p52, List.forall_mem_cons.mpr ⟨lw_p53, List.forall_mem_cons.mpr ⟨lw_p54, List.forall_mem_cons.mpr ⟨lw_p55, List.forall_mem_cons.mpr ⟨lw_p56, List.forall_mem_cons.mpr ⟨lw_p57, List.forall_mem_cons.mpr ⟨lw_p58, List.forall_mem_cons.mpr ⟨lw_p59, fun _ h => absurd h List.not_mem_nil⟩⟩⟩⟩⟩⟩⟩⟩⟩⟩⟩⟩
def lw_privs : List (MethodName × Nat) := lw_privs_1 ++ (lw_privs_2 ++ (lw_privs_3 ++ (lw_privs_4)))
def lw_tbl : List Cond := k2_sels lw_privs ++ tables_1
theorem lw_privs_ok : ∀ q ∈ lw_privs, lw_okq q := by
  show ∀ q ∈ lw_privs_1 ++ (lw_privs_2 ++ (lw_privs_3 ++ (lw_privs_4))), lw_okq q
  exact List.forall_mem_append.mpr ⟨lw_r1, List.forall_mem_append.mpr ⟨lw_r2, List.forall_mem_append.mpr ⟨lw_r3, lw_r4⟩⟩⟩

def RX0 : String := "NullKinds$Heap"
def TX0 : u_T := fun k => match k with
  | 0 => ("NullKinds$Heap", "kinds", "[I", true)
  | 1 => ("NullKinds$Heap", "lengths", "[I", true)
  | 2 => ("NullKinds$Heap", "nexts", "[I", true)
  | 3 => ("NullKinds$Heap", "cells", "[I", true)
  | 4 => ("NullKinds$Heap", "moving", "[I", true)
  | _ => ("NullKinds$Heap", "made", "I", false)
def tyX0 : Nat → FieldType := fun k => match k with
  | 0 => .array .int
  | 1 => .array .int
  | 2 => .array .int
  | 3 => .array .int
  | 4 => .array .int
  | _ => .int
abbrev wsX00 : List Cond := u_ws RX0 TX0 6
theorem nmX0 : ∀ a, a < 6 → ∀ b, b < 6 → a ≠ b → (TX0 a).2.1 ≠ (TX0 b).2.1 := by decide +kernel
theorem tyX0_ok : ∀ k, k < 6 → parseFieldDescriptor (TX0 k).2.2.1 = some (tyX0 k) := by decide +kernel
abbrev cX0_init : ByteArray := prog_2_method_1_code
def yX0_init : MethodName := ⟨RX0, "<init>", "()V"⟩
abbrev cX0_empty : ByteArray := prog_2_method_2_code
def yX0_empty : MethodName := ⟨RX0, "empty", "()V"⟩
abbrev cX0_size : ByteArray := prog_2_method_3_code
def yX0_size : MethodName := ⟨RX0, "size", "()I"⟩
abbrev cX0_isFull : ByteArray := prog_2_method_4_code
def yX0_isFull : MethodName := ⟨RX0, "isFull", "()Z"⟩
abbrev cX0_make : ByteArray := prog_2_method_5_code
def yX0_make : MethodName := ⟨RX0, "make", "(II)I"⟩
abbrev cX0_firstCell : ByteArray := prog_2_method_6_code
def yX0_firstCell : MethodName := ⟨RX0, "firstCell", "(I)I"⟩
abbrev cX0_kindOf : ByteArray := prog_2_method_7_code
def yX0_kindOf : MethodName := ⟨RX0, "kindOf", "(I)I"⟩
abbrev cX0_lengthOf : ByteArray := prog_2_method_8_code
def yX0_lengthOf : MethodName := ⟨RX0, "lengthOf", "(I)I"⟩
abbrev cX0_nextOf : ByteArray := prog_2_method_9_code
def yX0_nextOf : MethodName := ⟨RX0, "nextOf", "(I)I"⟩
abbrev cX0_setNext : ByteArray := prog_2_method_10_code
def yX0_setNext : MethodName := ⟨RX0, "setNext", "(II)V"⟩
abbrev cX0_cell : ByteArray := prog_2_method_11_code
def yX0_cell : MethodName := ⟨RX0, "cell", "(II)I"⟩
abbrev cX0_setCell : ByteArray := prog_2_method_12_code
def yX0_setCell : MethodName := ⟨RX0, "setCell", "(III)V"⟩
abbrev cX0_takes : ByteArray := prog_2_method_13_code
def yX0_takes : MethodName := ⟨RX0, "takes", "(II)Z"⟩
abbrev cX0_move : ByteArray := prog_2_method_14_code
def yX0_move : MethodName := ⟨RX0, "move", "(IIII)I"⟩
def RX1 : String := "NullKinds$Machine"
def TX1 : u_T := fun k => match k with
  | 0 => ("NullKinds$Machine", "program", "LNullKinds$Program;", true)
  | 1 => ("NullKinds$Machine", "watch", "LNullKinds$Watch;", true)
  | 2 => ("NullKinds$Machine", "heap", "LNullKinds$Heap;", true)
  | 3 => ("NullKinds$Machine", "variables", "[I", true)
  | 4 => ("NullKinds$Machine", "numbers", "[I", true)
  | 5 => ("NullKinds$Machine", "at", "I", false)
  | 6 => ("NullKinds$Machine", "done", "I", false)
  | 7 => ("NullKinds$Machine", "faulted", "I", false)
  | 8 => ("NullKinds$Machine", "state", "I", false)
  | 9 => ("NullKinds$Machine", "endedWith", "I", false)
  | 10 => ("NullKinds$Machine", "thrownFault", "I", false)
  | _ => ("NullKinds$Machine", "thrownStep", "I", false)
def tyX1 : Nat → FieldType := fun k => match k with
  | 0 => .object "NullKinds$Program"
  | 1 => .object "NullKinds$Watch"
  | 2 => .object "NullKinds$Heap"
  | 3 => .array .int
  | 4 => .array .int
  | 5 => .int
  | 6 => .int
  | 7 => .int
  | 8 => .int
  | 9 => .int
  | 10 => .int
  | _ => .int
abbrev wsX10 : List Cond := u_ws RX1 TX1 12
theorem nmX1 : ∀ a, a < 12 → ∀ b, b < 12 → a ≠ b → (TX1 a).2.1 ≠ (TX1 b).2.1 := by decide +kernel
theorem tyX1_ok : ∀ k, k < 12 → parseFieldDescriptor (TX1 k).2.2.1 = some (tyX1 k) := by decide +kernel
abbrev cX1_init : ByteArray := prog_3_method_1_code
def yX1_init : MethodName := ⟨RX1, "<init>", "(LNullKinds$Program;LNullKinds$Watch;)V"⟩
abbrev cX1_forget : ByteArray := prog_3_method_2_code
def yX1_forget : MethodName := ⟨RX1, "forget", "()V"⟩
abbrev cX1_hasRun : ByteArray := prog_3_method_3_code
def yX1_hasRun : MethodName := ⟨RX1, "hasRun", "()Z"⟩
abbrev cX1_go : ByteArray := prog_3_method_4_code
def yX1_go : MethodName := ⟨RX1, "go", "(II)I"⟩
abbrev cX1_begin : ByteArray := prog_3_method_5_code
def yX1_begin : MethodName := ⟨RX1, "begin", "(II)V"⟩
abbrev cX1_takeStep : ByteArray := prog_3_method_6_code
def yX1_takeStep : MethodName := ⟨RX1, "takeStep", "(I)V"⟩
abbrev cX1_meetFault : ByteArray := prog_3_method_7_code
def yX1_meetFault : MethodName := ⟨RX1, "meetFault", "(II)V"⟩
abbrev cX1_perform : ByteArray := prog_3_method_8_code
def yX1_perform : MethodName := ⟨RX1, "perform", "(IIII)I"⟩
abbrev cX1_performSafely : ByteArray := prog_3_method_9_code
def yX1_performSafely : MethodName := ⟨RX1, "performSafely", "(IIII)V"⟩
abbrev cX1_jumpIf : ByteArray := prog_3_method_10_code
def yX1_jumpIf : MethodName := ⟨RX1, "jumpIf", "(ZI)V"⟩
abbrev cX1_makeThing : ByteArray := prog_3_method_11_code
def yX1_makeThing : MethodName := ⟨RX1, "makeThing", "(II)I"⟩
abbrev cX1_makeArray : ByteArray := prog_3_method_12_code
def yX1_makeArray : MethodName := ⟨RX1, "makeArray", "(III)I"⟩
abbrev cX1_castInto : ByteArray := prog_3_method_13_code
def yX1_castInto : MethodName := ⟨RX1, "castInto", "(III)I"⟩
abbrev cX1_getNext : ByteArray := prog_3_method_14_code
def yX1_getNext : MethodName := ⟨RX1, "getNext", "(II)I"⟩
abbrev cX1_setNext : ByteArray := prog_3_method_15_code
def yX1_setNext : MethodName := ⟨RX1, "setNext", "(II)I"⟩
abbrev cX1_getCell : ByteArray := prog_3_method_16_code
def yX1_getCell : MethodName := ⟨RX1, "getCell", "(III)I"⟩
abbrev cX1_setCell : ByteArray := prog_3_method_17_code
def yX1_setCell : MethodName := ⟨RX1, "setCell", "(III)I"⟩
abbrev cX1_askFace : ByteArray := prog_3_method_18_code
def yX1_askFace : MethodName := ⟨RX1, "askFace", "(IIZ)I"⟩
abbrev cX1_getLength : ByteArray := prog_3_method_19_code
def yX1_getLength : MethodName := ⟨RX1, "getLength", "(II)I"⟩
abbrev cX1_getInt : ByteArray := prog_3_method_20_code
def yX1_getInt : MethodName := ⟨RX1, "getInt", "(III)I"⟩
abbrev cX1_setInt : ByteArray := prog_3_method_21_code
def yX1_setInt : MethodName := ⟨RX1, "setInt", "(III)I"⟩
abbrev cX1_divide : ByteArray := prog_3_method_22_code
def yX1_divide : MethodName := ⟨RX1, "divide", "(II)I"⟩
abbrev cX1_move : ByteArray := prog_3_method_23_code
def yX1_move : MethodName := ⟨RX1, "move", "(IIII)I"⟩
abbrev cX1_castFault : ByteArray := prog_3_method_24_code
def yX1_castFault : MethodName := ⟨RX1, "castFault", "(II)I"⟩
abbrev cX1_useFault : ByteArray := prog_3_method_25_code
def yX1_useFault : MethodName := ⟨RX1, "useFault", "(II)I"⟩
abbrev cX1_cellFault : ByteArray := prog_3_method_26_code
def yX1_cellFault : MethodName := ⟨RX1, "cellFault", "(III)I"⟩
abbrev cX1_report : ByteArray := prog_3_method_27_code
def yX1_report : MethodName := ⟨RX1, "report", "(I)J"⟩
abbrev cX1_look : ByteArray := prog_3_method_28_code
def yX1_look : MethodName := ⟨RX1, "look", "(II)I"⟩
abbrev cX1_numberAt : ByteArray := prog_3_method_29_code
def yX1_numberAt : MethodName := ⟨RX1, "numberAt", "(I)I"⟩
def RX2 : String := "NullKinds$Outlook"
def TX2 : u_T := fun k => match k with
  | 0 => ("NullKinds$Outlook", "program", "LNullKinds$Program;", true)
  | 1 => ("NullKinds$Outlook", "mays", "[I", true)
  | 2 => ("NullKinds$Outlook", "alls", "[I", true)
  | 3 => ("NullKinds$Outlook", "after", "[I", true)
  | 4 => ("NullKinds$Outlook", "reached", "I", false)
  | 5 => ("NullKinds$Outlook", "waiting", "I", false)
  | _ => ("NullKinds$Outlook", "settled", "Z", false)
def tyX2 : Nat → FieldType := fun k => match k with
  | 0 => .object "NullKinds$Program"
  | 1 => .array .int
  | 2 => .array .int
  | 3 => .array .int
  | 4 => .int
  | 5 => .int
  | _ => .boolean
abbrev wsX20 : List Cond := u_ws RX2 TX2 7
theorem nmX2 : ∀ a, a < 7 → ∀ b, b < 7 → a ≠ b → (TX2 a).2.1 ≠ (TX2 b).2.1 := by decide +kernel
theorem tyX2_ok : ∀ k, k < 7 → parseFieldDescriptor (TX2 k).2.2.1 = some (tyX2 k) := by decide +kernel
abbrev cX2_init : ByteArray := prog_4_method_1_code
def yX2_init : MethodName := ⟨RX2, "<init>", "(LNullKinds$Program;)V"⟩
abbrev cX2_forget : ByteArray := prog_4_method_2_code
def yX2_forget : MethodName := ⟨RX2, "forget", "()V"⟩
abbrev cX2_settle : ByteArray := prog_4_method_3_code
def yX2_settle : MethodName := ⟨RX2, "settle", "()V"⟩
abbrev cX2_kindsAt : ByteArray := prog_4_method_4_code
def yX2_kindsAt : MethodName := ⟨RX2, "kindsAt", "(II)I"⟩
abbrev cX2_faultsAt : ByteArray := prog_4_method_5_code
def yX2_faultsAt : MethodName := ⟨RX2, "faultsAt", "(I)I"⟩
abbrev cX2_castAt : ByteArray := prog_4_method_6_code
def yX2_castAt : MethodName := ⟨RX2, "castAt", "(I)I"⟩
abbrev cX2_allOf : ByteArray := prog_4_method_7_code
def yX2_allOf : MethodName := ⟨RX2, "allOf", "(I)I"⟩
abbrev cX2_isReached : ByteArray := prog_4_method_8_code
def yX2_isReached : MethodName := ⟨RX2, "isReached", "(I)Z"⟩
abbrev cX2_lookAt : ByteArray := prog_4_method_9_code
def yX2_lookAt : MethodName := ⟨RX2, "lookAt", "(I)V"⟩
abbrev cX2_begin : ByteArray := prog_4_method_10_code
def yX2_begin : MethodName := ⟨RX2, "begin", "(I)V"⟩
abbrev cX2_goTo : ByteArray := prog_4_method_11_code
def yX2_goTo : MethodName := ⟨RX2, "goTo", "(I)V"⟩
abbrev cX2_addToAll : ByteArray := prog_4_method_12_code
def yX2_addToAll : MethodName := ⟨RX2, "addToAll", "(II)V"⟩
abbrev cX2_store : ByteArray := prog_4_method_13_code
def yX2_store : MethodName := ⟨RX2, "store", "(I)V"⟩
abbrev cX2_storeCell : ByteArray := prog_4_method_14_code
def yX2_storeCell : MethodName := ⟨RX2, "storeCell", "(II)V"⟩
abbrev cX2_storeMoved : ByteArray := prog_4_method_15_code
def yX2_storeMoved : MethodName := ⟨RX2, "storeMoved", "(II)V"⟩
abbrev cX2_goOn : ByteArray := prog_4_method_16_code
def yX2_goOn : MethodName := ⟨RX2, "goOn", "(IIIII)V"⟩
abbrev cX2_goBothWays : ByteArray := prog_4_method_17_code
def yX2_goBothWays : MethodName := ⟨RX2, "goBothWays", "(II)V"⟩
abbrev cX2_pass : ByteArray := prog_4_method_18_code
def yX2_pass : MethodName := ⟨RX2, "pass", "(IIII)Z"⟩
abbrev cX2_put : ByteArray := prog_4_method_19_code
def yX2_put : MethodName := ⟨RX2, "put", "(II)Z"⟩
abbrev cX2_keep : ByteArray := prog_4_method_20_code
def yX2_keep : MethodName := ⟨RX2, "keep", "(II)Z"⟩
abbrev cX2_keepBoth : ByteArray := prog_4_method_21_code
def yX2_keepBoth : MethodName := ⟨RX2, "keepBoth", "(IIII)Z"⟩
abbrev cX2_cellsOf : ByteArray := prog_4_method_22_code
def yX2_cellsOf : MethodName := ⟨RX2, "cellsOf", "(I)I"⟩
abbrev cX2_arraysThatTake : ByteArray := prog_4_method_23_code
def yX2_arraysThatTake : MethodName := ⟨RX2, "arraysThatTake", "(I)I"⟩
abbrev cX2_kindsTakenBy : ByteArray := prog_4_method_24_code
def yX2_kindsTakenBy : MethodName := ⟨RX2, "kindsTakenBy", "(I)I"⟩
abbrev cX2_movedTo : ByteArray := prog_4_method_25_code
def yX2_movedTo : MethodName := ⟨RX2, "movedTo", "(I)I"⟩
abbrev cX2_movedFrom : ByteArray := prog_4_method_26_code
def yX2_movedFrom : MethodName := ⟨RX2, "movedFrom", "(I)I"⟩
abbrev cX2_faultsOf : ByteArray := prog_4_method_27_code
def yX2_faultsOf : MethodName := ⟨RX2, "faultsOf", "(I)I"⟩
abbrev cX2_castFaults : ByteArray := prog_4_method_28_code
def yX2_castFaults : MethodName := ⟨RX2, "castFaults", "(II)I"⟩
abbrev cX2_useFaults : ByteArray := prog_4_method_29_code
def yX2_useFaults : MethodName := ⟨RX2, "useFaults", "(II)I"⟩
abbrev cX2_cellFaults : ByteArray := prog_4_method_30_code
def yX2_cellFaults : MethodName := ⟨RX2, "cellFaults", "(II)I"⟩
abbrev cX2_lengthFaults : ByteArray := prog_4_method_31_code
def yX2_lengthFaults : MethodName := ⟨RX2, "lengthFaults", "(I)I"⟩
abbrev cX2_setCellFaults : ByteArray := prog_4_method_32_code
def yX2_setCellFaults : MethodName := ⟨RX2, "setCellFaults", "(II)I"⟩
abbrev cX2_moveFaults : ByteArray := prog_4_method_33_code
def yX2_moveFaults : MethodName := ⟨RX2, "moveFaults", "(II)I"⟩
abbrev cX2_moveFaultsOf : ByteArray := prog_4_method_34_code
def yX2_moveFaultsOf : MethodName := ⟨RX2, "moveFaultsOf", "(II)I"⟩
abbrev cX2_cellsIn : ByteArray := prog_4_method_35_code
def yX2_cellsIn : MethodName := ⟨RX2, "cellsIn", "(I)I"⟩
def RX3 : String := "NullKinds$Program"
def TX3 : u_T := fun k => match k with
  | 0 => ("NullKinds$Program", "codes", "[I", true)
  | 1 => ("NullKinds$Program", "as", "[I", true)
  | 2 => ("NullKinds$Program", "bs", "[I", true)
  | 3 => ("NullKinds$Program", "cs", "[I", true)
  | 4 => ("NullKinds$Program", "handlers", "[I", true)
  | _ => ("NullKinds$Program", "count", "I", false)
def tyX3 : Nat → FieldType := fun k => match k with
  | 0 => .array .int
  | 1 => .array .int
  | 2 => .array .int
  | 3 => .array .int
  | 4 => .array .int
  | _ => .int
abbrev wsX30 : List Cond := u_ws RX3 TX3 6
theorem nmX3 : ∀ a, a < 6 → ∀ b, b < 6 → a ≠ b → (TX3 a).2.1 ≠ (TX3 b).2.1 := by decide +kernel
theorem tyX3_ok : ∀ k, k < 6 → parseFieldDescriptor (TX3 k).2.2.1 = some (tyX3 k) := by decide +kernel
abbrev cX3_init : ByteArray := prog_5_method_1_code
def yX3_init : MethodName := ⟨RX3, "<init>", "()V"⟩
abbrev cX3_isInBounds : ByteArray := prog_5_method_2_code
def yX3_isInBounds : MethodName := ⟨RX3, "isInBounds", "(IIIII)Z"⟩
abbrev cX3_fits : ByteArray := prog_5_method_3_code
def yX3_fits : MethodName := ⟨RX3, "fits", "(II)Z"⟩
abbrev cX3_add : ByteArray := prog_5_method_4_code
def yX3_add : MethodName := ⟨RX3, "add", "(IIIII)I"⟩
abbrev cX3_empty : ByteArray := prog_5_method_5_code
def yX3_empty : MethodName := ⟨RX3, "empty", "()V"⟩
abbrev cX3_size : ByteArray := prog_5_method_6_code
def yX3_size : MethodName := ⟨RX3, "size", "()I"⟩
abbrev cX3_has : ByteArray := prog_5_method_7_code
def yX3_has : MethodName := ⟨RX3, "has", "(I)Z"⟩
def RX4 : String := "NullKinds$Watch"
def TX4 : u_T := fun k => match k with
  | 0 => ("NullKinds$Watch", "kinds", "[I", true)
  | 1 => ("NullKinds$Watch", "faults", "[I", true)
  | 2 => ("NullKinds$Watch", "steps", "I", false)
  | _ => ("NullKinds$Watch", "runs", "I", false)
def tyX4 : Nat → FieldType := fun k => match k with
  | 0 => .array .int
  | 1 => .array .int
  | 2 => .int
  | _ => .int
abbrev wsX40 : List Cond := u_ws RX4 TX4 4
theorem nmX4 : ∀ a, a < 4 → ∀ b, b < 4 → a ≠ b → (TX4 a).2.1 ≠ (TX4 b).2.1 := by decide +kernel
theorem tyX4_ok : ∀ k, k < 4 → parseFieldDescriptor (TX4 k).2.2.1 = some (tyX4 k) := by decide +kernel
abbrev cX4_init : ByteArray := prog_6_method_1_code
def yX4_init : MethodName := ⟨RX4, "<init>", "()V"⟩
abbrev cX4_forget : ByteArray := prog_6_method_2_code
def yX4_forget : MethodName := ⟨RX4, "forget", "()V"⟩
abbrev cX4_noteRun : ByteArray := prog_6_method_3_code
def yX4_noteRun : MethodName := ⟨RX4, "noteRun", "()V"⟩
abbrev cX4_noteStep : ByteArray := prog_6_method_4_code
def yX4_noteStep : MethodName := ⟨RX4, "noteStep", "()V"⟩
abbrev cX4_noteKind : ByteArray := prog_6_method_5_code
def yX4_noteKind : MethodName := ⟨RX4, "noteKind", "(III)V"⟩
abbrev cX4_noteFault : ByteArray := prog_6_method_6_code
def yX4_noteFault : MethodName := ⟨RX4, "noteFault", "(II)V"⟩
abbrev cX4_kindsAt : ByteArray := prog_6_method_7_code
def yX4_kindsAt : MethodName := ⟨RX4, "kindsAt", "(II)I"⟩
abbrev cX4_faultsAt : ByteArray := prog_6_method_8_code
def yX4_faultsAt : MethodName := ⟨RX4, "faultsAt", "(I)I"⟩
abbrev cX4_stepsDone : ByteArray := prog_6_method_9_code
def yX4_stepsDone : MethodName := ⟨RX4, "stepsDone", "()I"⟩
abbrev cX4_runs : ByteArray := prog_6_method_10_code
def yX4_runs : MethodName := ⟨RX4, "runs", "()I"⟩
def RX5 : String := "NullKinds"
def TX5 : u_T := fun k => match k with
  | 0 => ("NullKinds", "program", "LNullKinds$Program;", true)
  | 1 => ("NullKinds", "watch", "LNullKinds$Watch;", true)
  | 2 => ("NullKinds", "machine", "LNullKinds$Machine;", true)
  | _ => ("NullKinds", "outlook", "LNullKinds$Outlook;", true)
def tyX5 : Nat → FieldType := fun k => match k with
  | 0 => .object "NullKinds$Program"
  | 1 => .object "NullKinds$Watch"
  | 2 => .object "NullKinds$Machine"
  | _ => .object "NullKinds$Outlook"
abbrev wsX50 : List Cond := u_ws RX5 TX5 4
theorem nmX5 : ∀ a, a < 4 → ∀ b, b < 4 → a ≠ b → (TX5 a).2.1 ≠ (TX5 b).2.1 := by decide +kernel
theorem tyX5_ok : ∀ k, k < 4 → parseFieldDescriptor (TX5 k).2.2.1 = some (tyX5 k) := by decide +kernel
abbrev cX5_init : ByteArray := prog_1_method_1_code
def yX5_init : MethodName := ⟨RX5, "<init>", "()V"⟩
abbrev cX5_step : ByteArray := prog_1_method_2_code
def yX5_step : MethodName := ⟨RX5, "step", "(IIIII)I"⟩
abbrev cX5_clear : ByteArray := prog_1_method_3_code
def yX5_clear : MethodName := ⟨RX5, "clear", "()I"⟩
abbrev cX5_run : ByteArray := prog_1_method_4_code
def yX5_run : MethodName := ⟨RX5, "run", "(II)I"⟩
abbrev cX5_ran : ByteArray := prog_1_method_5_code
def yX5_ran : MethodName := ⟨RX5, "ran", "(I)J"⟩
abbrev cX5_variable : ByteArray := prog_1_method_6_code
def yX5_variable : MethodName := ⟨RX5, "variable", "(II)I"⟩
abbrev cX5_number : ByteArray := prog_1_method_7_code
def yX5_number : MethodName := ⟨RX5, "number", "(I)J"⟩
abbrev cX5_seen : ByteArray := prog_1_method_8_code
def yX5_seen : MethodName := ⟨RX5, "seen", "(II)I"⟩
abbrev cX5_had : ByteArray := prog_1_method_9_code
def yX5_had : MethodName := ⟨RX5, "had", "(I)I"⟩
abbrev cX5_may : ByteArray := prog_1_method_10_code
def yX5_may : MethodName := ⟨RX5, "may", "(II)I"⟩
abbrev cX5_faults : ByteArray := prog_1_method_11_code
def yX5_faults : MethodName := ⟨RX5, "faults", "(I)I"⟩
abbrev cX5_cast : ByteArray := prog_1_method_12_code
def yX5_cast : MethodName := ⟨RX5, "cast", "(I)I"⟩
abbrev cX5_all : ByteArray := prog_1_method_13_code
def yX5_all : MethodName := ⟨RX5, "all", "(I)I"⟩
abbrev cX5_mean : ByteArray := prog_1_method_14_code
def yX5_mean : MethodName := ⟨RX5, "mean", "()I"⟩
abbrev cX5_isVariable : ByteArray := prog_1_method_15_code
def yX5_isVariable : MethodName := ⟨RX5, "isVariable", "(I)Z"⟩
abbrev cX5_isNumber : ByteArray := prog_1_method_16_code
def yX5_isNumber : MethodName := ⟨RX5, "isNumber", "(I)Z"⟩
abbrev cX5_only : ByteArray := prog_1_method_17_code
def yX5_only : MethodName := ⟨RX5, "only", "(I)I"⟩
abbrev cX5_holds : ByteArray := prog_1_method_18_code
def yX5_holds : MethodName := ⟨RX5, "holds", "(II)Z"⟩
abbrev cX5_share : ByteArray := prog_1_method_19_code
def yX5_share : MethodName := ⟨RX5, "share", "(II)Z"⟩
abbrev cX5_faultIf : ByteArray := prog_1_method_20_code
def yX5_faultIf : MethodName := ⟨RX5, "faultIf", "(ZI)I"⟩
def RX6 : String := "NullKindsModel"
def TX6 : u_T := fun k => match k with
  | 0 => ("NullKindsModel", "thrown", "I", false)
  | 1 => ("NullKindsModel", "steps", "I", false)
  | 2 => ("NullKindsModel", "code", "[I", true)
  | 3 => ("NullKindsModel", "opA", "[I", true)
  | 4 => ("NullKindsModel", "opB", "[I", true)
  | 5 => ("NullKindsModel", "opC", "[I", true)
  | 6 => ("NullKindsModel", "handler", "[I", true)
  | 7 => ("NullKindsModel", "seen", "[I", true)
  | 8 => ("NullKindsModel", "had", "[I", true)
  | 9 => ("NullKindsModel", "doneAll", "J", false)
  | 10 => ("NullKindsModel", "runs", "I", false)
  | 11 => ("NullKindsModel", "has", "Z", false)
  | 12 => ("NullKindsModel", "done", "I", false)
  | 13 => ("NullKindsModel", "endedWith", "I", false)
  | 14 => ("NullKindsModel", "thrownBy", "I", false)
  | 15 => ("NullKindsModel", "thrownAt", "I", false)
  | 16 => ("NullKindsModel", "objects", "I", false)
  | 17 => ("NullKindsModel", "kindOf", "[I", true)
  | 18 => ("NullKindsModel", "nextOf", "[I", true)
  | 19 => ("NullKindsModel", "lengthOf", "[I", true)
  | 20 => ("NullKindsModel", "cells", "[I", true)
  | 21 => ("NullKindsModel", "var", "[I", true)
  | 22 => ("NullKindsModel", "num", "[I", true)
  | 23 => ("NullKindsModel", "told", "Z", false)
  | 24 => ("NullKindsModel", "next", "I", false)
  | 25 => ("NullKindsModel", "row", "[I", true)
  | 26 => ("NullKindsModel", "may", "[I", true)
  | 27 => ("NullKindsModel", "isCome", "[Z", true)
  | 28 => ("NullKindsModel", "all", "[I", true)
  | 29 => ("NullKindsModel", "isNew", "Z", false)
  | _ => ("NullKindsModel", "then", "[I", true)
def tyX6 : Nat → FieldType := fun k => match k with
  | 0 => .int
  | 1 => .int
  | 2 => .array .int
  | 3 => .array .int
  | 4 => .array .int
  | 5 => .array .int
  | 6 => .array .int
  | 7 => .array .int
  | 8 => .array .int
  | 9 => .long
  | 10 => .int
  | 11 => .boolean
  | 12 => .int
  | 13 => .int
  | 14 => .int
  | 15 => .int
  | 16 => .int
  | 17 => .array .int
  | 18 => .array .int
  | 19 => .array .int
  | 20 => .array .int
  | 21 => .array .int
  | 22 => .array .int
  | 23 => .boolean
  | 24 => .int
  | 25 => .array .int
  | 26 => .array .int
  | 27 => .array .boolean
  | 28 => .array .int
  | 29 => .boolean
  | _ => .array .int
abbrev wsX60 : List Cond := u_ws RX6 TX6 31
theorem nmX6 : ∀ a, a < 31 → ∀ b, b < 31 → a ≠ b → (TX6 a).2.1 ≠ (TX6 b).2.1 := by decide +kernel
theorem tyX6_ok : ∀ k, k < 31 → parseFieldDescriptor (TX6 k).2.2.1 = some (tyX6 k) := by decide +kernel
abbrev cX6_init : ByteArray := prog_8_method_1_code
def yX6_init : MethodName := ⟨RX6, "<init>", "()V"⟩
abbrev cX6_thrown : ByteArray := prog_8_method_2_code
def yX6_thrown : MethodName := ⟨RX6, "thrown", "()I"⟩
abbrev cX6_in : ByteArray := prog_8_method_3_code
def yX6_in : MethodName := ⟨RX6, "in", "(JJJ)Z"⟩
abbrev cX6_sortA : ByteArray := prog_8_method_4_code
def yX6_sortA : MethodName := ⟨RX6, "sortA", "(I)I"⟩
abbrev cX6_sortB : ByteArray := prog_8_method_5_code
def yX6_sortB : MethodName := ⟨RX6, "sortB", "(I)I"⟩
abbrev cX6_sortC : ByteArray := prog_8_method_6_code
def yX6_sortC : MethodName := ⟨RX6, "sortC", "(I)I"⟩
abbrev cX6_isGood : ByteArray := prog_8_method_7_code
def yX6_isGood : MethodName := ⟨RX6, "isGood", "(II)Z"⟩
abbrev cX6_forget : ByteArray := prog_8_method_8_code
def yX6_forget : MethodName := ⟨RX6, "forget", "()V"⟩
abbrev cX6_step : ByteArray := prog_8_method_9_code
def yX6_step : MethodName := ⟨RX6, "step", "(IIIII)I"⟩
abbrev cX6_clear : ByteArray := prog_8_method_10_code
def yX6_clear : MethodName := ⟨RX6, "clear", "()I"⟩
abbrev cX6_isOf : ByteArray := prog_8_method_11_code
def yX6_isOf : MethodName := ⟨RX6, "isOf", "(II)Z"⟩
abbrev cX6_kind : ByteArray := prog_8_method_12_code
def yX6_kind : MethodName := ⟨RX6, "kind", "(I)I"⟩
abbrev cX6_isWrong : ByteArray := prog_8_method_13_code
def yX6_isWrong : MethodName := ⟨RX6, "isWrong", "(II)Z"⟩
abbrev cX6_newObject : ByteArray := prog_8_method_14_code
def yX6_newObject : MethodName := ⟨RX6, "newObject", "(I)I"⟩
abbrev cX6_newArray : ByteArray := prog_8_method_15_code
def yX6_newArray : MethodName := ⟨RX6, "newArray", "(II)I"⟩
abbrev cX6_isCell : ByteArray := prog_8_method_16_code
def yX6_isCell : MethodName := ⟨RX6, "isCell", "(II)Z"⟩
abbrev cX6_doStep : ByteArray := prog_8_method_17_code
def yX6_doStep : MethodName := ⟨RX6, "doStep", "(I)I"⟩
abbrev cX6_tag : ByteArray := prog_8_method_18_code
def yX6_tag : MethodName := ⟨RX6, "tag", "(IZ)I"⟩
abbrev cX6_store : ByteArray := prog_8_method_19_code
def yX6_store : MethodName := ⟨RX6, "store", "(III)I"⟩
abbrev cX6_doOther : ByteArray := prog_8_method_20_code
def yX6_doOther : MethodName := ⟨RX6, "doOther", "(IIII)I"⟩
abbrev cX6_copy : ByteArray := prog_8_method_21_code
def yX6_copy : MethodName := ⟨RX6, "copy", "(III)I"⟩
abbrev cX6_run : ByteArray := prog_8_method_22_code
def yX6_run : MethodName := ⟨RX6, "run", "(II)I"⟩
abbrev cX6_ran : ByteArray := prog_8_method_23_code
def yX6_ran : MethodName := ⟨RX6, "ran", "(I)J"⟩
abbrev cX6_variable : ByteArray := prog_8_method_24_code
def yX6_variable : MethodName := ⟨RX6, "variable", "(II)I"⟩
abbrev cX6_number : ByteArray := prog_8_method_25_code
def yX6_number : MethodName := ⟨RX6, "number", "(I)J"⟩
abbrev cX6_seen : ByteArray := prog_8_method_26_code
def yX6_seen : MethodName := ⟨RX6, "seen", "(II)I"⟩
abbrev cX6_had : ByteArray := prog_8_method_27_code
def yX6_had : MethodName := ⟨RX6, "had", "(I)I"⟩
abbrev cX6_bitsOf : ByteArray := prog_8_method_28_code
def yX6_bitsOf : MethodName := ⟨RX6, "bitsOf", "(I)I"⟩
abbrev cX6_adds : ByteArray := prog_8_method_29_code
def yX6_adds : MethodName := ⟨RX6, "adds", "(II)V"⟩
abbrev cX6_takes : ByteArray := prog_8_method_30_code
def yX6_takes : MethodName := ⟨RX6, "takes", "(I)V"⟩
abbrev cX6_comes : ByteArray := prog_8_method_31_code
def yX6_comes : MethodName := ⟨RX6, "comes", "(I)V"⟩
abbrev cX6_copies : ByteArray := prog_8_method_32_code
def yX6_copies : MethodName := ⟨RX6, "copies", "(II)I"⟩
abbrev cX6_goOn : ByteArray := prog_8_method_33_code
def yX6_goOn : MethodName := ⟨RX6, "goOn", "(I)V"⟩
abbrev cX6_faultsOf : ByteArray := prog_8_method_34_code
def yX6_faultsOf : MethodName := ⟨RX6, "faultsOf", "(I)I"⟩
abbrev cX6_casts : ByteArray := prog_8_method_35_code
def yX6_casts : MethodName := ⟨RX6, "casts", "(II)I"⟩
abbrev cX6_copyFaults : ByteArray := prog_8_method_36_code
def yX6_copyFaults : MethodName := ⟨RX6, "copyFaults", "(II)I"⟩
abbrev cX6_tell : ByteArray := prog_8_method_37_code
def yX6_tell : MethodName := ⟨RX6, "tell", "()V"⟩
abbrev cX6_may : ByteArray := prog_8_method_38_code
def yX6_may : MethodName := ⟨RX6, "may", "(II)I"⟩
abbrev cX6_faults : ByteArray := prog_8_method_39_code
def yX6_faults : MethodName := ⟨RX6, "faults", "(I)I"⟩
abbrev cX6_cast : ByteArray := prog_8_method_40_code
def yX6_cast : MethodName := ⟨RX6, "cast", "(I)I"⟩
abbrev cX6_all : ByteArray := prog_8_method_41_code
def yX6_all : MethodName := ⟨RX6, "all", "(I)I"⟩
abbrev cX6_mean : ByteArray := prog_8_method_42_code
def yX6_mean : MethodName := ⟨RX6, "mean", "()I"⟩
def RJ0 : String := "java/lang/String"
def TJ0 : u_T := fun k => match k with
  | _ => ("", "", "", false)
def tyJ0 : Nat → FieldType := fun k => match k with
  | _ => .int
abbrev wsJ00 : List Cond := u_ws RJ0 TJ0 0
theorem nmJ0 : ∀ a, a < 0 → ∀ b, b < 0 → a ≠ b → (TJ0 a).2.1 ≠ (TJ0 b).2.1 := by decide +kernel
theorem tyJ0_ok : ∀ k, k < 0 → parseFieldDescriptor (TJ0 k).2.2.1 = some (tyJ0 k) := by decide +kernel
abbrev cJ0_charAt_5068e : ByteArray := prog_12_method_56_code
def yJ0_charAt_5068e : MethodName := ⟨RJ0, "charAt", "(I)C"⟩
abbrev cJ0_isLatin1_aae02 : ByteArray := prog_12_method_154_code
def yJ0_isLatin1_aae02 : MethodName := ⟨RJ0, "isLatin1", "()Z"⟩
abbrev cJ0_checkIndex_df160 : ByteArray := prog_12_method_155_code
def yJ0_checkIndex_df160 : MethodName := ⟨RJ0, "checkIndex", "(II)V"⟩
def RJ1 : String := "java/lang/StringLatin1"
def TJ1 : u_T := fun k => match k with
  | _ => ("", "", "", false)
def tyJ1 : Nat → FieldType := fun k => match k with
  | _ => .int
abbrev wsJ10 : List Cond := u_ws RJ1 TJ1 0
theorem nmJ1 : ∀ a, a < 0 → ∀ b, b < 0 → a ≠ b → (TJ1 a).2.1 ≠ (TJ1 b).2.1 := by decide +kernel
theorem tyJ1_ok : ∀ k, k < 0 → parseFieldDescriptor (TJ1 k).2.2.1 = some (tyJ1 k) := by decide +kernel
abbrev cJ1_charAt_3b067 : ByteArray := prog_13_method_2_code
def yJ1_charAt_3b067 : MethodName := ⟨RJ1, "charAt", "([BI)C"⟩
def RJ2 : String := "java/lang/StringUTF16"
def TJ2 : u_T := fun k => match k with
  | _ => ("", "", "", false)
def tyJ2 : Nat → FieldType := fun k => match k with
  | _ => .int
abbrev wsJ20 : List Cond := u_ws RJ2 TJ2 0
theorem nmJ2 : ∀ a, a < 0 → ∀ b, b < 0 → a ≠ b → (TJ2 a).2.1 ≠ (TJ2 b).2.1 := by decide +kernel
theorem tyJ2_ok : ∀ k, k < 0 → parseFieldDescriptor (TJ2 k).2.2.1 = some (tyJ2 k) := by decide +kernel
abbrev cJ2_getChar_3b067 : ByteArray := prog_14_method_5_code
def yJ2_getChar_3b067 : MethodName := ⟨RJ2, "getChar", "([BI)C"⟩
abbrev cJ2_length_9d52b : ByteArray := prog_14_method_6_code
def yJ2_length_9d52b : MethodName := ⟨RJ2, "length", "([B)I"⟩
abbrev cJ2_charAt_3b067 : ByteArray := prog_14_method_83_code
def yJ2_charAt_3b067 : MethodName := ⟨RJ2, "charAt", "([BI)C"⟩
abbrev cJ2_checkIndex_2214a : ByteArray := prog_14_method_91_code
def yJ2_checkIndex_2214a : MethodName := ⟨RJ2, "checkIndex", "(I[B)V"⟩
def RJ7 : String := "java/util/Arrays"
def TJ7 : u_T := fun k => match k with
  | _ => ("", "", "", false)
def tyJ7 : Nat → FieldType := fun k => match k with
  | _ => .int
abbrev wsJ70 : List Cond := u_ws RJ7 TJ7 0
theorem nmJ7 : ∀ a, a < 0 → ∀ b, b < 0 → a ≠ b → (TJ7 a).2.1 ≠ (TJ7 b).2.1 := by decide +kernel
theorem tyJ7_ok : ∀ k, k < 0 → parseFieldDescriptor (TJ7 k).2.2.1 = some (tyJ7 k) := by decide +kernel
abbrev cJ7_fill_53178 : ByteArray := prog_16_method_103_code
def yJ7_fill_53178 : MethodName := ⟨RJ7, "fill", "([II)V"⟩
def RJ3 : String := "jdk/internal/util/Preconditions"
def TJ3 : u_T := fun k => match k with
  | _ => ("", "", "", false)
def tyJ3 : Nat → FieldType := fun k => match k with
  | _ => .int
abbrev wsJ30 : List Cond := u_ws RJ3 TJ3 0
theorem nmJ3 : ∀ a, a < 0 → ∀ b, b < 0 → a ≠ b → (TJ3 a).2.1 ≠ (TJ3 b).2.1 := by decide +kernel
theorem tyJ3_ok : ∀ k, k < 0 → parseFieldDescriptor (TJ3 k).2.2.1 = some (tyJ3 k) := by decide +kernel
abbrev cJ3_checkIndex_8e157 : ByteArray := prog_17_method_11_code
def yJ3_checkIndex_8e157 : MethodName := ⟨RJ3, "checkIndex", "(IILjava/util/function/BiFunction;)I"⟩
def RL : String := "NullKindsLaw"
abbrev cL_mean : ByteArray := method_3_code
def yL_mean : MethodName := ⟨RL, "mean", "(LNullKinds;[J)I"⟩
abbrev cL_law : ByteArray := code
def yL_law : MethodName := ⟨RL, "law", "([I)Z"⟩
abbrev vwCl : List vw_C := [(RX0, TX0, 6), (RX1, TX1, 12), (RX2, TX2, 7), (RX3, TX3, 6), (RX4, TX4, 4), (RX5, TX5, 4), (RX6, TX6, 31)]
end
section
/-- one instruction of the mini machine: the instruction, the next pc, targets or places, a small constant, a long constant -/
abbrev mE : Type := Instr × Nat × List Nat × Int32 × Int64
def k_X0_empty (pc : Nat) : Option mE := (bif Nat.blt pc 2 then (bif Nat.blt pc 1 then (bif Nat.beq pc 0 then some (.aload_n 0, 1, [], 0, 0) else none) else (bif Nat.beq pc 1 then some (.iconst 0, 2, [], 0, 0) else none)) else (bif Nat.blt pc 5 then (bif Nat.beq pc 2 then some (.putfield 27, 5, [0, 5, 5, 0, 0], 0, 0) else none) else (bif Nat.beq pc 5 then some (.return_, 6, [], 0, 0) else none)))
def k_X0_size (pc : Nat) : Option mE := (bif Nat.blt pc 1 then (bif Nat.beq pc 0 then some (.aload_n 0, 1, [], 0, 0) else none) else (bif Nat.blt pc 4 then (bif Nat.beq pc 1 then some (.getfield 27, 4, [0, 5, 5, 0, 0], 0, 0) else none) else (bif Nat.beq pc 4 then some (.ireturn, 5, [0], 0, 0) else none)))
def k_X0_isFull (pc : Nat) : Option mE := (bif Nat.blt pc 9 then (bif Nat.blt pc 4 then (bif Nat.blt pc 1 then (bif Nat.beq pc 0 then some (.aload_n 0, 1, [], 0, 0) else none) else (bif Nat.beq pc 1 then some (.getfield 27, 4, [0, 5, 5, 0, 0], 0, 0) else none)) else (bif Nat.blt pc 6 then (bif Nat.beq pc 4 then some (.bipush 40, 6, [], 40, 0) else none) else (bif Nat.beq pc 6 then some (.if_icmp .lt 7, 9, [13], 0, 0) else none))) else (bif Nat.blt pc 13 then (bif Nat.blt pc 10 then (bif Nat.beq pc 9 then some (.iconst 1, 10, [], 1, 0) else none) else (bif Nat.beq pc 10 then some (.goto 4, 13, [14], 0, 0) else none)) else (bif Nat.blt pc 14 then (bif Nat.beq pc 13 then some (.iconst 0, 14, [], 0, 0) else none) else (bif Nat.beq pc 14 then some (.ireturn, 15, [1], 0, 0) else none))))
def k_X0_make (pc : Nat) : Option mE := (bif Nat.blt pc 28 then (bif Nat.blt pc 16 then (bif Nat.blt pc 9 then (bif Nat.blt pc 4 then (bif Nat.blt pc 1 then (bif Nat.beq pc 0 then some (.aload_n 0, 1, [], 0, 0) else none) else (bif Nat.beq pc 1 then some (.getfield 27, 4, [0, 5, 5, 0, 0], 0, 0) else none)) else (bif Nat.blt pc 5 then (bif Nat.beq pc 4 then some (.istore_n 3, 5, [], 0, 0) else none) else (bif Nat.blt pc 6 then (bif Nat.beq pc 5 then some (.aload_n 0, 6, [], 0, 0) else none) else (bif Nat.beq pc 6 then some (.getfield 9, 9, [0, 0, 0, 1, 100], 0, 0) else none)))) else (bif Nat.blt pc 11 then (bif Nat.blt pc 10 then (bif Nat.beq pc 9 then some (.iload_n 3, 10, [], 0, 0) else none) else (bif Nat.beq pc 10 then some (.iload_n 1, 11, [], 0, 0) else none)) else (bif Nat.blt pc 12 then (bif Nat.beq pc 11 then some (.iastore, 12, [], 0, 0) else none) else (bif Nat.blt pc 13 then (bif Nat.beq pc 12 then some (.aload_n 0, 13, [], 0, 0) else none) else (bif Nat.beq pc 13 then some (.getfield 15, 16, [0, 1, 1, 1, 101], 0, 0) else none))))) else (bif Nat.blt pc 23 then (bif Nat.blt pc 18 then (bif Nat.blt pc 17 then (bif Nat.beq pc 16 then some (.iload_n 3, 17, [], 0, 0) else none) else (bif Nat.beq pc 17 then some (.iload_n 2, 18, [], 0, 0) else none)) else (bif Nat.blt pc 19 then (bif Nat.beq pc 18 then some (.iastore, 19, [], 0, 0) else none) else (bif Nat.blt pc 20 then (bif Nat.beq pc 19 then some (.aload_n 0, 20, [], 0, 0) else none) else (bif Nat.beq pc 20 then some (.getfield 18, 23, [0, 2, 2, 1, 102], 0, 0) else none)))) else (bif Nat.blt pc 25 then (bif Nat.blt pc 24 then (bif Nat.beq pc 23 then some (.iload_n 3, 24, [], 0, 0) else none) else (bif Nat.beq pc 24 then some (.iconst (-1), 25, [], (-1), 0) else none)) else (bif Nat.blt pc 26 then (bif Nat.beq pc 25 then some (.iastore, 26, [], 0, 0) else none) else (bif Nat.blt pc 27 then (bif Nat.beq pc 26 then some (.aload_n 0, 27, [], 0, 0) else none) else (bif Nat.beq pc 27 then some (.dup, 28, [], 0, 0) else none)))))) else (bif Nat.blt pc 47 then (bif Nat.blt pc 37 then (bif Nat.blt pc 32 then (bif Nat.blt pc 31 then (bif Nat.beq pc 28 then some (.getfield 27, 31, [0, 5, 5, 0, 0], 0, 0) else none) else (bif Nat.beq pc 31 then some (.iconst 1, 32, [], 1, 0) else none)) else (bif Nat.blt pc 33 then (bif Nat.beq pc 32 then some (.iadd, 33, [], 0, 0) else none) else (bif Nat.blt pc 36 then (bif Nat.beq pc 33 then some (.putfield 27, 36, [0, 5, 5, 0, 0], 0, 0) else none) else (bif Nat.beq pc 36 then some (.iload_n 1, 37, [], 0, 0) else none)))) else (bif Nat.blt pc 42 then (bif Nat.blt pc 40 then (bif Nat.beq pc 37 then some (.invokestatic 31, 40, [4], 0, 0) else none) else (bif Nat.beq pc 40 then some (.istore 4, 42, [], 0, 0) else none)) else (bif Nat.blt pc 43 then (bif Nat.beq pc 42 then some (.iconst 0, 43, [], 0, 0) else none) else (bif Nat.blt pc 45 then (bif Nat.beq pc 43 then some (.istore 5, 45, [], 0, 0) else none) else (bif Nat.beq pc 45 then some (.iload 5, 47, [], 0, 0) else none))))) else (bif Nat.blt pc 55 then (bif Nat.blt pc 51 then (bif Nat.blt pc 48 then (bif Nat.beq pc 47 then some (.iload_n 2, 48, [], 0, 0) else none) else (bif Nat.beq pc 48 then some (.if_icmp .ge 18, 51, [66], 0, 0) else none)) else (bif Nat.blt pc 52 then (bif Nat.beq pc 51 then some (.aload_n 0, 52, [], 0, 0) else none) else (bif Nat.blt pc 53 then (bif Nat.beq pc 52 then some (.iload_n 3, 53, [], 0, 0) else none) else (bif Nat.beq pc 53 then some (.iload 5, 55, [], 0, 0) else none)))) else (bif Nat.blt pc 63 then (bif Nat.blt pc 57 then (bif Nat.beq pc 55 then some (.iload 4, 57, [], 0, 0) else none) else (bif Nat.blt pc 60 then (bif Nat.beq pc 57 then some (.invokevirtual 35, 60, [10], 0, 0) else none) else (bif Nat.beq pc 60 then some (.iinc 5 1, 63, [], 1, 0) else none))) else (bif Nat.blt pc 66 then (bif Nat.beq pc 63 then some (.goto (-18), 66, [45], 0, 0) else none) else (bif Nat.blt pc 67 then (bif Nat.beq pc 66 then some (.iload_n 3, 67, [], 0, 0) else none) else (bif Nat.beq pc 67 then some (.ireturn, 68, [0], 0, 0) else none)))))))
def k_X0_firstCell (pc : Nat) : Option mE := (bif Nat.blt pc 12 then (bif Nat.blt pc 6 then (bif Nat.blt pc 1 then (bif Nat.beq pc 0 then some (.iload_n 0, 1, [], 0, 0) else none) else (bif Nat.blt pc 3 then (bif Nat.beq pc 1 then some (.bipush 9, 3, [], 9, 0) else none) else (bif Nat.beq pc 3 then some (.if_icmp .ne 6, 6, [9], 0, 0) else none))) else (bif Nat.blt pc 9 then (bif Nat.blt pc 8 then (bif Nat.beq pc 6 then some (.bipush (-2), 8, [], (-2), 0) else none) else (bif Nat.beq pc 8 then some (.ireturn, 9, [0], 0, 0) else none)) else (bif Nat.blt pc 10 then (bif Nat.beq pc 9 then some (.iload_n 0, 10, [], 0, 0) else none) else (bif Nat.beq pc 10 then some (.bipush 7, 12, [], 7, 0) else none)))) else (bif Nat.blt pc 21 then (bif Nat.blt pc 16 then (bif Nat.blt pc 15 then (bif Nat.beq pc 12 then some (.if_icmp .eq 9, 15, [21], 0, 0) else none) else (bif Nat.beq pc 15 then some (.iload_n 0, 16, [], 0, 0) else none)) else (bif Nat.blt pc 18 then (bif Nat.beq pc 16 then some (.bipush 8, 18, [], 8, 0) else none) else (bif Nat.beq pc 18 then some (.if_icmp .ne 7, 21, [25], 0, 0) else none))) else (bif Nat.blt pc 25 then (bif Nat.blt pc 22 then (bif Nat.beq pc 21 then some (.iconst (-1), 22, [], (-1), 0) else none) else (bif Nat.beq pc 22 then some (.goto 4, 25, [26], 0, 0) else none)) else (bif Nat.blt pc 26 then (bif Nat.beq pc 25 then some (.iconst 0, 26, [], 0, 0) else none) else (bif Nat.beq pc 26 then some (.ireturn, 27, [0], 0, 0) else none)))))
def k_X0_kindOf (pc : Nat) : Option mE := (bif Nat.blt pc 17 then (bif Nat.blt pc 6 then (bif Nat.blt pc 4 then (bif Nat.blt pc 1 then (bif Nat.beq pc 0 then some (.iload_n 1, 1, [], 0, 0) else none) else (bif Nat.beq pc 1 then some (.ifCond .lt 18, 4, [19], 0, 0) else none)) else (bif Nat.blt pc 5 then (bif Nat.beq pc 4 then some (.iload_n 1, 5, [], 0, 0) else none) else (bif Nat.beq pc 5 then some (.aload_n 0, 6, [], 0, 0) else none))) else (bif Nat.blt pc 12 then (bif Nat.blt pc 9 then (bif Nat.beq pc 6 then some (.getfield 27, 9, [0, 5, 5, 0, 0], 0, 0) else none) else (bif Nat.beq pc 9 then some (.if_icmp .ge 10, 12, [19], 0, 0) else none)) else (bif Nat.blt pc 13 then (bif Nat.beq pc 12 then some (.aload_n 0, 13, [], 0, 0) else none) else (bif Nat.blt pc 16 then (bif Nat.beq pc 13 then some (.getfield 9, 16, [0, 0, 0, 1, 100], 0, 0) else none) else (bif Nat.beq pc 16 then some (.iload_n 1, 17, [], 0, 0) else none))))) else (bif Nat.blt pc 22 then (bif Nat.blt pc 19 then (bif Nat.blt pc 18 then (bif Nat.beq pc 17 then some (.iaload, 18, [], 0, 0) else none) else (bif Nat.beq pc 18 then some (.ireturn, 19, [0], 0, 0) else none)) else (bif Nat.blt pc 20 then (bif Nat.beq pc 19 then some (.iload_n 1, 20, [], 0, 0) else none) else (bif Nat.beq pc 20 then some (.bipush (-2), 22, [], (-2), 0) else none))) else (bif Nat.blt pc 26 then (bif Nat.blt pc 25 then (bif Nat.beq pc 22 then some (.if_icmp .ne 7, 25, [29], 0, 0) else none) else (bif Nat.beq pc 25 then some (.iconst 5, 26, [], 5, 0) else none)) else (bif Nat.blt pc 29 then (bif Nat.beq pc 26 then some (.goto 4, 29, [30], 0, 0) else none) else (bif Nat.blt pc 30 then (bif Nat.beq pc 29 then some (.iconst 0, 30, [], 0, 0) else none) else (bif Nat.beq pc 30 then some (.ireturn, 31, [0], 0, 0) else none))))))
def k_X0_lengthOf (pc : Nat) : Option mE := (bif Nat.blt pc 4 then (bif Nat.blt pc 1 then (bif Nat.beq pc 0 then some (.aload_n 0, 1, [], 0, 0) else none) else (bif Nat.beq pc 1 then some (.getfield 15, 4, [0, 1, 1, 1, 101], 0, 0) else none)) else (bif Nat.blt pc 5 then (bif Nat.beq pc 4 then some (.iload_n 1, 5, [], 0, 0) else none) else (bif Nat.blt pc 6 then (bif Nat.beq pc 5 then some (.iaload, 6, [], 0, 0) else none) else (bif Nat.beq pc 6 then some (.ireturn, 7, [0], 0, 0) else none))))
def k_X0_nextOf (pc : Nat) : Option mE := (bif Nat.blt pc 4 then (bif Nat.blt pc 1 then (bif Nat.beq pc 0 then some (.aload_n 0, 1, [], 0, 0) else none) else (bif Nat.beq pc 1 then some (.getfield 18, 4, [0, 2, 2, 1, 102], 0, 0) else none)) else (bif Nat.blt pc 5 then (bif Nat.beq pc 4 then some (.iload_n 1, 5, [], 0, 0) else none) else (bif Nat.blt pc 6 then (bif Nat.beq pc 5 then some (.iaload, 6, [], 0, 0) else none) else (bif Nat.beq pc 6 then some (.ireturn, 7, [0], 0, 0) else none))))
def k_X0_setNext (pc : Nat) : Option mE := (bif Nat.blt pc 5 then (bif Nat.blt pc 1 then (bif Nat.beq pc 0 then some (.aload_n 0, 1, [], 0, 0) else none) else (bif Nat.blt pc 4 then (bif Nat.beq pc 1 then some (.getfield 18, 4, [0, 2, 2, 1, 102], 0, 0) else none) else (bif Nat.beq pc 4 then some (.iload_n 1, 5, [], 0, 0) else none))) else (bif Nat.blt pc 6 then (bif Nat.beq pc 5 then some (.iload_n 2, 6, [], 0, 0) else none) else (bif Nat.blt pc 7 then (bif Nat.beq pc 6 then some (.iastore, 7, [], 0, 0) else none) else (bif Nat.beq pc 7 then some (.return_, 8, [], 0, 0) else none))))
def k_X0_cell (pc : Nat) : Option mE := (bif Nat.blt pc 7 then (bif Nat.blt pc 4 then (bif Nat.blt pc 1 then (bif Nat.beq pc 0 then some (.aload_n 0, 1, [], 0, 0) else none) else (bif Nat.beq pc 1 then some (.getfield 21, 4, [0, 3, 3, 1, 103], 0, 0) else none)) else (bif Nat.blt pc 5 then (bif Nat.beq pc 4 then some (.iload_n 1, 5, [], 0, 0) else none) else (bif Nat.beq pc 5 then some (.bipush 20, 7, [], 20, 0) else none))) else (bif Nat.blt pc 9 then (bif Nat.blt pc 8 then (bif Nat.beq pc 7 then some (.imul, 8, [], 0, 0) else none) else (bif Nat.beq pc 8 then some (.iload_n 2, 9, [], 0, 0) else none)) else (bif Nat.blt pc 10 then (bif Nat.beq pc 9 then some (.iadd, 10, [], 0, 0) else none) else (bif Nat.blt pc 11 then (bif Nat.beq pc 10 then some (.iaload, 11, [], 0, 0) else none) else (bif Nat.beq pc 11 then some (.ireturn, 12, [0], 0, 0) else none)))))
def k_X0_setCell (pc : Nat) : Option mE := (bif Nat.blt pc 8 then (bif Nat.blt pc 4 then (bif Nat.blt pc 1 then (bif Nat.beq pc 0 then some (.aload_n 0, 1, [], 0, 0) else none) else (bif Nat.beq pc 1 then some (.getfield 21, 4, [0, 3, 3, 1, 103], 0, 0) else none)) else (bif Nat.blt pc 5 then (bif Nat.beq pc 4 then some (.iload_n 1, 5, [], 0, 0) else none) else (bif Nat.blt pc 7 then (bif Nat.beq pc 5 then some (.bipush 20, 7, [], 20, 0) else none) else (bif Nat.beq pc 7 then some (.imul, 8, [], 0, 0) else none)))) else (bif Nat.blt pc 10 then (bif Nat.blt pc 9 then (bif Nat.beq pc 8 then some (.iload_n 2, 9, [], 0, 0) else none) else (bif Nat.beq pc 9 then some (.iadd, 10, [], 0, 0) else none)) else (bif Nat.blt pc 11 then (bif Nat.beq pc 10 then some (.iload_n 3, 11, [], 0, 0) else none) else (bif Nat.blt pc 12 then (bif Nat.beq pc 11 then some (.iastore, 12, [], 0, 0) else none) else (bif Nat.beq pc 12 then some (.return_, 13, [], 0, 0) else none)))))
def k_X0_takes (pc : Nat) : Option mE := (bif Nat.blt pc 9 then (bif Nat.blt pc 4 then (bif Nat.blt pc 3 then (bif Nat.beq pc 0 then some (.getstatic 39, 3, [501], 0, 0) else none) else (bif Nat.beq pc 3 then some (.aload_n 0, 4, [], 0, 0) else none)) else (bif Nat.blt pc 7 then (bif Nat.beq pc 4 then some (.getfield 9, 7, [0, 0, 0, 1, 100], 0, 0) else none) else (bif Nat.blt pc 8 then (bif Nat.beq pc 7 then some (.iload_n 1, 8, [], 0, 0) else none) else (bif Nat.beq pc 8 then some (.iaload, 9, [], 0, 0) else none)))) else (bif Nat.blt pc 12 then (bif Nat.blt pc 10 then (bif Nat.beq pc 9 then some (.iaload, 10, [], 0, 0) else none) else (bif Nat.blt pc 11 then (bif Nat.beq pc 10 then some (.aload_n 0, 11, [], 0, 0) else none) else (bif Nat.beq pc 11 then some (.iload_n 2, 12, [], 0, 0) else none))) else (bif Nat.blt pc 15 then (bif Nat.beq pc 12 then some (.invokevirtual 42, 15, [5], 0, 0) else none) else (bif Nat.blt pc 18 then (bif Nat.beq pc 15 then some (.invokestatic 45, 18, [105], 0, 0) else none) else (bif Nat.beq pc 18 then some (.ireturn, 19, [1], 0, 0) else none)))))
def k_X0_move (pc : Nat) : Option mE := (bif Nat.blt pc 58 then (bif Nat.blt pc 30 then (bif Nat.blt pc 14 then (bif Nat.blt pc 5 then (bif Nat.blt pc 1 then (bif Nat.beq pc 0 then some (.iconst 0, 1, [], 0, 0) else none) else (bif Nat.blt pc 3 then (bif Nat.beq pc 1 then some (.istore 5, 3, [], 0, 0) else none) else (bif Nat.beq pc 3 then some (.iload 5, 5, [], 0, 0) else none))) else (bif Nat.blt pc 10 then (bif Nat.blt pc 7 then (bif Nat.beq pc 5 then some (.iload 4, 7, [], 0, 0) else none) else (bif Nat.beq pc 7 then some (.if_icmp .ge 23, 10, [30], 0, 0) else none)) else (bif Nat.blt pc 11 then (bif Nat.beq pc 10 then some (.aload_n 0, 11, [], 0, 0) else none) else (bif Nat.beq pc 11 then some (.getfield 24, 14, [0, 4, 4, 1, 104], 0, 0) else none)))) else (bif Nat.blt pc 20 then (bif Nat.blt pc 17 then (bif Nat.blt pc 16 then (bif Nat.beq pc 14 then some (.iload 5, 16, [], 0, 0) else none) else (bif Nat.beq pc 16 then some (.aload_n 0, 17, [], 0, 0) else none)) else (bif Nat.blt pc 18 then (bif Nat.beq pc 17 then some (.iload_n 1, 18, [], 0, 0) else none) else (bif Nat.beq pc 18 then some (.iload 5, 20, [], 0, 0) else none))) else (bif Nat.blt pc 24 then (bif Nat.blt pc 23 then (bif Nat.beq pc 20 then some (.invokevirtual 49, 23, [9], 0, 0) else none) else (bif Nat.beq pc 23 then some (.iastore, 24, [], 0, 0) else none)) else (bif Nat.blt pc 27 then (bif Nat.beq pc 24 then some (.iinc 5 1, 27, [], 1, 0) else none) else (bif Nat.beq pc 27 then some (.goto (-24), 30, [3], 0, 0) else none))))) else (bif Nat.blt pc 44 then (bif Nat.blt pc 36 then (bif Nat.blt pc 34 then (bif Nat.blt pc 31 then (bif Nat.beq pc 30 then some (.aload_n 0, 31, [], 0, 0) else none) else (bif Nat.beq pc 31 then some (.getfield 9, 34, [0, 0, 0, 1, 100], 0, 0) else none)) else (bif Nat.blt pc 35 then (bif Nat.beq pc 34 then some (.iload_n 2, 35, [], 0, 0) else none) else (bif Nat.beq pc 35 then some (.iaload, 36, [], 0, 0) else none))) else (bif Nat.blt pc 40 then (bif Nat.blt pc 37 then (bif Nat.beq pc 36 then some (.iconst 5, 37, [], 5, 0) else none) else (bif Nat.beq pc 37 then some (.if_icmp .eq 14, 40, [51], 0, 0) else none)) else (bif Nat.blt pc 41 then (bif Nat.beq pc 40 then some (.aload_n 0, 41, [], 0, 0) else none) else (bif Nat.beq pc 41 then some (.getfield 9, 44, [0, 0, 0, 1, 100], 0, 0) else none)))) else (bif Nat.blt pc 51 then (bif Nat.blt pc 46 then (bif Nat.blt pc 45 then (bif Nat.beq pc 44 then some (.iload_n 2, 45, [], 0, 0) else none) else (bif Nat.beq pc 45 then some (.iaload, 46, [], 0, 0) else none)) else (bif Nat.blt pc 48 then (bif Nat.beq pc 46 then some (.bipush 6, 48, [], 6, 0) else none) else (bif Nat.beq pc 48 then some (.if_icmp .ne 7, 51, [55], 0, 0) else none))) else (bif Nat.blt pc 55 then (bif Nat.blt pc 52 then (bif Nat.beq pc 51 then some (.iconst 1, 52, [], 1, 0) else none) else (bif Nat.beq pc 52 then some (.goto 4, 55, [56], 0, 0) else none)) else (bif Nat.blt pc 56 then (bif Nat.beq pc 55 then some (.iconst 0, 56, [], 0, 0) else none) else (bif Nat.beq pc 56 then some (.istore 5, 58, [], 0, 0) else none)))))) else (bif Nat.blt pc 88 then (bif Nat.blt pc 73 then (bif Nat.blt pc 63 then (bif Nat.blt pc 59 then (bif Nat.beq pc 58 then some (.iconst 0, 59, [], 0, 0) else none) else (bif Nat.blt pc 61 then (bif Nat.beq pc 59 then some (.istore 6, 61, [], 0, 0) else none) else (bif Nat.beq pc 61 then some (.iload 6, 63, [], 0, 0) else none))) else (bif Nat.blt pc 68 then (bif Nat.blt pc 65 then (bif Nat.beq pc 63 then some (.iload 4, 65, [], 0, 0) else none) else (bif Nat.beq pc 65 then some (.if_icmp .ge 47, 68, [112], 0, 0) else none)) else (bif Nat.blt pc 70 then (bif Nat.beq pc 68 then some (.iload 5, 70, [], 0, 0) else none) else (bif Nat.beq pc 70 then some (.ifCond .ne 20, 73, [90], 0, 0) else none)))) else (bif Nat.blt pc 79 then (bif Nat.blt pc 75 then (bif Nat.blt pc 74 then (bif Nat.beq pc 73 then some (.aload_n 0, 74, [], 0, 0) else none) else (bif Nat.beq pc 74 then some (.iload_n 2, 75, [], 0, 0) else none)) else (bif Nat.blt pc 76 then (bif Nat.beq pc 75 then some (.aload_n 0, 76, [], 0, 0) else none) else (bif Nat.beq pc 76 then some (.getfield 24, 79, [0, 4, 4, 1, 104], 0, 0) else none))) else (bif Nat.blt pc 82 then (bif Nat.blt pc 81 then (bif Nat.beq pc 79 then some (.iload 6, 81, [], 0, 0) else none) else (bif Nat.beq pc 81 then some (.iaload, 82, [], 0, 0) else none)) else (bif Nat.blt pc 85 then (bif Nat.beq pc 82 then some (.invokevirtual 53, 85, [11], 0, 0) else none) else (bif Nat.beq pc 85 then some (.ifCond .ne 5, 88, [90], 0, 0) else none))))) else (bif Nat.blt pc 97 then (bif Nat.blt pc 92 then (bif Nat.blt pc 90 then (bif Nat.blt pc 89 then (bif Nat.beq pc 88 then some (.iconst 4, 89, [], 4, 0) else none) else (bif Nat.beq pc 89 then some (.ireturn, 90, [0], 0, 0) else none)) else (bif Nat.blt pc 91 then (bif Nat.beq pc 90 then some (.aload_n 0, 91, [], 0, 0) else none) else (bif Nat.beq pc 91 then some (.iload_n 2, 92, [], 0, 0) else none))) else (bif Nat.blt pc 95 then (bif Nat.blt pc 93 then (bif Nat.beq pc 92 then some (.iload_n 3, 93, [], 0, 0) else none) else (bif Nat.beq pc 93 then some (.iload 6, 95, [], 0, 0) else none)) else (bif Nat.blt pc 96 then (bif Nat.beq pc 95 then some (.iadd, 96, [], 0, 0) else none) else (bif Nat.beq pc 96 then some (.aload_n 0, 97, [], 0, 0) else none)))) else (bif Nat.blt pc 106 then (bif Nat.blt pc 102 then (bif Nat.blt pc 100 then (bif Nat.beq pc 97 then some (.getfield 24, 100, [0, 4, 4, 1, 104], 0, 0) else none) else (bif Nat.beq pc 100 then some (.iload 6, 102, [], 0, 0) else none)) else (bif Nat.blt pc 103 then (bif Nat.beq pc 102 then some (.iaload, 103, [], 0, 0) else none) else (bif Nat.beq pc 103 then some (.invokevirtual 35, 106, [10], 0, 0) else none))) else (bif Nat.blt pc 112 then (bif Nat.blt pc 109 then (bif Nat.beq pc 106 then some (.iinc 6 1, 109, [], 1, 0) else none) else (bif Nat.beq pc 109 then some (.goto (-48), 112, [61], 0, 0) else none)) else (bif Nat.blt pc 113 then (bif Nat.beq pc 112 then some (.iconst 0, 113, [], 0, 0) else none) else (bif Nat.beq pc 113 then some (.ireturn, 114, [0], 0, 0) else none)))))))
def k_X1_forget (pc : Nat) : Option mE := (bif Nat.blt pc 2 then (bif Nat.blt pc 1 then (bif Nat.beq pc 0 then some (.aload_n 0, 1, [], 0, 0) else none) else (bif Nat.beq pc 1 then some (.iconst 4, 2, [], 4, 0) else none)) else (bif Nat.blt pc 5 then (bif Nat.beq pc 2 then some (.putfield 35, 5, [1, 8, 48, 0, 0], 0, 0) else none) else (bif Nat.beq pc 5 then some (.return_, 6, [], 0, 0) else none)))
def k_X1_hasRun (pc : Nat) : Option mE := (bif Nat.blt pc 8 then (bif Nat.blt pc 4 then (bif Nat.blt pc 1 then (bif Nat.beq pc 0 then some (.aload_n 0, 1, [], 0, 0) else none) else (bif Nat.beq pc 1 then some (.getfield 35, 4, [1, 8, 48, 0, 0], 0, 0) else none)) else (bif Nat.blt pc 5 then (bif Nat.beq pc 4 then some (.iconst 4, 5, [], 4, 0) else none) else (bif Nat.beq pc 5 then some (.if_icmp .eq 7, 8, [12], 0, 0) else none))) else (bif Nat.blt pc 12 then (bif Nat.blt pc 9 then (bif Nat.beq pc 8 then some (.iconst 1, 9, [], 1, 0) else none) else (bif Nat.beq pc 9 then some (.goto 4, 12, [13], 0, 0) else none)) else (bif Nat.blt pc 13 then (bif Nat.beq pc 12 then some (.iconst 0, 13, [], 0, 0) else none) else (bif Nat.beq pc 13 then some (.ireturn, 14, [1], 0, 0) else none))))
def k_X1_go (pc : Nat) : Option mE := (bif Nat.blt pc 37 then (bif Nat.blt pc 15 then (bif Nat.blt pc 6 then (bif Nat.blt pc 2 then (bif Nat.blt pc 1 then (bif Nat.beq pc 0 then some (.aload_n 0, 1, [], 0, 0) else none) else (bif Nat.beq pc 1 then some (.iload_n 1, 2, [], 0, 0) else none)) else (bif Nat.blt pc 3 then (bif Nat.beq pc 2 then some (.iload_n 2, 3, [], 0, 0) else none) else (bif Nat.beq pc 3 then some (.invokevirtual 55, 6, [16], 0, 0) else none))) else (bif Nat.blt pc 8 then (bif Nat.blt pc 7 then (bif Nat.beq pc 6 then some (.iconst 0, 7, [], 0, 0) else none) else (bif Nat.beq pc 7 then some (.istore_n 3, 8, [], 0, 0) else none)) else (bif Nat.blt pc 9 then (bif Nat.beq pc 8 then some (.iload_n 3, 9, [], 0, 0) else none) else (bif Nat.blt pc 12 then (bif Nat.beq pc 9 then some (.sipush 200, 12, [], 200, 0) else none) else (bif Nat.beq pc 12 then some (.if_icmp .gt 62, 15, [74], 0, 0) else none))))) else (bif Nat.blt pc 24 then (bif Nat.blt pc 19 then (bif Nat.blt pc 16 then (bif Nat.beq pc 15 then some (.aload_n 0, 16, [], 0, 0) else none) else (bif Nat.beq pc 16 then some (.getfield 35, 19, [1, 8, 48, 0, 0], 0, 0) else none)) else (bif Nat.blt pc 20 then (bif Nat.beq pc 19 then some (.iconst 3, 20, [], 3, 0) else none) else (bif Nat.blt pc 23 then (bif Nat.beq pc 20 then some (.if_icmp .ne 54, 23, [74], 0, 0) else none) else (bif Nat.beq pc 23 then some (.aload_n 0, 24, [], 0, 0) else none)))) else (bif Nat.blt pc 28 then (bif Nat.blt pc 27 then (bif Nat.beq pc 24 then some (.getfield 47, 27, [1, 0, 40, 1, 3], 0, 0) else none) else (bif Nat.beq pc 27 then some (.aload_n 0, 28, [], 0, 0) else none)) else (bif Nat.blt pc 31 then (bif Nat.beq pc 28 then some (.getfield 25, 31, [1, 5, 45, 0, 0], 0, 0) else none) else (bif Nat.blt pc 34 then (bif Nat.beq pc 31 then some (.invokevirtual 59, 34, [80], 0, 0) else none) else (bif Nat.beq pc 34 then some (.ifCond .ne 11, 37, [45], 0, 0) else none)))))) else (bif Nat.blt pc 57 then (bif Nat.blt pc 46 then (bif Nat.blt pc 39 then (bif Nat.blt pc 38 then (bif Nat.beq pc 37 then some (.aload_n 0, 38, [], 0, 0) else none) else (bif Nat.beq pc 38 then some (.iconst 0, 39, [], 0, 0) else none)) else (bif Nat.blt pc 42 then (bif Nat.beq pc 39 then some (.putfield 35, 42, [1, 8, 48, 0, 0], 0, 0) else none) else (bif Nat.blt pc 45 then (bif Nat.beq pc 42 then some (.goto 26, 45, [68], 0, 0) else none) else (bif Nat.beq pc 45 then some (.iload_n 3, 46, [], 0, 0) else none)))) else (bif Nat.blt pc 52 then (bif Nat.blt pc 49 then (bif Nat.beq pc 46 then some (.sipush 200, 49, [], 200, 0) else none) else (bif Nat.beq pc 49 then some (.if_icmp .ne 11, 52, [60], 0, 0) else none)) else (bif Nat.blt pc 53 then (bif Nat.beq pc 52 then some (.aload_n 0, 53, [], 0, 0) else none) else (bif Nat.blt pc 54 then (bif Nat.beq pc 53 then some (.iconst 2, 54, [], 2, 0) else none) else (bif Nat.beq pc 54 then some (.putfield 35, 57, [1, 8, 48, 0, 0], 0, 0) else none))))) else (bif Nat.blt pc 68 then (bif Nat.blt pc 61 then (bif Nat.blt pc 60 then (bif Nat.beq pc 57 then some (.goto 11, 60, [68], 0, 0) else none) else (bif Nat.beq pc 60 then some (.aload_n 0, 61, [], 0, 0) else none)) else (bif Nat.blt pc 62 then (bif Nat.beq pc 61 then some (.aload_n 0, 62, [], 0, 0) else none) else (bif Nat.blt pc 65 then (bif Nat.beq pc 62 then some (.getfield 25, 65, [1, 5, 45, 0, 0], 0, 0) else none) else (bif Nat.beq pc 65 then some (.invokevirtual 65, 68, [17], 0, 0) else none)))) else (bif Nat.blt pc 74 then (bif Nat.blt pc 71 then (bif Nat.beq pc 68 then some (.iinc 3 1, 71, [], 1, 0) else none) else (bif Nat.beq pc 71 then some (.goto (-63), 74, [8], 0, 0) else none)) else (bif Nat.blt pc 75 then (bif Nat.beq pc 74 then some (.aload_n 0, 75, [], 0, 0) else none) else (bif Nat.blt pc 78 then (bif Nat.beq pc 75 then some (.getfield 35, 78, [1, 8, 48, 0, 0], 0, 0) else none) else (bif Nat.beq pc 78 then some (.ireturn, 79, [0], 0, 0) else none)))))))
def k_X1_begin (pc : Nat) : Option mE := (bif Nat.blt pc 39 then (bif Nat.blt pc 23 then (bif Nat.blt pc 11 then (bif Nat.blt pc 4 then (bif Nat.blt pc 1 then (bif Nat.beq pc 0 then some (.aload_n 0, 1, [], 0, 0) else none) else (bif Nat.beq pc 1 then some (.getfield 12, 4, [1, 2, 42, 1, 0], 0, 0) else none)) else (bif Nat.blt pc 7 then (bif Nat.beq pc 4 then some (.invokevirtual 69, 7, [0], 0, 0) else none) else (bif Nat.blt pc 8 then (bif Nat.beq pc 7 then some (.aload_n 0, 8, [], 0, 0) else none) else (bif Nat.beq pc 8 then some (.getfield 18, 11, [1, 3, 43, 1, 143], 0, 0) else none)))) else (bif Nat.blt pc 16 then (bif Nat.blt pc 12 then (bif Nat.beq pc 11 then some (.iconst (-1), 12, [], (-1), 0) else none) else (bif Nat.blt pc 15 then (bif Nat.beq pc 12 then some (.invokestatic 72, 15, [149], 0, 0) else none) else (bif Nat.beq pc 15 then some (.aload_n 0, 16, [], 0, 0) else none))) else (bif Nat.blt pc 19 then (bif Nat.beq pc 16 then some (.getfield 22, 19, [1, 4, 44, 1, 144], 0, 0) else none) else (bif Nat.blt pc 20 then (bif Nat.beq pc 19 then some (.iconst 0, 20, [], 0, 0) else none) else (bif Nat.beq pc 20 then some (.invokestatic 72, 23, [149], 0, 0) else none))))) else (bif Nat.blt pc 31 then (bif Nat.blt pc 28 then (bif Nat.blt pc 24 then (bif Nat.beq pc 23 then some (.aload_n 0, 24, [], 0, 0) else none) else (bif Nat.blt pc 27 then (bif Nat.beq pc 24 then some (.getfield 22, 27, [1, 4, 44, 1, 144], 0, 0) else none) else (bif Nat.beq pc 27 then some (.iconst 0, 28, [], 0, 0) else none))) else (bif Nat.blt pc 29 then (bif Nat.beq pc 28 then some (.iload_n 1, 29, [], 0, 0) else none) else (bif Nat.blt pc 30 then (bif Nat.beq pc 29 then some (.iastore, 30, [], 0, 0) else none) else (bif Nat.beq pc 30 then some (.aload_n 0, 31, [], 0, 0) else none)))) else (bif Nat.blt pc 36 then (bif Nat.blt pc 34 then (bif Nat.beq pc 31 then some (.getfield 22, 34, [1, 4, 44, 1, 144], 0, 0) else none) else (bif Nat.blt pc 35 then (bif Nat.beq pc 34 then some (.iconst 1, 35, [], 1, 0) else none) else (bif Nat.beq pc 35 then some (.iload_n 2, 36, [], 0, 0) else none))) else (bif Nat.blt pc 37 then (bif Nat.beq pc 36 then some (.iastore, 37, [], 0, 0) else none) else (bif Nat.blt pc 38 then (bif Nat.beq pc 37 then some (.aload_n 0, 38, [], 0, 0) else none) else (bif Nat.beq pc 38 then some (.iconst 0, 39, [], 0, 0) else none)))))) else (bif Nat.blt pc 58 then (bif Nat.blt pc 48 then (bif Nat.blt pc 43 then (bif Nat.blt pc 42 then (bif Nat.beq pc 39 then some (.putfield 25, 42, [1, 5, 45, 0, 0], 0, 0) else none) else (bif Nat.beq pc 42 then some (.aload_n 0, 43, [], 0, 0) else none)) else (bif Nat.blt pc 44 then (bif Nat.beq pc 43 then some (.iconst 0, 44, [], 0, 0) else none) else (bif Nat.blt pc 47 then (bif Nat.beq pc 44 then some (.putfield 29, 47, [1, 6, 46, 0, 0], 0, 0) else none) else (bif Nat.beq pc 47 then some (.aload_n 0, 48, [], 0, 0) else none)))) else (bif Nat.blt pc 53 then (bif Nat.blt pc 49 then (bif Nat.beq pc 48 then some (.iconst 0, 49, [], 0, 0) else none) else (bif Nat.blt pc 52 then (bif Nat.beq pc 49 then some (.putfield 32, 52, [1, 7, 47, 0, 0], 0, 0) else none) else (bif Nat.beq pc 52 then some (.aload_n 0, 53, [], 0, 0) else none))) else (bif Nat.blt pc 54 then (bif Nat.beq pc 53 then some (.iconst 3, 54, [], 3, 0) else none) else (bif Nat.blt pc 57 then (bif Nat.beq pc 54 then some (.putfield 35, 57, [1, 8, 48, 0, 0], 0, 0) else none) else (bif Nat.beq pc 57 then some (.aload_n 0, 58, [], 0, 0) else none))))) else (bif Nat.blt pc 68 then (bif Nat.blt pc 63 then (bif Nat.blt pc 59 then (bif Nat.beq pc 58 then some (.iconst 0, 59, [], 0, 0) else none) else (bif Nat.blt pc 62 then (bif Nat.beq pc 59 then some (.putfield 38, 62, [1, 9, 49, 0, 0], 0, 0) else none) else (bif Nat.beq pc 62 then some (.aload_n 0, 63, [], 0, 0) else none))) else (bif Nat.blt pc 64 then (bif Nat.beq pc 63 then some (.iconst 0, 64, [], 0, 0) else none) else (bif Nat.blt pc 67 then (bif Nat.beq pc 64 then some (.putfield 41, 67, [1, 10, 50, 0, 0], 0, 0) else none) else (bif Nat.beq pc 67 then some (.aload_n 0, 68, [], 0, 0) else none)))) else (bif Nat.blt pc 74 then (bif Nat.blt pc 70 then (bif Nat.beq pc 68 then some (.bipush (-3), 70, [], (-3), 0) else none) else (bif Nat.blt pc 73 then (bif Nat.beq pc 70 then some (.putfield 44, 73, [1, 11, 51, 0, 0], 0, 0) else none) else (bif Nat.beq pc 73 then some (.aload_n 0, 74, [], 0, 0) else none))) else (bif Nat.blt pc 77 then (bif Nat.beq pc 74 then some (.getfield 51, 77, [1, 1, 41, 1, 4], 0, 0) else none) else (bif Nat.blt pc 80 then (bif Nat.beq pc 77 then some (.invokevirtual 78, 80, [82], 0, 0) else none) else (bif Nat.beq pc 80 then some (.return_, 81, [], 0, 0) else none)))))))
def k_X1_takeStep (pc : Nat) : Option mE := (bif Nat.blt pc 56 then (bif Nat.blt pc 24 then (bif Nat.blt pc 12 then (bif Nat.blt pc 3 then (bif Nat.blt pc 1 then (bif Nat.beq pc 0 then some (.iconst 0, 1, [], 0, 0) else none) else (bif Nat.blt pc 2 then (bif Nat.beq pc 1 then some (.istore_n 2, 2, [], 0, 0) else none) else (bif Nat.beq pc 2 then some (.iload_n 2, 3, [], 0, 0) else none))) else (bif Nat.blt pc 8 then (bif Nat.blt pc 5 then (bif Nat.beq pc 3 then some (.bipush 6, 5, [], 6, 0) else none) else (bif Nat.beq pc 5 then some (.if_icmp .ge 31, 8, [36], 0, 0) else none)) else (bif Nat.blt pc 9 then (bif Nat.beq pc 8 then some (.aload_n 0, 9, [], 0, 0) else none) else (bif Nat.beq pc 9 then some (.getfield 51, 12, [1, 1, 41, 1, 4], 0, 0) else none)))) else (bif Nat.blt pc 18 then (bif Nat.blt pc 14 then (bif Nat.blt pc 13 then (bif Nat.beq pc 12 then some (.iload_n 1, 13, [], 0, 0) else none) else (bif Nat.beq pc 13 then some (.iload_n 2, 14, [], 0, 0) else none)) else (bif Nat.blt pc 15 then (bif Nat.beq pc 14 then some (.aload_n 0, 15, [], 0, 0) else none) else (bif Nat.beq pc 15 then some (.getfield 12, 18, [1, 2, 42, 1, 0], 0, 0) else none))) else (bif Nat.blt pc 22 then (bif Nat.blt pc 19 then (bif Nat.beq pc 18 then some (.aload_n 0, 19, [], 0, 0) else none) else (bif Nat.beq pc 19 then some (.getfield 18, 22, [1, 3, 43, 1, 143], 0, 0) else none)) else (bif Nat.blt pc 23 then (bif Nat.beq pc 22 then some (.iload_n 2, 23, [], 0, 0) else none) else (bif Nat.beq pc 23 then some (.iaload, 24, [], 0, 0) else none))))) else (bif Nat.blt pc 44 then (bif Nat.blt pc 36 then (bif Nat.blt pc 30 then (bif Nat.blt pc 27 then (bif Nat.beq pc 24 then some (.invokevirtual 83, 27, [5], 0, 0) else none) else (bif Nat.beq pc 27 then some (.invokevirtual 87, 30, [84], 0, 0) else none)) else (bif Nat.blt pc 33 then (bif Nat.beq pc 30 then some (.iinc 2 1, 33, [], 1, 0) else none) else (bif Nat.beq pc 33 then some (.goto (-31), 36, [2], 0, 0) else none))) else (bif Nat.blt pc 40 then (bif Nat.blt pc 37 then (bif Nat.beq pc 36 then some (.aload_n 0, 37, [], 0, 0) else none) else (bif Nat.beq pc 37 then some (.getfield 51, 40, [1, 1, 41, 1, 4], 0, 0) else none)) else (bif Nat.blt pc 43 then (bif Nat.beq pc 40 then some (.invokevirtual 91, 43, [83], 0, 0) else none) else (bif Nat.beq pc 43 then some (.aload_n 0, 44, [], 0, 0) else none)))) else (bif Nat.blt pc 50 then (bif Nat.blt pc 48 then (bif Nat.blt pc 45 then (bif Nat.beq pc 44 then some (.dup, 45, [], 0, 0) else none) else (bif Nat.beq pc 45 then some (.getfield 29, 48, [1, 6, 46, 0, 0], 0, 0) else none)) else (bif Nat.blt pc 49 then (bif Nat.beq pc 48 then some (.iconst 1, 49, [], 1, 0) else none) else (bif Nat.beq pc 49 then some (.iadd, 50, [], 0, 0) else none))) else (bif Nat.blt pc 54 then (bif Nat.blt pc 53 then (bif Nat.beq pc 50 then some (.putfield 29, 53, [1, 6, 46, 0, 0], 0, 0) else none) else (bif Nat.beq pc 53 then some (.aload_n 0, 54, [], 0, 0) else none)) else (bif Nat.blt pc 55 then (bif Nat.beq pc 54 then some (.iload_n 1, 55, [], 0, 0) else none) else (bif Nat.beq pc 55 then some (.iconst 1, 56, [], 1, 0) else none)))))) else (bif Nat.blt pc 86 then (bif Nat.blt pc 70 then (bif Nat.blt pc 62 then (bif Nat.blt pc 60 then (bif Nat.blt pc 57 then (bif Nat.beq pc 56 then some (.iadd, 57, [], 0, 0) else none) else (bif Nat.beq pc 57 then some (.putfield 25, 60, [1, 5, 45, 0, 0], 0, 0) else none)) else (bif Nat.blt pc 61 then (bif Nat.beq pc 60 then some (.aload_n 0, 61, [], 0, 0) else none) else (bif Nat.beq pc 61 then some (.aload_n 0, 62, [], 0, 0) else none))) else (bif Nat.blt pc 68 then (bif Nat.blt pc 65 then (bif Nat.beq pc 62 then some (.getfield 47, 65, [1, 0, 40, 1, 3], 0, 0) else none) else (bif Nat.beq pc 65 then some (.getfield 94, 68, [3, 0, 120, 1, 220], 0, 0) else none)) else (bif Nat.blt pc 69 then (bif Nat.beq pc 68 then some (.iload_n 1, 69, [], 0, 0) else none) else (bif Nat.beq pc 69 then some (.iaload, 70, [], 0, 0) else none)))) else (bif Nat.blt pc 78 then (bif Nat.blt pc 74 then (bif Nat.blt pc 71 then (bif Nat.beq pc 70 then some (.aload_n 0, 71, [], 0, 0) else none) else (bif Nat.beq pc 71 then some (.getfield 47, 74, [1, 0, 40, 1, 3], 0, 0) else none)) else (bif Nat.blt pc 77 then (bif Nat.beq pc 74 then some (.getfield 97, 77, [3, 1, 121, 1, 221], 0, 0) else none) else (bif Nat.beq pc 77 then some (.iload_n 1, 78, [], 0, 0) else none))) else (bif Nat.blt pc 80 then (bif Nat.blt pc 79 then (bif Nat.beq pc 78 then some (.iaload, 79, [], 0, 0) else none) else (bif Nat.beq pc 79 then some (.aload_n 0, 80, [], 0, 0) else none)) else (bif Nat.blt pc 83 then (bif Nat.beq pc 80 then some (.getfield 47, 83, [1, 0, 40, 1, 3], 0, 0) else none) else (bif Nat.beq pc 83 then some (.getfield 100, 86, [3, 2, 122, 1, 222], 0, 0) else none))))) else (bif Nat.blt pc 100 then (bif Nat.blt pc 92 then (bif Nat.blt pc 88 then (bif Nat.blt pc 87 then (bif Nat.beq pc 86 then some (.iload_n 1, 87, [], 0, 0) else none) else (bif Nat.beq pc 87 then some (.iaload, 88, [], 0, 0) else none)) else (bif Nat.blt pc 89 then (bif Nat.beq pc 88 then some (.aload_n 0, 89, [], 0, 0) else none) else (bif Nat.beq pc 89 then some (.getfield 47, 92, [1, 0, 40, 1, 3], 0, 0) else none))) else (bif Nat.blt pc 96 then (bif Nat.blt pc 95 then (bif Nat.beq pc 92 then some (.getfield 103, 95, [3, 3, 123, 1, 223], 0, 0) else none) else (bif Nat.beq pc 95 then some (.iload_n 1, 96, [], 0, 0) else none)) else (bif Nat.blt pc 97 then (bif Nat.beq pc 96 then some (.iaload, 97, [], 0, 0) else none) else (bif Nat.beq pc 97 then some (.invokevirtual 106, 100, [19], 0, 0) else none)))) else (bif Nat.blt pc 106 then (bif Nat.blt pc 102 then (bif Nat.blt pc 101 then (bif Nat.beq pc 100 then some (.istore_n 2, 101, [], 0, 0) else none) else (bif Nat.beq pc 101 then some (.iload_n 2, 102, [], 0, 0) else none)) else (bif Nat.blt pc 105 then (bif Nat.beq pc 102 then some (.ifCond .eq 9, 105, [111], 0, 0) else none) else (bif Nat.beq pc 105 then some (.aload_n 0, 106, [], 0, 0) else none))) else (bif Nat.blt pc 108 then (bif Nat.blt pc 107 then (bif Nat.beq pc 106 then some (.iload_n 1, 107, [], 0, 0) else none) else (bif Nat.beq pc 107 then some (.iload_n 2, 108, [], 0, 0) else none)) else (bif Nat.blt pc 111 then (bif Nat.beq pc 108 then some (.invokevirtual 110, 111, [18], 0, 0) else none) else (bif Nat.beq pc 111 then some (.return_, 112, [], 0, 0) else none)))))))
def k_X1_meetFault (pc : Nat) : Option mE := (bif Nat.blt pc 40 then (bif Nat.blt pc 19 then (bif Nat.blt pc 9 then (bif Nat.blt pc 4 then (bif Nat.blt pc 1 then (bif Nat.beq pc 0 then some (.aload_n 0, 1, [], 0, 0) else none) else (bif Nat.beq pc 1 then some (.getfield 51, 4, [1, 1, 41, 1, 4], 0, 0) else none)) else (bif Nat.blt pc 5 then (bif Nat.beq pc 4 then some (.iload_n 1, 5, [], 0, 0) else none) else (bif Nat.blt pc 6 then (bif Nat.beq pc 5 then some (.iload_n 2, 6, [], 0, 0) else none) else (bif Nat.beq pc 6 then some (.invokevirtual 113, 9, [85], 0, 0) else none)))) else (bif Nat.blt pc 14 then (bif Nat.blt pc 10 then (bif Nat.beq pc 9 then some (.aload_n 0, 10, [], 0, 0) else none) else (bif Nat.blt pc 11 then (bif Nat.beq pc 10 then some (.dup, 11, [], 0, 0) else none) else (bif Nat.beq pc 11 then some (.getfield 32, 14, [1, 7, 47, 0, 0], 0, 0) else none))) else (bif Nat.blt pc 15 then (bif Nat.beq pc 14 then some (.iconst 1, 15, [], 1, 0) else none) else (bif Nat.blt pc 16 then (bif Nat.beq pc 15 then some (.iadd, 16, [], 0, 0) else none) else (bif Nat.beq pc 16 then some (.putfield 32, 19, [1, 7, 47, 0, 0], 0, 0) else none))))) else (bif Nat.blt pc 29 then (bif Nat.blt pc 26 then (bif Nat.blt pc 20 then (bif Nat.beq pc 19 then some (.aload_n 0, 20, [], 0, 0) else none) else (bif Nat.blt pc 23 then (bif Nat.beq pc 20 then some (.getfield 47, 23, [1, 0, 40, 1, 3], 0, 0) else none) else (bif Nat.beq pc 23 then some (.getfield 116, 26, [3, 4, 124, 1, 224], 0, 0) else none))) else (bif Nat.blt pc 27 then (bif Nat.beq pc 26 then some (.iload_n 1, 27, [], 0, 0) else none) else (bif Nat.blt pc 28 then (bif Nat.beq pc 27 then some (.iaload, 28, [], 0, 0) else none) else (bif Nat.beq pc 28 then some (.istore_n 3, 29, [], 0, 0) else none)))) else (bif Nat.blt pc 35 then (bif Nat.blt pc 30 then (bif Nat.beq pc 29 then some (.aload_n 0, 30, [], 0, 0) else none) else (bif Nat.blt pc 33 then (bif Nat.beq pc 30 then some (.getfield 32, 33, [1, 7, 47, 0, 0], 0, 0) else none) else (bif Nat.beq pc 33 then some (.bipush 8, 35, [], 8, 0) else none))) else (bif Nat.blt pc 38 then (bif Nat.beq pc 35 then some (.if_icmp .le 11, 38, [46], 0, 0) else none) else (bif Nat.blt pc 39 then (bif Nat.beq pc 38 then some (.aload_n 0, 39, [], 0, 0) else none) else (bif Nat.beq pc 39 then some (.iconst 2, 40, [], 2, 0) else none)))))) else (bif Nat.blt pc 61 then (bif Nat.blt pc 51 then (bif Nat.blt pc 46 then (bif Nat.blt pc 43 then (bif Nat.beq pc 40 then some (.putfield 35, 43, [1, 8, 48, 0, 0], 0, 0) else none) else (bif Nat.beq pc 43 then some (.goto 37, 46, [80], 0, 0) else none)) else (bif Nat.blt pc 47 then (bif Nat.beq pc 46 then some (.iload_n 3, 47, [], 0, 0) else none) else (bif Nat.blt pc 50 then (bif Nat.beq pc 47 then some (.ifCond .ge 21, 50, [68], 0, 0) else none) else (bif Nat.beq pc 50 then some (.aload_n 0, 51, [], 0, 0) else none)))) else (bif Nat.blt pc 56 then (bif Nat.blt pc 52 then (bif Nat.beq pc 51 then some (.iconst 1, 52, [], 1, 0) else none) else (bif Nat.blt pc 55 then (bif Nat.beq pc 52 then some (.putfield 35, 55, [1, 8, 48, 0, 0], 0, 0) else none) else (bif Nat.beq pc 55 then some (.aload_n 0, 56, [], 0, 0) else none))) else (bif Nat.blt pc 57 then (bif Nat.beq pc 56 then some (.iload_n 2, 57, [], 0, 0) else none) else (bif Nat.blt pc 60 then (bif Nat.beq pc 57 then some (.putfield 41, 60, [1, 10, 50, 0, 0], 0, 0) else none) else (bif Nat.beq pc 60 then some (.aload_n 0, 61, [], 0, 0) else none))))) else (bif Nat.blt pc 73 then (bif Nat.blt pc 68 then (bif Nat.blt pc 62 then (bif Nat.beq pc 61 then some (.iload_n 1, 62, [], 0, 0) else none) else (bif Nat.blt pc 65 then (bif Nat.beq pc 62 then some (.putfield 44, 65, [1, 11, 51, 0, 0], 0, 0) else none) else (bif Nat.beq pc 65 then some (.goto 15, 68, [80], 0, 0) else none))) else (bif Nat.blt pc 69 then (bif Nat.beq pc 68 then some (.aload_n 0, 69, [], 0, 0) else none) else (bif Nat.blt pc 72 then (bif Nat.beq pc 69 then some (.getfield 22, 72, [1, 4, 44, 1, 144], 0, 0) else none) else (bif Nat.beq pc 72 then some (.iconst 2, 73, [], 2, 0) else none)))) else (bif Nat.blt pc 76 then (bif Nat.blt pc 74 then (bif Nat.beq pc 73 then some (.iload_n 2, 74, [], 0, 0) else none) else (bif Nat.blt pc 75 then (bif Nat.beq pc 74 then some (.iastore, 75, [], 0, 0) else none) else (bif Nat.beq pc 75 then some (.aload_n 0, 76, [], 0, 0) else none))) else (bif Nat.blt pc 77 then (bif Nat.beq pc 76 then some (.iload_n 3, 77, [], 0, 0) else none) else (bif Nat.blt pc 80 then (bif Nat.beq pc 77 then some (.putfield 25, 80, [1, 5, 45, 0, 0], 0, 0) else none) else (bif Nat.beq pc 80 then some (.return_, 81, [], 0, 0) else none)))))))
def k_X1_perform (pc : Nat) : Option mE := (bif Nat.blt pc 220 then (bif Nat.blt pc 159 then (bif Nat.blt pc 129 then (bif Nat.blt pc 113 then (bif Nat.blt pc 106 then (bif Nat.blt pc 104 then (bif Nat.blt pc 1 then (bif Nat.beq pc 0 then some (.iload_n 1, 1, [], 0, 0) else none) else (bif Nat.beq pc 1 then some (.tableswitch 333 1 22 #[103, 110, 333, 333, 333, 124, 138, 150, 167, 186, 210, 210, 233, 245, 264, 333, 333, 288, 333, 333, 300, 303], 104, [334, 104, 111, 334, 334, 334, 125, 139, 151, 168, 187, 211, 211, 234, 246, 265, 334, 334, 289, 334, 334, 301, 304], 0, 0) else none)) else (bif Nat.blt pc 105 then (bif Nat.beq pc 104 then some (.aload_n 0, 105, [], 0, 0) else none) else (bif Nat.beq pc 105 then some (.iload_n 2, 106, [], 0, 0) else none))) else (bif Nat.blt pc 110 then (bif Nat.blt pc 107 then (bif Nat.beq pc 106 then some (.iload_n 3, 107, [], 0, 0) else none) else (bif Nat.beq pc 107 then some (.invokevirtual 119, 110, [22], 0, 0) else none)) else (bif Nat.blt pc 111 then (bif Nat.beq pc 110 then some (.ireturn, 111, [0], 0, 0) else none) else (bif Nat.blt pc 112 then (bif Nat.beq pc 111 then some (.aload_n 0, 112, [], 0, 0) else none) else (bif Nat.beq pc 112 then some (.iload_n 2, 113, [], 0, 0) else none))))) else (bif Nat.blt pc 121 then (bif Nat.blt pc 115 then (bif Nat.blt pc 114 then (bif Nat.beq pc 113 then some (.iload_n 3, 114, [], 0, 0) else none) else (bif Nat.beq pc 114 then some (.aload_n 0, 115, [], 0, 0) else none)) else (bif Nat.blt pc 118 then (bif Nat.beq pc 115 then some (.getfield 22, 118, [1, 4, 44, 1, 144], 0, 0) else none) else (bif Nat.blt pc 120 then (bif Nat.beq pc 118 then some (.iload 4, 120, [], 0, 0) else none) else (bif Nat.beq pc 120 then some (.iaload, 121, [], 0, 0) else none)))) else (bif Nat.blt pc 125 then (bif Nat.blt pc 124 then (bif Nat.beq pc 121 then some (.invokevirtual 123, 124, [23], 0, 0) else none) else (bif Nat.beq pc 124 then some (.ireturn, 125, [0], 0, 0) else none)) else (bif Nat.blt pc 126 then (bif Nat.beq pc 125 then some (.aload_n 0, 126, [], 0, 0) else none) else (bif Nat.blt pc 128 then (bif Nat.beq pc 126 then some (.iload 4, 128, [], 0, 0) else none) else (bif Nat.beq pc 128 then some (.aload_n 0, 129, [], 0, 0) else none)))))) else (bif Nat.blt pc 145 then (bif Nat.blt pc 138 then (bif Nat.blt pc 133 then (bif Nat.blt pc 132 then (bif Nat.beq pc 129 then some (.getfield 18, 132, [1, 3, 43, 1, 143], 0, 0) else none) else (bif Nat.beq pc 132 then some (.iload_n 2, 133, [], 0, 0) else none)) else (bif Nat.blt pc 134 then (bif Nat.beq pc 133 then some (.iaload, 134, [], 0, 0) else none) else (bif Nat.blt pc 135 then (bif Nat.beq pc 134 then some (.iload_n 3, 135, [], 0, 0) else none) else (bif Nat.beq pc 135 then some (.invokevirtual 127, 138, [24], 0, 0) else none)))) else (bif Nat.blt pc 140 then (bif Nat.blt pc 139 then (bif Nat.beq pc 138 then some (.ireturn, 139, [0], 0, 0) else none) else (bif Nat.beq pc 139 then some (.aload_n 0, 140, [], 0, 0) else none)) else (bif Nat.blt pc 141 then (bif Nat.beq pc 140 then some (.iload_n 2, 141, [], 0, 0) else none) else (bif Nat.blt pc 142 then (bif Nat.beq pc 141 then some (.aload_n 0, 142, [], 0, 0) else none) else (bif Nat.beq pc 142 then some (.getfield 18, 145, [1, 3, 43, 1, 143], 0, 0) else none))))) else (bif Nat.blt pc 152 then (bif Nat.blt pc 147 then (bif Nat.blt pc 146 then (bif Nat.beq pc 145 then some (.iload_n 3, 146, [], 0, 0) else none) else (bif Nat.beq pc 146 then some (.iaload, 147, [], 0, 0) else none)) else (bif Nat.blt pc 150 then (bif Nat.beq pc 147 then some (.invokevirtual 130, 150, [25], 0, 0) else none) else (bif Nat.blt pc 151 then (bif Nat.beq pc 150 then some (.ireturn, 151, [0], 0, 0) else none) else (bif Nat.beq pc 151 then some (.aload_n 0, 152, [], 0, 0) else none)))) else (bif Nat.blt pc 156 then (bif Nat.blt pc 153 then (bif Nat.beq pc 152 then some (.aload_n 0, 153, [], 0, 0) else none) else (bif Nat.beq pc 153 then some (.getfield 18, 156, [1, 3, 43, 1, 143], 0, 0) else none)) else (bif Nat.blt pc 157 then (bif Nat.beq pc 156 then some (.iload_n 2, 157, [], 0, 0) else none) else (bif Nat.blt pc 158 then (bif Nat.beq pc 157 then some (.iaload, 158, [], 0, 0) else none) else (bif Nat.beq pc 158 then some (.aload_n 0, 159, [], 0, 0) else none))))))) else (bif Nat.blt pc 189 then (bif Nat.blt pc 174 then (bif Nat.blt pc 167 then (bif Nat.blt pc 163 then (bif Nat.blt pc 162 then (bif Nat.beq pc 159 then some (.getfield 18, 162, [1, 3, 43, 1, 143], 0, 0) else none) else (bif Nat.beq pc 162 then some (.iload_n 3, 163, [], 0, 0) else none)) else (bif Nat.blt pc 164 then (bif Nat.beq pc 163 then some (.iaload, 164, [], 0, 0) else none) else (bif Nat.beq pc 164 then some (.invokevirtual 133, 167, [26], 0, 0) else none))) else (bif Nat.blt pc 169 then (bif Nat.blt pc 168 then (bif Nat.beq pc 167 then some (.ireturn, 168, [0], 0, 0) else none) else (bif Nat.beq pc 168 then some (.aload_n 0, 169, [], 0, 0) else none)) else (bif Nat.blt pc 170 then (bif Nat.beq pc 169 then some (.iload_n 2, 170, [], 0, 0) else none) else (bif Nat.blt pc 171 then (bif Nat.beq pc 170 then some (.aload_n 0, 171, [], 0, 0) else none) else (bif Nat.beq pc 171 then some (.getfield 18, 174, [1, 3, 43, 1, 143], 0, 0) else none))))) else (bif Nat.blt pc 182 then (bif Nat.blt pc 176 then (bif Nat.blt pc 175 then (bif Nat.beq pc 174 then some (.iload_n 3, 175, [], 0, 0) else none) else (bif Nat.beq pc 175 then some (.iaload, 176, [], 0, 0) else none)) else (bif Nat.blt pc 177 then (bif Nat.beq pc 176 then some (.aload_n 0, 177, [], 0, 0) else none) else (bif Nat.blt pc 180 then (bif Nat.beq pc 177 then some (.getfield 22, 180, [1, 4, 44, 1, 144], 0, 0) else none) else (bif Nat.beq pc 180 then some (.iload 4, 182, [], 0, 0) else none)))) else (bif Nat.blt pc 186 then (bif Nat.blt pc 183 then (bif Nat.beq pc 182 then some (.iaload, 183, [], 0, 0) else none) else (bif Nat.beq pc 183 then some (.invokevirtual 136, 186, [27], 0, 0) else none)) else (bif Nat.blt pc 187 then (bif Nat.beq pc 186 then some (.ireturn, 187, [0], 0, 0) else none) else (bif Nat.blt pc 188 then (bif Nat.beq pc 187 then some (.aload_n 0, 188, [], 0, 0) else none) else (bif Nat.beq pc 188 then some (.aload_n 0, 189, [], 0, 0) else none)))))) else (bif Nat.blt pc 206 then (bif Nat.blt pc 198 then (bif Nat.blt pc 193 then (bif Nat.blt pc 192 then (bif Nat.beq pc 189 then some (.getfield 18, 192, [1, 3, 43, 1, 143], 0, 0) else none) else (bif Nat.beq pc 192 then some (.iload_n 2, 193, [], 0, 0) else none)) else (bif Nat.blt pc 194 then (bif Nat.beq pc 193 then some (.iaload, 194, [], 0, 0) else none) else (bif Nat.blt pc 195 then (bif Nat.beq pc 194 then some (.aload_n 0, 195, [], 0, 0) else none) else (bif Nat.beq pc 195 then some (.getfield 22, 198, [1, 4, 44, 1, 144], 0, 0) else none)))) else (bif Nat.blt pc 201 then (bif Nat.blt pc 200 then (bif Nat.beq pc 198 then some (.iload 4, 200, [], 0, 0) else none) else (bif Nat.beq pc 200 then some (.iaload, 201, [], 0, 0) else none)) else (bif Nat.blt pc 202 then (bif Nat.beq pc 201 then some (.aload_n 0, 202, [], 0, 0) else none) else (bif Nat.blt pc 205 then (bif Nat.beq pc 202 then some (.getfield 18, 205, [1, 3, 43, 1, 143], 0, 0) else none) else (bif Nat.beq pc 205 then some (.iload_n 3, 206, [], 0, 0) else none))))) else (bif Nat.blt pc 213 then (bif Nat.blt pc 210 then (bif Nat.blt pc 207 then (bif Nat.beq pc 206 then some (.iaload, 207, [], 0, 0) else none) else (bif Nat.beq pc 207 then some (.invokevirtual 139, 210, [28], 0, 0) else none)) else (bif Nat.blt pc 211 then (bif Nat.beq pc 210 then some (.ireturn, 211, [0], 0, 0) else none) else (bif Nat.blt pc 212 then (bif Nat.beq pc 211 then some (.aload_n 0, 212, [], 0, 0) else none) else (bif Nat.beq pc 212 then some (.iload_n 2, 213, [], 0, 0) else none)))) else (bif Nat.blt pc 217 then (bif Nat.blt pc 214 then (bif Nat.beq pc 213 then some (.aload_n 0, 214, [], 0, 0) else none) else (bif Nat.beq pc 214 then some (.getfield 18, 217, [1, 3, 43, 1, 143], 0, 0) else none)) else (bif Nat.blt pc 218 then (bif Nat.beq pc 217 then some (.iload_n 3, 218, [], 0, 0) else none) else (bif Nat.blt pc 219 then (bif Nat.beq pc 218 then some (.iaload, 219, [], 0, 0) else none) else (bif Nat.beq pc 219 then some (.iload_n 1, 220, [], 0, 0) else none)))))))) else (bif Nat.blt pc 284 then (bif Nat.blt pc 252 then (bif Nat.blt pc 236 then (bif Nat.blt pc 229 then (bif Nat.blt pc 225 then (bif Nat.blt pc 222 then (bif Nat.beq pc 220 then some (.bipush 12, 222, [], 12, 0) else none) else (bif Nat.beq pc 222 then some (.if_icmp .ne 7, 225, [229], 0, 0) else none)) else (bif Nat.blt pc 226 then (bif Nat.beq pc 225 then some (.iconst 1, 226, [], 1, 0) else none) else (bif Nat.beq pc 226 then some (.goto 4, 229, [230], 0, 0) else none))) else (bif Nat.blt pc 233 then (bif Nat.blt pc 230 then (bif Nat.beq pc 229 then some (.iconst 0, 230, [], 0, 0) else none) else (bif Nat.beq pc 230 then some (.invokevirtual 142, 233, [29], 0, 0) else none)) else (bif Nat.blt pc 234 then (bif Nat.beq pc 233 then some (.ireturn, 234, [0], 0, 0) else none) else (bif Nat.blt pc 235 then (bif Nat.beq pc 234 then some (.aload_n 0, 235, [], 0, 0) else none) else (bif Nat.beq pc 235 then some (.iload_n 2, 236, [], 0, 0) else none))))) else (bif Nat.blt pc 245 then (bif Nat.blt pc 240 then (bif Nat.blt pc 237 then (bif Nat.beq pc 236 then some (.aload_n 0, 237, [], 0, 0) else none) else (bif Nat.beq pc 237 then some (.getfield 18, 240, [1, 3, 43, 1, 143], 0, 0) else none)) else (bif Nat.blt pc 241 then (bif Nat.beq pc 240 then some (.iload_n 3, 241, [], 0, 0) else none) else (bif Nat.blt pc 242 then (bif Nat.beq pc 241 then some (.iaload, 242, [], 0, 0) else none) else (bif Nat.beq pc 242 then some (.invokevirtual 146, 245, [30], 0, 0) else none)))) else (bif Nat.blt pc 247 then (bif Nat.blt pc 246 then (bif Nat.beq pc 245 then some (.ireturn, 246, [0], 0, 0) else none) else (bif Nat.beq pc 246 then some (.aload_n 0, 247, [], 0, 0) else none)) else (bif Nat.blt pc 248 then (bif Nat.beq pc 247 then some (.iload_n 2, 248, [], 0, 0) else none) else (bif Nat.blt pc 249 then (bif Nat.beq pc 248 then some (.aload_n 0, 249, [], 0, 0) else none) else (bif Nat.beq pc 249 then some (.getfield 18, 252, [1, 3, 43, 1, 143], 0, 0) else none)))))) else (bif Nat.blt pc 267 then (bif Nat.blt pc 260 then (bif Nat.blt pc 254 then (bif Nat.blt pc 253 then (bif Nat.beq pc 252 then some (.iload_n 3, 253, [], 0, 0) else none) else (bif Nat.beq pc 253 then some (.iaload, 254, [], 0, 0) else none)) else (bif Nat.blt pc 255 then (bif Nat.beq pc 254 then some (.aload_n 0, 255, [], 0, 0) else none) else (bif Nat.blt pc 258 then (bif Nat.beq pc 255 then some (.getfield 22, 258, [1, 4, 44, 1, 144], 0, 0) else none) else (bif Nat.beq pc 258 then some (.iload 4, 260, [], 0, 0) else none)))) else (bif Nat.blt pc 264 then (bif Nat.blt pc 261 then (bif Nat.beq pc 260 then some (.iaload, 261, [], 0, 0) else none) else (bif Nat.beq pc 261 then some (.invokevirtual 149, 264, [31], 0, 0) else none)) else (bif Nat.blt pc 265 then (bif Nat.beq pc 264 then some (.ireturn, 265, [0], 0, 0) else none) else (bif Nat.blt pc 266 then (bif Nat.beq pc 265 then some (.aload_n 0, 266, [], 0, 0) else none) else (bif Nat.beq pc 266 then some (.aload_n 0, 267, [], 0, 0) else none))))) else (bif Nat.blt pc 276 then (bif Nat.blt pc 271 then (bif Nat.blt pc 270 then (bif Nat.beq pc 267 then some (.getfield 18, 270, [1, 3, 43, 1, 143], 0, 0) else none) else (bif Nat.beq pc 270 then some (.iload_n 2, 271, [], 0, 0) else none)) else (bif Nat.blt pc 272 then (bif Nat.beq pc 271 then some (.iaload, 272, [], 0, 0) else none) else (bif Nat.blt pc 273 then (bif Nat.beq pc 272 then some (.aload_n 0, 273, [], 0, 0) else none) else (bif Nat.beq pc 273 then some (.getfield 22, 276, [1, 4, 44, 1, 144], 0, 0) else none)))) else (bif Nat.blt pc 278 then (bif Nat.blt pc 277 then (bif Nat.beq pc 276 then some (.iload_n 3, 277, [], 0, 0) else none) else (bif Nat.beq pc 277 then some (.iaload, 278, [], 0, 0) else none)) else (bif Nat.blt pc 279 then (bif Nat.beq pc 278 then some (.aload_n 0, 279, [], 0, 0) else none) else (bif Nat.blt pc 282 then (bif Nat.beq pc 279 then some (.getfield 22, 282, [1, 4, 44, 1, 144], 0, 0) else none) else (bif Nat.beq pc 282 then some (.iload 4, 284, [], 0, 0) else none))))))) else (bif Nat.blt pc 315 then (bif Nat.blt pc 300 then (bif Nat.blt pc 291 then (bif Nat.blt pc 288 then (bif Nat.blt pc 285 then (bif Nat.beq pc 284 then some (.iaload, 285, [], 0, 0) else none) else (bif Nat.beq pc 285 then some (.invokevirtual 152, 288, [32], 0, 0) else none)) else (bif Nat.blt pc 289 then (bif Nat.beq pc 288 then some (.ireturn, 289, [0], 0, 0) else none) else (bif Nat.blt pc 290 then (bif Nat.beq pc 289 then some (.aload_n 0, 290, [], 0, 0) else none) else (bif Nat.beq pc 290 then some (.iload_n 2, 291, [], 0, 0) else none)))) else (bif Nat.blt pc 295 then (bif Nat.blt pc 292 then (bif Nat.beq pc 291 then some (.aload_n 0, 292, [], 0, 0) else none) else (bif Nat.beq pc 292 then some (.getfield 22, 295, [1, 4, 44, 1, 144], 0, 0) else none)) else (bif Nat.blt pc 296 then (bif Nat.beq pc 295 then some (.iload_n 3, 296, [], 0, 0) else none) else (bif Nat.blt pc 297 then (bif Nat.beq pc 296 then some (.iaload, 297, [], 0, 0) else none) else (bif Nat.beq pc 297 then some (.invokevirtual 155, 300, [33], 0, 0) else none))))) else (bif Nat.blt pc 306 then (bif Nat.blt pc 303 then (bif Nat.blt pc 301 then (bif Nat.beq pc 300 then some (.ireturn, 301, [0], 0, 0) else none) else (bif Nat.beq pc 301 then some (.bipush 7, 303, [], 7, 0) else none)) else (bif Nat.blt pc 304 then (bif Nat.beq pc 303 then some (.ireturn, 304, [0], 0, 0) else none) else (bif Nat.blt pc 305 then (bif Nat.beq pc 304 then some (.aload_n 0, 305, [], 0, 0) else none) else (bif Nat.beq pc 305 then some (.aload_n 0, 306, [], 0, 0) else none)))) else (bif Nat.blt pc 310 then (bif Nat.blt pc 309 then (bif Nat.beq pc 306 then some (.getfield 18, 309, [1, 3, 43, 1, 143], 0, 0) else none) else (bif Nat.beq pc 309 then some (.iload_n 2, 310, [], 0, 0) else none)) else (bif Nat.blt pc 311 then (bif Nat.beq pc 310 then some (.iaload, 311, [], 0, 0) else none) else (bif Nat.blt pc 312 then (bif Nat.beq pc 311 then some (.aload_n 0, 312, [], 0, 0) else none) else (bif Nat.beq pc 312 then some (.getfield 18, 315, [1, 3, 43, 1, 143], 0, 0) else none)))))) else (bif Nat.blt pc 330 then (bif Nat.blt pc 323 then (bif Nat.blt pc 317 then (bif Nat.blt pc 316 then (bif Nat.beq pc 315 then some (.iload_n 3, 316, [], 0, 0) else none) else (bif Nat.beq pc 316 then some (.iaload, 317, [], 0, 0) else none)) else (bif Nat.blt pc 318 then (bif Nat.beq pc 317 then some (.aload_n 0, 318, [], 0, 0) else none) else (bif Nat.blt pc 321 then (bif Nat.beq pc 318 then some (.getfield 22, 321, [1, 4, 44, 1, 144], 0, 0) else none) else (bif Nat.beq pc 321 then some (.iload 4, 323, [], 0, 0) else none)))) else (bif Nat.blt pc 325 then (bif Nat.blt pc 324 then (bif Nat.beq pc 323 then some (.iaload, 324, [], 0, 0) else none) else (bif Nat.beq pc 324 then some (.aload_n 0, 325, [], 0, 0) else none)) else (bif Nat.blt pc 328 then (bif Nat.beq pc 325 then some (.getfield 22, 328, [1, 4, 44, 1, 144], 0, 0) else none) else (bif Nat.blt pc 329 then (bif Nat.beq pc 328 then some (.iconst 3, 329, [], 3, 0) else none) else (bif Nat.beq pc 329 then some (.iaload, 330, [], 0, 0) else none))))) else (bif Nat.blt pc 337 then (bif Nat.blt pc 334 then (bif Nat.blt pc 333 then (bif Nat.beq pc 330 then some (.invokevirtual 158, 333, [34], 0, 0) else none) else (bif Nat.beq pc 333 then some (.ireturn, 334, [0], 0, 0) else none)) else (bif Nat.blt pc 335 then (bif Nat.beq pc 334 then some (.aload_n 0, 335, [], 0, 0) else none) else (bif Nat.blt pc 336 then (bif Nat.beq pc 335 then some (.iload_n 1, 336, [], 0, 0) else none) else (bif Nat.beq pc 336 then some (.iload_n 2, 337, [], 0, 0) else none)))) else (bif Nat.blt pc 340 then (bif Nat.blt pc 338 then (bif Nat.beq pc 337 then some (.iload_n 3, 338, [], 0, 0) else none) else (bif Nat.beq pc 338 then some (.iload 4, 340, [], 0, 0) else none)) else (bif Nat.blt pc 343 then (bif Nat.beq pc 340 then some (.invokevirtual 161, 343, [20], 0, 0) else none) else (bif Nat.blt pc 344 then (bif Nat.beq pc 343 then some (.iconst 0, 344, [], 0, 0) else none) else (bif Nat.beq pc 344 then some (.ireturn, 345, [0], 0, 0) else none)))))))))
def k_X1_performSafely (pc : Nat) : Option mE := (bif Nat.blt pc 195 then (bif Nat.blt pc 147 then (bif Nat.blt pc 127 then (bif Nat.blt pc 117 then (bif Nat.blt pc 112 then (bif Nat.blt pc 1 then (bif Nat.beq pc 0 then some (.iload_n 1, 1, [], 0, 0) else none) else (bif Nat.beq pc 1 then some (.tableswitch 273 0 23 #[111, 273, 273, 121, 136, 166, 273, 273, 273, 273, 273, 273, 273, 273, 273, 273, 190, 200, 273, 218, 247, 273, 273, 255], 112, [274, 112, 274, 274, 122, 137, 167, 274, 274, 274, 274, 274, 274, 274, 274, 274, 274, 191, 201, 274, 219, 248, 274, 274, 256], 0, 0) else none)) else (bif Nat.blt pc 113 then (bif Nat.beq pc 112 then some (.aload_n 0, 113, [], 0, 0) else none) else (bif Nat.blt pc 116 then (bif Nat.beq pc 113 then some (.getfield 18, 116, [1, 3, 43, 1, 143], 0, 0) else none) else (bif Nat.beq pc 116 then some (.iload_n 2, 117, [], 0, 0) else none)))) else (bif Nat.blt pc 122 then (bif Nat.blt pc 118 then (bif Nat.beq pc 117 then some (.iconst (-1), 118, [], (-1), 0) else none) else (bif Nat.blt pc 119 then (bif Nat.beq pc 118 then some (.iastore, 119, [], 0, 0) else none) else (bif Nat.beq pc 119 then some (.goto 155, 122, [274], 0, 0) else none))) else (bif Nat.blt pc 123 then (bif Nat.beq pc 122 then some (.aload_n 0, 123, [], 0, 0) else none) else (bif Nat.blt pc 126 then (bif Nat.beq pc 123 then some (.getfield 18, 126, [1, 3, 43, 1, 143], 0, 0) else none) else (bif Nat.beq pc 126 then some (.iload_n 2, 127, [], 0, 0) else none))))) else (bif Nat.blt pc 137 then (bif Nat.blt pc 132 then (bif Nat.blt pc 128 then (bif Nat.beq pc 127 then some (.aload_n 0, 128, [], 0, 0) else none) else (bif Nat.blt pc 131 then (bif Nat.beq pc 128 then some (.getfield 18, 131, [1, 3, 43, 1, 143], 0, 0) else none) else (bif Nat.beq pc 131 then some (.iload_n 3, 132, [], 0, 0) else none))) else (bif Nat.blt pc 133 then (bif Nat.beq pc 132 then some (.iaload, 133, [], 0, 0) else none) else (bif Nat.blt pc 134 then (bif Nat.beq pc 133 then some (.iastore, 134, [], 0, 0) else none) else (bif Nat.beq pc 134 then some (.goto 140, 137, [274], 0, 0) else none)))) else (bif Nat.blt pc 142 then (bif Nat.blt pc 138 then (bif Nat.beq pc 137 then some (.aload_n 0, 138, [], 0, 0) else none) else (bif Nat.blt pc 141 then (bif Nat.beq pc 138 then some (.getstatic 165, 141, [500], 0, 0) else none) else (bif Nat.beq pc 141 then some (.iload_n 3, 142, [], 0, 0) else none))) else (bif Nat.blt pc 143 then (bif Nat.beq pc 142 then some (.iaload, 143, [], 0, 0) else none) else (bif Nat.blt pc 144 then (bif Nat.beq pc 143 then some (.aload_n 0, 144, [], 0, 0) else none) else (bif Nat.beq pc 144 then some (.getfield 12, 147, [1, 2, 42, 1, 0], 0, 0) else none)))))) else (bif Nat.blt pc 172 then (bif Nat.blt pc 159 then (bif Nat.blt pc 152 then (bif Nat.blt pc 148 then (bif Nat.beq pc 147 then some (.aload_n 0, 148, [], 0, 0) else none) else (bif Nat.blt pc 151 then (bif Nat.beq pc 148 then some (.getfield 18, 151, [1, 3, 43, 1, 143], 0, 0) else none) else (bif Nat.beq pc 151 then some (.iload_n 2, 152, [], 0, 0) else none))) else (bif Nat.blt pc 153 then (bif Nat.beq pc 152 then some (.iaload, 153, [], 0, 0) else none) else (bif Nat.blt pc 156 then (bif Nat.beq pc 153 then some (.invokevirtual 83, 156, [5], 0, 0) else none) else (bif Nat.beq pc 156 then some (.invokestatic 168, 159, [105], 0, 0) else none)))) else (bif Nat.blt pc 167 then (bif Nat.blt pc 161 then (bif Nat.beq pc 159 then some (.iload 4, 161, [], 0, 0) else none) else (bif Nat.blt pc 164 then (bif Nat.beq pc 161 then some (.invokevirtual 172, 164, [21], 0, 0) else none) else (bif Nat.beq pc 164 then some (.goto 110, 167, [274], 0, 0) else none))) else (bif Nat.blt pc 168 then (bif Nat.beq pc 167 then some (.aload_n 0, 168, [], 0, 0) else none) else (bif Nat.blt pc 169 then (bif Nat.beq pc 168 then some (.aload_n 0, 169, [], 0, 0) else none) else (bif Nat.beq pc 169 then some (.getfield 18, 172, [1, 3, 43, 1, 143], 0, 0) else none))))) else (bif Nat.blt pc 182 then (bif Nat.blt pc 175 then (bif Nat.blt pc 173 then (bif Nat.beq pc 172 then some (.iload_n 2, 173, [], 0, 0) else none) else (bif Nat.blt pc 174 then (bif Nat.beq pc 173 then some (.iaload, 174, [], 0, 0) else none) else (bif Nat.beq pc 174 then some (.iconst (-1), 175, [], (-1), 0) else none))) else (bif Nat.blt pc 178 then (bif Nat.beq pc 175 then some (.if_icmp .ne 7, 178, [182], 0, 0) else none) else (bif Nat.blt pc 179 then (bif Nat.beq pc 178 then some (.iconst 1, 179, [], 1, 0) else none) else (bif Nat.beq pc 179 then some (.goto 4, 182, [183], 0, 0) else none)))) else (bif Nat.blt pc 188 then (bif Nat.blt pc 183 then (bif Nat.beq pc 182 then some (.iconst 0, 183, [], 0, 0) else none) else (bif Nat.blt pc 185 then (bif Nat.beq pc 183 then some (.iload 4, 185, [], 0, 0) else none) else (bif Nat.beq pc 185 then some (.invokevirtual 172, 188, [21], 0, 0) else none))) else (bif Nat.blt pc 191 then (bif Nat.beq pc 188 then some (.goto 86, 191, [274], 0, 0) else none) else (bif Nat.blt pc 192 then (bif Nat.beq pc 191 then some (.aload_n 0, 192, [], 0, 0) else none) else (bif Nat.beq pc 192 then some (.getfield 22, 195, [1, 4, 44, 1, 144], 0, 0) else none))))))) else (bif Nat.blt pc 230 then (bif Nat.blt pc 212 then (bif Nat.blt pc 202 then (bif Nat.blt pc 197 then (bif Nat.blt pc 196 then (bif Nat.beq pc 195 then some (.iload_n 2, 196, [], 0, 0) else none) else (bif Nat.beq pc 196 then some (.iload_n 3, 197, [], 0, 0) else none)) else (bif Nat.blt pc 198 then (bif Nat.beq pc 197 then some (.iastore, 198, [], 0, 0) else none) else (bif Nat.blt pc 201 then (bif Nat.beq pc 198 then some (.goto 76, 201, [274], 0, 0) else none) else (bif Nat.beq pc 201 then some (.aload_n 0, 202, [], 0, 0) else none)))) else (bif Nat.blt pc 207 then (bif Nat.blt pc 205 then (bif Nat.beq pc 202 then some (.getfield 22, 205, [1, 4, 44, 1, 144], 0, 0) else none) else (bif Nat.blt pc 206 then (bif Nat.beq pc 205 then some (.iload_n 2, 206, [], 0, 0) else none) else (bif Nat.beq pc 206 then some (.dup2, 207, [], 0, 0) else none))) else (bif Nat.blt pc 208 then (bif Nat.beq pc 207 then some (.iaload, 208, [], 0, 0) else none) else (bif Nat.blt pc 209 then (bif Nat.beq pc 208 then some (.aload_n 0, 209, [], 0, 0) else none) else (bif Nat.beq pc 209 then some (.getfield 22, 212, [1, 4, 44, 1, 144], 0, 0) else none))))) else (bif Nat.blt pc 220 then (bif Nat.blt pc 215 then (bif Nat.blt pc 213 then (bif Nat.beq pc 212 then some (.iload_n 3, 213, [], 0, 0) else none) else (bif Nat.blt pc 214 then (bif Nat.beq pc 213 then some (.iaload, 214, [], 0, 0) else none) else (bif Nat.beq pc 214 then some (.iadd, 215, [], 0, 0) else none))) else (bif Nat.blt pc 216 then (bif Nat.beq pc 215 then some (.iastore, 216, [], 0, 0) else none) else (bif Nat.blt pc 219 then (bif Nat.beq pc 216 then some (.goto 58, 219, [274], 0, 0) else none) else (bif Nat.beq pc 219 then some (.aload_n 0, 220, [], 0, 0) else none)))) else (bif Nat.blt pc 225 then (bif Nat.blt pc 221 then (bif Nat.beq pc 220 then some (.aload_n 0, 221, [], 0, 0) else none) else (bif Nat.blt pc 224 then (bif Nat.beq pc 221 then some (.getfield 22, 224, [1, 4, 44, 1, 144], 0, 0) else none) else (bif Nat.beq pc 224 then some (.iload_n 2, 225, [], 0, 0) else none))) else (bif Nat.blt pc 226 then (bif Nat.beq pc 225 then some (.iaload, 226, [], 0, 0) else none) else (bif Nat.blt pc 227 then (bif Nat.beq pc 226 then some (.aload_n 0, 227, [], 0, 0) else none) else (bif Nat.beq pc 227 then some (.getfield 22, 230, [1, 4, 44, 1, 144], 0, 0) else none)))))) else (bif Nat.blt pc 253 then (bif Nat.blt pc 240 then (bif Nat.blt pc 235 then (bif Nat.blt pc 231 then (bif Nat.beq pc 230 then some (.iload_n 3, 231, [], 0, 0) else none) else (bif Nat.blt pc 232 then (bif Nat.beq pc 231 then some (.iaload, 232, [], 0, 0) else none) else (bif Nat.beq pc 232 then some (.if_icmp .ge 7, 235, [239], 0, 0) else none))) else (bif Nat.blt pc 236 then (bif Nat.beq pc 235 then some (.iconst 1, 236, [], 1, 0) else none) else (bif Nat.blt pc 239 then (bif Nat.beq pc 236 then some (.goto 4, 239, [240], 0, 0) else none) else (bif Nat.beq pc 239 then some (.iconst 0, 240, [], 0, 0) else none)))) else (bif Nat.blt pc 248 then (bif Nat.blt pc 242 then (bif Nat.beq pc 240 then some (.iload 4, 242, [], 0, 0) else none) else (bif Nat.blt pc 245 then (bif Nat.beq pc 242 then some (.invokevirtual 172, 245, [21], 0, 0) else none) else (bif Nat.beq pc 245 then some (.goto 29, 248, [274], 0, 0) else none))) else (bif Nat.blt pc 249 then (bif Nat.beq pc 248 then some (.aload_n 0, 249, [], 0, 0) else none) else (bif Nat.blt pc 250 then (bif Nat.beq pc 249 then some (.iload_n 2, 250, [], 0, 0) else none) else (bif Nat.beq pc 250 then some (.putfield 25, 253, [1, 5, 45, 0, 0], 0, 0) else none))))) else (bif Nat.blt pc 263 then (bif Nat.blt pc 258 then (bif Nat.blt pc 256 then (bif Nat.beq pc 253 then some (.goto 21, 256, [274], 0, 0) else none) else (bif Nat.blt pc 257 then (bif Nat.beq pc 256 then some (.aload_n 0, 257, [], 0, 0) else none) else (bif Nat.beq pc 257 then some (.iconst 0, 258, [], 0, 0) else none))) else (bif Nat.blt pc 261 then (bif Nat.beq pc 258 then some (.putfield 35, 261, [1, 8, 48, 0, 0], 0, 0) else none) else (bif Nat.blt pc 262 then (bif Nat.beq pc 261 then some (.aload_n 0, 262, [], 0, 0) else none) else (bif Nat.beq pc 262 then some (.aload_n 0, 263, [], 0, 0) else none)))) else (bif Nat.blt pc 268 then (bif Nat.blt pc 266 then (bif Nat.beq pc 263 then some (.getfield 22, 266, [1, 4, 44, 1, 144], 0, 0) else none) else (bif Nat.blt pc 267 then (bif Nat.beq pc 266 then some (.iload_n 2, 267, [], 0, 0) else none) else (bif Nat.beq pc 267 then some (.iaload, 268, [], 0, 0) else none))) else (bif Nat.blt pc 271 then (bif Nat.beq pc 268 then some (.putfield 38, 271, [1, 9, 49, 0, 0], 0, 0) else none) else (bif Nat.blt pc 274 then (bif Nat.beq pc 271 then some (.goto 3, 274, [274], 0, 0) else none) else (bif Nat.beq pc 274 then some (.return_, 275, [], 0, 0) else none))))))))
def k_X1_jumpIf (pc : Nat) : Option mE := (bif Nat.blt pc 5 then (bif Nat.blt pc 1 then (bif Nat.beq pc 0 then some (.iload_n 1, 1, [], 0, 0) else none) else (bif Nat.blt pc 4 then (bif Nat.beq pc 1 then some (.ifCond .eq 8, 4, [9], 0, 0) else none) else (bif Nat.beq pc 4 then some (.aload_n 0, 5, [], 0, 0) else none))) else (bif Nat.blt pc 6 then (bif Nat.beq pc 5 then some (.iload_n 2, 6, [], 0, 0) else none) else (bif Nat.blt pc 9 then (bif Nat.beq pc 6 then some (.putfield 25, 9, [1, 5, 45, 0, 0], 0, 0) else none) else (bif Nat.beq pc 9 then some (.return_, 10, [], 0, 0) else none))))
def k_X1_makeThing (pc : Nat) : Option mE := (bif Nat.blt pc 17 then (bif Nat.blt pc 10 then (bif Nat.blt pc 4 then (bif Nat.blt pc 1 then (bif Nat.beq pc 0 then some (.aload_n 0, 1, [], 0, 0) else none) else (bif Nat.beq pc 1 then some (.getfield 12, 4, [1, 2, 42, 1, 0], 0, 0) else none)) else (bif Nat.blt pc 7 then (bif Nat.beq pc 4 then some (.invokevirtual 176, 7, [2], 0, 0) else none) else (bif Nat.beq pc 7 then some (.ifCond .eq 6, 10, [13], 0, 0) else none))) else (bif Nat.blt pc 13 then (bif Nat.blt pc 12 then (bif Nat.beq pc 10 then some (.bipush 8, 12, [], 8, 0) else none) else (bif Nat.beq pc 12 then some (.ireturn, 13, [0], 0, 0) else none)) else (bif Nat.blt pc 14 then (bif Nat.beq pc 13 then some (.aload_n 0, 14, [], 0, 0) else none) else (bif Nat.beq pc 14 then some (.getfield 18, 17, [1, 3, 43, 1, 143], 0, 0) else none)))) else (bif Nat.blt pc 23 then (bif Nat.blt pc 19 then (bif Nat.blt pc 18 then (bif Nat.beq pc 17 then some (.iload_n 1, 18, [], 0, 0) else none) else (bif Nat.beq pc 18 then some (.aload_n 0, 19, [], 0, 0) else none)) else (bif Nat.blt pc 22 then (bif Nat.beq pc 19 then some (.getfield 12, 22, [1, 2, 42, 1, 0], 0, 0) else none) else (bif Nat.beq pc 22 then some (.iload_n 2, 23, [], 0, 0) else none))) else (bif Nat.blt pc 27 then (bif Nat.blt pc 24 then (bif Nat.beq pc 23 then some (.iconst 0, 24, [], 0, 0) else none) else (bif Nat.beq pc 24 then some (.invokevirtual 180, 27, [3], 0, 0) else none)) else (bif Nat.blt pc 28 then (bif Nat.beq pc 27 then some (.iastore, 28, [], 0, 0) else none) else (bif Nat.blt pc 29 then (bif Nat.beq pc 28 then some (.iconst 0, 29, [], 0, 0) else none) else (bif Nat.beq pc 29 then some (.ireturn, 30, [0], 0, 0) else none))))))
def k_X1_makeArray (pc : Nat) : Option mE := (bif Nat.blt pc 24 then (bif Nat.blt pc 9 then (bif Nat.blt pc 5 then (bif Nat.blt pc 1 then (bif Nat.beq pc 0 then some (.iload_n 3, 1, [], 0, 0) else none) else (bif Nat.blt pc 4 then (bif Nat.beq pc 1 then some (.ifCond .ge 5, 4, [6], 0, 0) else none) else (bif Nat.beq pc 4 then some (.iconst 5, 5, [], 5, 0) else none))) else (bif Nat.blt pc 6 then (bif Nat.beq pc 5 then some (.ireturn, 6, [0], 0, 0) else none) else (bif Nat.blt pc 7 then (bif Nat.beq pc 6 then some (.iload_n 3, 7, [], 0, 0) else none) else (bif Nat.beq pc 7 then some (.bipush 20, 9, [], 20, 0) else none)))) else (bif Nat.blt pc 16 then (bif Nat.blt pc 12 then (bif Nat.beq pc 9 then some (.if_icmp .gt 13, 12, [22], 0, 0) else none) else (bif Nat.blt pc 13 then (bif Nat.beq pc 12 then some (.aload_n 0, 13, [], 0, 0) else none) else (bif Nat.beq pc 13 then some (.getfield 12, 16, [1, 2, 42, 1, 0], 0, 0) else none))) else (bif Nat.blt pc 19 then (bif Nat.beq pc 16 then some (.invokevirtual 176, 19, [2], 0, 0) else none) else (bif Nat.blt pc 22 then (bif Nat.beq pc 19 then some (.ifCond .eq 6, 22, [25], 0, 0) else none) else (bif Nat.beq pc 22 then some (.bipush 8, 24, [], 8, 0) else none))))) else (bif Nat.blt pc 34 then (bif Nat.blt pc 29 then (bif Nat.blt pc 25 then (bif Nat.beq pc 24 then some (.ireturn, 25, [0], 0, 0) else none) else (bif Nat.blt pc 26 then (bif Nat.beq pc 25 then some (.aload_n 0, 26, [], 0, 0) else none) else (bif Nat.beq pc 26 then some (.getfield 18, 29, [1, 3, 43, 1, 143], 0, 0) else none))) else (bif Nat.blt pc 30 then (bif Nat.beq pc 29 then some (.iload_n 1, 30, [], 0, 0) else none) else (bif Nat.blt pc 31 then (bif Nat.beq pc 30 then some (.aload_n 0, 31, [], 0, 0) else none) else (bif Nat.beq pc 31 then some (.getfield 12, 34, [1, 2, 42, 1, 0], 0, 0) else none)))) else (bif Nat.blt pc 39 then (bif Nat.blt pc 35 then (bif Nat.beq pc 34 then some (.iload_n 2, 35, [], 0, 0) else none) else (bif Nat.blt pc 36 then (bif Nat.beq pc 35 then some (.iload_n 3, 36, [], 0, 0) else none) else (bif Nat.beq pc 36 then some (.invokevirtual 180, 39, [3], 0, 0) else none))) else (bif Nat.blt pc 40 then (bif Nat.beq pc 39 then some (.iastore, 40, [], 0, 0) else none) else (bif Nat.blt pc 41 then (bif Nat.beq pc 40 then some (.iconst 0, 41, [], 0, 0) else none) else (bif Nat.beq pc 41 then some (.ireturn, 42, [0], 0, 0) else none))))))
def k_X1_castInto (pc : Nat) : Option mE := (bif Nat.blt pc 13 then (bif Nat.blt pc 3 then (bif Nat.blt pc 1 then (bif Nat.beq pc 0 then some (.aload_n 0, 1, [], 0, 0) else none) else (bif Nat.blt pc 2 then (bif Nat.beq pc 1 then some (.iload_n 2, 2, [], 0, 0) else none) else (bif Nat.beq pc 2 then some (.iload_n 3, 3, [], 0, 0) else none))) else (bif Nat.blt pc 8 then (bif Nat.blt pc 6 then (bif Nat.beq pc 3 then some (.invokevirtual 183, 6, [35], 0, 0) else none) else (bif Nat.beq pc 6 then some (.istore 4, 8, [], 0, 0) else none)) else (bif Nat.blt pc 10 then (bif Nat.beq pc 8 then some (.iload 4, 10, [], 0, 0) else none) else (bif Nat.beq pc 10 then some (.ifCond .ne 10, 13, [20], 0, 0) else none)))) else (bif Nat.blt pc 18 then (bif Nat.blt pc 14 then (bif Nat.beq pc 13 then some (.aload_n 0, 14, [], 0, 0) else none) else (bif Nat.blt pc 17 then (bif Nat.beq pc 14 then some (.getfield 18, 17, [1, 3, 43, 1, 143], 0, 0) else none) else (bif Nat.beq pc 17 then some (.iload_n 1, 18, [], 0, 0) else none))) else (bif Nat.blt pc 20 then (bif Nat.blt pc 19 then (bif Nat.beq pc 18 then some (.iload_n 2, 19, [], 0, 0) else none) else (bif Nat.beq pc 19 then some (.iastore, 20, [], 0, 0) else none)) else (bif Nat.blt pc 22 then (bif Nat.beq pc 20 then some (.iload 4, 22, [], 0, 0) else none) else (bif Nat.beq pc 22 then some (.ireturn, 23, [0], 0, 0) else none)))))
def k_X1_getNext (pc : Nat) : Option mE := (bif Nat.blt pc 12 then (bif Nat.blt pc 6 then (bif Nat.blt pc 2 then (bif Nat.blt pc 1 then (bif Nat.beq pc 0 then some (.aload_n 0, 1, [], 0, 0) else none) else (bif Nat.beq pc 1 then some (.iload_n 2, 2, [], 0, 0) else none)) else (bif Nat.blt pc 3 then (bif Nat.beq pc 2 then some (.iconst 1, 3, [], 1, 0) else none) else (bif Nat.beq pc 3 then some (.invokevirtual 186, 6, [36], 0, 0) else none))) else (bif Nat.blt pc 8 then (bif Nat.blt pc 7 then (bif Nat.beq pc 6 then some (.istore_n 3, 7, [], 0, 0) else none) else (bif Nat.beq pc 7 then some (.iload_n 3, 8, [], 0, 0) else none)) else (bif Nat.blt pc 11 then (bif Nat.beq pc 8 then some (.ifCond .ne 17, 11, [25], 0, 0) else none) else (bif Nat.beq pc 11 then some (.aload_n 0, 12, [], 0, 0) else none)))) else (bif Nat.blt pc 20 then (bif Nat.blt pc 16 then (bif Nat.blt pc 15 then (bif Nat.beq pc 12 then some (.getfield 18, 15, [1, 3, 43, 1, 143], 0, 0) else none) else (bif Nat.beq pc 15 then some (.iload_n 1, 16, [], 0, 0) else none)) else (bif Nat.blt pc 17 then (bif Nat.beq pc 16 then some (.aload_n 0, 17, [], 0, 0) else none) else (bif Nat.beq pc 17 then some (.getfield 12, 20, [1, 2, 42, 1, 0], 0, 0) else none))) else (bif Nat.blt pc 24 then (bif Nat.blt pc 21 then (bif Nat.beq pc 20 then some (.iload_n 2, 21, [], 0, 0) else none) else (bif Nat.beq pc 21 then some (.invokevirtual 189, 24, [7], 0, 0) else none)) else (bif Nat.blt pc 25 then (bif Nat.beq pc 24 then some (.iastore, 25, [], 0, 0) else none) else (bif Nat.blt pc 26 then (bif Nat.beq pc 25 then some (.iload_n 3, 26, [], 0, 0) else none) else (bif Nat.beq pc 26 then some (.ireturn, 27, [0], 0, 0) else none))))))
def k_X1_setNext (pc : Nat) : Option mE := (bif Nat.blt pc 11 then (bif Nat.blt pc 3 then (bif Nat.blt pc 1 then (bif Nat.beq pc 0 then some (.aload_n 0, 1, [], 0, 0) else none) else (bif Nat.blt pc 2 then (bif Nat.beq pc 1 then some (.iload_n 1, 2, [], 0, 0) else none) else (bif Nat.beq pc 2 then some (.iconst 1, 3, [], 1, 0) else none))) else (bif Nat.blt pc 7 then (bif Nat.blt pc 6 then (bif Nat.beq pc 3 then some (.invokevirtual 186, 6, [36], 0, 0) else none) else (bif Nat.beq pc 6 then some (.istore_n 3, 7, [], 0, 0) else none)) else (bif Nat.blt pc 8 then (bif Nat.beq pc 7 then some (.iload_n 3, 8, [], 0, 0) else none) else (bif Nat.beq pc 8 then some (.ifCond .ne 12, 11, [20], 0, 0) else none)))) else (bif Nat.blt pc 16 then (bif Nat.blt pc 12 then (bif Nat.beq pc 11 then some (.aload_n 0, 12, [], 0, 0) else none) else (bif Nat.blt pc 15 then (bif Nat.beq pc 12 then some (.getfield 12, 15, [1, 2, 42, 1, 0], 0, 0) else none) else (bif Nat.beq pc 15 then some (.iload_n 1, 16, [], 0, 0) else none))) else (bif Nat.blt pc 20 then (bif Nat.blt pc 17 then (bif Nat.beq pc 16 then some (.iload_n 2, 17, [], 0, 0) else none) else (bif Nat.beq pc 17 then some (.invokevirtual 192, 20, [8], 0, 0) else none)) else (bif Nat.blt pc 21 then (bif Nat.beq pc 20 then some (.iload_n 3, 21, [], 0, 0) else none) else (bif Nat.beq pc 21 then some (.ireturn, 22, [0], 0, 0) else none)))))
def k_X1_getCell (pc : Nat) : Option mE := (bif Nat.blt pc 16 then (bif Nat.blt pc 5 then (bif Nat.blt pc 2 then (bif Nat.blt pc 1 then (bif Nat.beq pc 0 then some (.aload_n 0, 1, [], 0, 0) else none) else (bif Nat.beq pc 1 then some (.iload_n 2, 2, [], 0, 0) else none)) else (bif Nat.blt pc 4 then (bif Nat.beq pc 2 then some (.bipush 8, 4, [], 8, 0) else none) else (bif Nat.beq pc 4 then some (.iload_n 3, 5, [], 0, 0) else none))) else (bif Nat.blt pc 10 then (bif Nat.blt pc 8 then (bif Nat.beq pc 5 then some (.invokevirtual 194, 8, [37], 0, 0) else none) else (bif Nat.beq pc 8 then some (.istore 4, 10, [], 0, 0) else none)) else (bif Nat.blt pc 12 then (bif Nat.beq pc 10 then some (.iload 4, 12, [], 0, 0) else none) else (bif Nat.blt pc 15 then (bif Nat.beq pc 12 then some (.ifCond .ne 18, 15, [30], 0, 0) else none) else (bif Nat.beq pc 15 then some (.aload_n 0, 16, [], 0, 0) else none))))) else (bif Nat.blt pc 25 then (bif Nat.blt pc 20 then (bif Nat.blt pc 19 then (bif Nat.beq pc 16 then some (.getfield 18, 19, [1, 3, 43, 1, 143], 0, 0) else none) else (bif Nat.beq pc 19 then some (.iload_n 1, 20, [], 0, 0) else none)) else (bif Nat.blt pc 21 then (bif Nat.beq pc 20 then some (.aload_n 0, 21, [], 0, 0) else none) else (bif Nat.blt pc 24 then (bif Nat.beq pc 21 then some (.getfield 12, 24, [1, 2, 42, 1, 0], 0, 0) else none) else (bif Nat.beq pc 24 then some (.iload_n 2, 25, [], 0, 0) else none)))) else (bif Nat.blt pc 29 then (bif Nat.blt pc 26 then (bif Nat.beq pc 25 then some (.iload_n 3, 26, [], 0, 0) else none) else (bif Nat.beq pc 26 then some (.invokevirtual 197, 29, [9], 0, 0) else none)) else (bif Nat.blt pc 30 then (bif Nat.beq pc 29 then some (.iastore, 30, [], 0, 0) else none) else (bif Nat.blt pc 32 then (bif Nat.beq pc 30 then some (.iload 4, 32, [], 0, 0) else none) else (bif Nat.beq pc 32 then some (.ireturn, 33, [0], 0, 0) else none))))))
def k_X1_setCell (pc : Nat) : Option mE := (bif Nat.blt pc 37 then (bif Nat.blt pc 17 then (bif Nat.blt pc 9 then (bif Nat.blt pc 2 then (bif Nat.blt pc 1 then (bif Nat.beq pc 0 then some (.aload_n 0, 1, [], 0, 0) else none) else (bif Nat.beq pc 1 then some (.iload_n 1, 2, [], 0, 0) else none)) else (bif Nat.blt pc 4 then (bif Nat.beq pc 2 then some (.bipush 8, 4, [], 8, 0) else none) else (bif Nat.blt pc 7 then (bif Nat.beq pc 4 then some (.invokevirtual 183, 7, [35], 0, 0) else none) else (bif Nat.beq pc 7 then some (.istore 4, 9, [], 0, 0) else none)))) else (bif Nat.blt pc 14 then (bif Nat.blt pc 11 then (bif Nat.beq pc 9 then some (.iload 4, 11, [], 0, 0) else none) else (bif Nat.beq pc 11 then some (.ifCond .ne 11, 14, [22], 0, 0) else none)) else (bif Nat.blt pc 15 then (bif Nat.beq pc 14 then some (.aload_n 0, 15, [], 0, 0) else none) else (bif Nat.blt pc 16 then (bif Nat.beq pc 15 then some (.iload_n 3, 16, [], 0, 0) else none) else (bif Nat.beq pc 16 then some (.iconst 1, 17, [], 1, 0) else none))))) else (bif Nat.blt pc 28 then (bif Nat.blt pc 22 then (bif Nat.blt pc 20 then (bif Nat.beq pc 17 then some (.invokevirtual 183, 20, [35], 0, 0) else none) else (bif Nat.beq pc 20 then some (.istore 4, 22, [], 0, 0) else none)) else (bif Nat.blt pc 24 then (bif Nat.beq pc 22 then some (.iload 4, 24, [], 0, 0) else none) else (bif Nat.blt pc 27 then (bif Nat.beq pc 24 then some (.ifCond .ne 13, 27, [37], 0, 0) else none) else (bif Nat.beq pc 27 then some (.aload_n 0, 28, [], 0, 0) else none)))) else (bif Nat.blt pc 31 then (bif Nat.blt pc 29 then (bif Nat.beq pc 28 then some (.iload_n 1, 29, [], 0, 0) else none) else (bif Nat.beq pc 29 then some (.bipush 8, 31, [], 8, 0) else none)) else (bif Nat.blt pc 32 then (bif Nat.beq pc 31 then some (.iload_n 2, 32, [], 0, 0) else none) else (bif Nat.blt pc 35 then (bif Nat.beq pc 32 then some (.invokevirtual 194, 35, [37], 0, 0) else none) else (bif Nat.beq pc 35 then some (.istore 4, 37, [], 0, 0) else none)))))) else (bif Nat.blt pc 57 then (bif Nat.blt pc 47 then (bif Nat.blt pc 42 then (bif Nat.blt pc 39 then (bif Nat.beq pc 37 then some (.iload 4, 39, [], 0, 0) else none) else (bif Nat.beq pc 39 then some (.ifCond .ne 18, 42, [57], 0, 0) else none)) else (bif Nat.blt pc 43 then (bif Nat.beq pc 42 then some (.aload_n 0, 43, [], 0, 0) else none) else (bif Nat.blt pc 46 then (bif Nat.beq pc 43 then some (.getfield 12, 46, [1, 2, 42, 1, 0], 0, 0) else none) else (bif Nat.beq pc 46 then some (.iload_n 1, 47, [], 0, 0) else none)))) else (bif Nat.blt pc 51 then (bif Nat.blt pc 48 then (bif Nat.beq pc 47 then some (.iload_n 3, 48, [], 0, 0) else none) else (bif Nat.beq pc 48 then some (.invokevirtual 200, 51, [11], 0, 0) else none)) else (bif Nat.blt pc 54 then (bif Nat.beq pc 51 then some (.ifCond .ne 6, 54, [57], 0, 0) else none) else (bif Nat.blt pc 55 then (bif Nat.beq pc 54 then some (.iconst 4, 55, [], 4, 0) else none) else (bif Nat.beq pc 55 then some (.istore 4, 57, [], 0, 0) else none))))) else (bif Nat.blt pc 67 then (bif Nat.blt pc 62 then (bif Nat.blt pc 59 then (bif Nat.beq pc 57 then some (.iload 4, 59, [], 0, 0) else none) else (bif Nat.beq pc 59 then some (.ifCond .ne 13, 62, [72], 0, 0) else none)) else (bif Nat.blt pc 63 then (bif Nat.beq pc 62 then some (.aload_n 0, 63, [], 0, 0) else none) else (bif Nat.blt pc 66 then (bif Nat.beq pc 63 then some (.getfield 12, 66, [1, 2, 42, 1, 0], 0, 0) else none) else (bif Nat.beq pc 66 then some (.iload_n 1, 67, [], 0, 0) else none)))) else (bif Nat.blt pc 69 then (bif Nat.blt pc 68 then (bif Nat.beq pc 67 then some (.iload_n 2, 68, [], 0, 0) else none) else (bif Nat.beq pc 68 then some (.iload_n 3, 69, [], 0, 0) else none)) else (bif Nat.blt pc 72 then (bif Nat.beq pc 69 then some (.invokevirtual 203, 72, [10], 0, 0) else none) else (bif Nat.blt pc 74 then (bif Nat.beq pc 72 then some (.iload 4, 74, [], 0, 0) else none) else (bif Nat.beq pc 74 then some (.ireturn, 75, [0], 0, 0) else none)))))))
def k_X1_askFace (pc : Nat) : Option mE := (bif Nat.blt pc 46 then (bif Nat.blt pc 21 then (bif Nat.blt pc 8 then (bif Nat.blt pc 2 then (bif Nat.blt pc 1 then (bif Nat.beq pc 0 then some (.aload_n 0, 1, [], 0, 0) else none) else (bif Nat.beq pc 1 then some (.iload_n 2, 2, [], 0, 0) else none)) else (bif Nat.blt pc 3 then (bif Nat.beq pc 2 then some (.iconst 5, 3, [], 5, 0) else none) else (bif Nat.blt pc 6 then (bif Nat.beq pc 3 then some (.invokevirtual 186, 6, [36], 0, 0) else none) else (bif Nat.beq pc 6 then some (.istore 4, 8, [], 0, 0) else none)))) else (bif Nat.blt pc 14 then (bif Nat.blt pc 10 then (bif Nat.beq pc 8 then some (.iload 4, 10, [], 0, 0) else none) else (bif Nat.blt pc 13 then (bif Nat.beq pc 10 then some (.ifCond .ne 73, 13, [83], 0, 0) else none) else (bif Nat.beq pc 13 then some (.aload_n 0, 14, [], 0, 0) else none))) else (bif Nat.blt pc 17 then (bif Nat.beq pc 14 then some (.getfield 12, 17, [1, 2, 42, 1, 0], 0, 0) else none) else (bif Nat.blt pc 18 then (bif Nat.beq pc 17 then some (.iload_n 2, 18, [], 0, 0) else none) else (bif Nat.beq pc 18 then some (.invokevirtual 83, 21, [5], 0, 0) else none))))) else (bif Nat.blt pc 32 then (bif Nat.blt pc 26 then (bif Nat.blt pc 22 then (bif Nat.beq pc 21 then some (.iconst 2, 22, [], 2, 0) else none) else (bif Nat.blt pc 25 then (bif Nat.beq pc 22 then some (.if_icmp .ne 7, 25, [29], 0, 0) else none) else (bif Nat.beq pc 25 then some (.iconst 1, 26, [], 1, 0) else none))) else (bif Nat.blt pc 29 then (bif Nat.beq pc 26 then some (.goto 4, 29, [30], 0, 0) else none) else (bif Nat.blt pc 30 then (bif Nat.beq pc 29 then some (.iconst 0, 30, [], 0, 0) else none) else (bif Nat.beq pc 30 then some (.istore 5, 32, [], 0, 0) else none)))) else (bif Nat.blt pc 39 then (bif Nat.blt pc 34 then (bif Nat.beq pc 32 then some (.iload 5, 34, [], 0, 0) else none) else (bif Nat.blt pc 37 then (bif Nat.beq pc 34 then some (.ifCond .eq 8, 37, [42], 0, 0) else none) else (bif Nat.beq pc 37 then some (.bipush 100, 39, [], 100, 0) else none))) else (bif Nat.blt pc 42 then (bif Nat.beq pc 39 then some (.goto 6, 42, [45], 0, 0) else none) else (bif Nat.blt pc 45 then (bif Nat.beq pc 42 then some (.sipush 200, 45, [], 200, 0) else none) else (bif Nat.beq pc 45 then some (.iload_n 2, 46, [], 0, 0) else none)))))) else (bif Nat.blt pc 64 then (bif Nat.blt pc 53 then (bif Nat.blt pc 49 then (bif Nat.blt pc 47 then (bif Nat.beq pc 46 then some (.iadd, 47, [], 0, 0) else none) else (bif Nat.beq pc 47 then some (.istore 6, 49, [], 0, 0) else none)) else (bif Nat.blt pc 50 then (bif Nat.beq pc 49 then some (.iconst 2, 50, [], 2, 0) else none) else (bif Nat.blt pc 52 then (bif Nat.beq pc 50 then some (.iload 6, 52, [], 0, 0) else none) else (bif Nat.beq pc 52 then some (.imul, 53, [], 0, 0) else none)))) else (bif Nat.blt pc 59 then (bif Nat.blt pc 55 then (bif Nat.beq pc 53 then some (.iload 5, 55, [], 0, 0) else none) else (bif Nat.blt pc 58 then (bif Nat.beq pc 55 then some (.ifCond .eq 7, 58, [62], 0, 0) else none) else (bif Nat.beq pc 58 then some (.iconst 0, 59, [], 0, 0) else none))) else (bif Nat.blt pc 62 then (bif Nat.beq pc 59 then some (.goto 4, 62, [63], 0, 0) else none) else (bif Nat.blt pc 63 then (bif Nat.beq pc 62 then some (.iconst 1, 63, [], 1, 0) else none) else (bif Nat.beq pc 63 then some (.iadd, 64, [], 0, 0) else none))))) else (bif Nat.blt pc 75 then (bif Nat.blt pc 70 then (bif Nat.blt pc 66 then (bif Nat.beq pc 64 then some (.istore 7, 66, [], 0, 0) else none) else (bif Nat.blt pc 67 then (bif Nat.beq pc 66 then some (.aload_n 0, 67, [], 0, 0) else none) else (bif Nat.beq pc 67 then some (.getfield 22, 70, [1, 4, 44, 1, 144], 0, 0) else none))) else (bif Nat.blt pc 71 then (bif Nat.beq pc 70 then some (.iload_n 1, 71, [], 0, 0) else none) else (bif Nat.blt pc 72 then (bif Nat.beq pc 71 then some (.iload_n 3, 72, [], 0, 0) else none) else (bif Nat.beq pc 72 then some (.ifCond .eq 8, 75, [80], 0, 0) else none)))) else (bif Nat.blt pc 82 then (bif Nat.blt pc 77 then (bif Nat.beq pc 75 then some (.iload 7, 77, [], 0, 0) else none) else (bif Nat.blt pc 80 then (bif Nat.beq pc 77 then some (.goto 5, 80, [82], 0, 0) else none) else (bif Nat.beq pc 80 then some (.iload 6, 82, [], 0, 0) else none))) else (bif Nat.blt pc 83 then (bif Nat.beq pc 82 then some (.iastore, 83, [], 0, 0) else none) else (bif Nat.blt pc 85 then (bif Nat.beq pc 83 then some (.iload 4, 85, [], 0, 0) else none) else (bif Nat.beq pc 85 then some (.ireturn, 86, [0], 0, 0) else none)))))))
def k_X1_getLength (pc : Nat) : Option mE := (bif Nat.blt pc 22 then (bif Nat.blt pc 10 then (bif Nat.blt pc 5 then (bif Nat.blt pc 1 then (bif Nat.beq pc 0 then some (.aload_n 0, 1, [], 0, 0) else none) else (bif Nat.blt pc 4 then (bif Nat.beq pc 1 then some (.getfield 12, 4, [1, 2, 42, 1, 0], 0, 0) else none) else (bif Nat.beq pc 4 then some (.iload_n 2, 5, [], 0, 0) else none))) else (bif Nat.blt pc 8 then (bif Nat.beq pc 5 then some (.invokevirtual 83, 8, [5], 0, 0) else none) else (bif Nat.blt pc 9 then (bif Nat.beq pc 8 then some (.istore_n 3, 9, [], 0, 0) else none) else (bif Nat.beq pc 9 then some (.iload_n 3, 10, [], 0, 0) else none)))) else (bif Nat.blt pc 15 then (bif Nat.blt pc 13 then (bif Nat.beq pc 10 then some (.ifCond .ne 5, 13, [15], 0, 0) else none) else (bif Nat.blt pc 14 then (bif Nat.beq pc 13 then some (.iconst 1, 14, [], 1, 0) else none) else (bif Nat.beq pc 14 then some (.ireturn, 15, [0], 0, 0) else none))) else (bif Nat.blt pc 18 then (bif Nat.beq pc 15 then some (.sipush 992, 18, [], 992, 0) else none) else (bif Nat.blt pc 19 then (bif Nat.beq pc 18 then some (.iload_n 3, 19, [], 0, 0) else none) else (bif Nat.beq pc 19 then some (.invokestatic 168, 22, [105], 0, 0) else none))))) else (bif Nat.blt pc 32 then (bif Nat.blt pc 27 then (bif Nat.blt pc 25 then (bif Nat.beq pc 22 then some (.ifCond .ne 5, 25, [27], 0, 0) else none) else (bif Nat.blt pc 26 then (bif Nat.beq pc 25 then some (.iconst 2, 26, [], 2, 0) else none) else (bif Nat.beq pc 26 then some (.ireturn, 27, [0], 0, 0) else none))) else (bif Nat.blt pc 28 then (bif Nat.beq pc 27 then some (.aload_n 0, 28, [], 0, 0) else none) else (bif Nat.blt pc 31 then (bif Nat.beq pc 28 then some (.getfield 22, 31, [1, 4, 44, 1, 144], 0, 0) else none) else (bif Nat.beq pc 31 then some (.iload_n 1, 32, [], 0, 0) else none)))) else (bif Nat.blt pc 37 then (bif Nat.blt pc 33 then (bif Nat.beq pc 32 then some (.aload_n 0, 33, [], 0, 0) else none) else (bif Nat.blt pc 36 then (bif Nat.beq pc 33 then some (.getfield 12, 36, [1, 2, 42, 1, 0], 0, 0) else none) else (bif Nat.beq pc 36 then some (.iload_n 2, 37, [], 0, 0) else none))) else (bif Nat.blt pc 41 then (bif Nat.blt pc 40 then (bif Nat.beq pc 37 then some (.invokevirtual 205, 40, [6], 0, 0) else none) else (bif Nat.beq pc 40 then some (.iastore, 41, [], 0, 0) else none)) else (bif Nat.blt pc 42 then (bif Nat.beq pc 41 then some (.iconst 0, 42, [], 0, 0) else none) else (bif Nat.beq pc 42 then some (.ireturn, 43, [0], 0, 0) else none))))))
def k_X1_getInt (pc : Nat) : Option mE := (bif Nat.blt pc 16 then (bif Nat.blt pc 5 then (bif Nat.blt pc 2 then (bif Nat.blt pc 1 then (bif Nat.beq pc 0 then some (.aload_n 0, 1, [], 0, 0) else none) else (bif Nat.beq pc 1 then some (.iload_n 2, 2, [], 0, 0) else none)) else (bif Nat.blt pc 4 then (bif Nat.beq pc 2 then some (.bipush 6, 4, [], 6, 0) else none) else (bif Nat.beq pc 4 then some (.iload_n 3, 5, [], 0, 0) else none))) else (bif Nat.blt pc 10 then (bif Nat.blt pc 8 then (bif Nat.beq pc 5 then some (.invokevirtual 194, 8, [37], 0, 0) else none) else (bif Nat.beq pc 8 then some (.istore 4, 10, [], 0, 0) else none)) else (bif Nat.blt pc 12 then (bif Nat.beq pc 10 then some (.iload 4, 12, [], 0, 0) else none) else (bif Nat.blt pc 15 then (bif Nat.beq pc 12 then some (.ifCond .ne 18, 15, [30], 0, 0) else none) else (bif Nat.beq pc 15 then some (.aload_n 0, 16, [], 0, 0) else none))))) else (bif Nat.blt pc 25 then (bif Nat.blt pc 20 then (bif Nat.blt pc 19 then (bif Nat.beq pc 16 then some (.getfield 22, 19, [1, 4, 44, 1, 144], 0, 0) else none) else (bif Nat.beq pc 19 then some (.iload_n 1, 20, [], 0, 0) else none)) else (bif Nat.blt pc 21 then (bif Nat.beq pc 20 then some (.aload_n 0, 21, [], 0, 0) else none) else (bif Nat.blt pc 24 then (bif Nat.beq pc 21 then some (.getfield 12, 24, [1, 2, 42, 1, 0], 0, 0) else none) else (bif Nat.beq pc 24 then some (.iload_n 2, 25, [], 0, 0) else none)))) else (bif Nat.blt pc 29 then (bif Nat.blt pc 26 then (bif Nat.beq pc 25 then some (.iload_n 3, 26, [], 0, 0) else none) else (bif Nat.beq pc 26 then some (.invokevirtual 197, 29, [9], 0, 0) else none)) else (bif Nat.blt pc 30 then (bif Nat.beq pc 29 then some (.iastore, 30, [], 0, 0) else none) else (bif Nat.blt pc 32 then (bif Nat.beq pc 30 then some (.iload 4, 32, [], 0, 0) else none) else (bif Nat.beq pc 32 then some (.ireturn, 33, [0], 0, 0) else none))))))
def k_X1_setInt (pc : Nat) : Option mE := (bif Nat.blt pc 15 then (bif Nat.blt pc 5 then (bif Nat.blt pc 2 then (bif Nat.blt pc 1 then (bif Nat.beq pc 0 then some (.aload_n 0, 1, [], 0, 0) else none) else (bif Nat.beq pc 1 then some (.iload_n 1, 2, [], 0, 0) else none)) else (bif Nat.blt pc 4 then (bif Nat.beq pc 2 then some (.bipush 6, 4, [], 6, 0) else none) else (bif Nat.beq pc 4 then some (.iload_n 2, 5, [], 0, 0) else none))) else (bif Nat.blt pc 10 then (bif Nat.blt pc 8 then (bif Nat.beq pc 5 then some (.invokevirtual 194, 8, [37], 0, 0) else none) else (bif Nat.beq pc 8 then some (.istore 4, 10, [], 0, 0) else none)) else (bif Nat.blt pc 12 then (bif Nat.beq pc 10 then some (.iload 4, 12, [], 0, 0) else none) else (bif Nat.beq pc 12 then some (.ifCond .ne 13, 15, [25], 0, 0) else none)))) else (bif Nat.blt pc 21 then (bif Nat.blt pc 19 then (bif Nat.blt pc 16 then (bif Nat.beq pc 15 then some (.aload_n 0, 16, [], 0, 0) else none) else (bif Nat.beq pc 16 then some (.getfield 12, 19, [1, 2, 42, 1, 0], 0, 0) else none)) else (bif Nat.blt pc 20 then (bif Nat.beq pc 19 then some (.iload_n 1, 20, [], 0, 0) else none) else (bif Nat.beq pc 20 then some (.iload_n 2, 21, [], 0, 0) else none))) else (bif Nat.blt pc 25 then (bif Nat.blt pc 22 then (bif Nat.beq pc 21 then some (.iload_n 3, 22, [], 0, 0) else none) else (bif Nat.beq pc 22 then some (.invokevirtual 203, 25, [10], 0, 0) else none)) else (bif Nat.blt pc 27 then (bif Nat.beq pc 25 then some (.iload 4, 27, [], 0, 0) else none) else (bif Nat.beq pc 27 then some (.ireturn, 28, [0], 0, 0) else none)))))
def k_X1_divide (pc : Nat) : Option mE := (bif Nat.blt pc 12 then (bif Nat.blt pc 6 then (bif Nat.blt pc 1 then (bif Nat.beq pc 0 then some (.iload_n 2, 1, [], 0, 0) else none) else (bif Nat.blt pc 4 then (bif Nat.beq pc 1 then some (.ifCond .ne 6, 4, [7], 0, 0) else none) else (bif Nat.beq pc 4 then some (.bipush 6, 6, [], 6, 0) else none))) else (bif Nat.blt pc 8 then (bif Nat.blt pc 7 then (bif Nat.beq pc 6 then some (.ireturn, 7, [0], 0, 0) else none) else (bif Nat.beq pc 7 then some (.aload_n 0, 8, [], 0, 0) else none)) else (bif Nat.blt pc 11 then (bif Nat.beq pc 8 then some (.getfield 22, 11, [1, 4, 44, 1, 144], 0, 0) else none) else (bif Nat.beq pc 11 then some (.iload_n 1, 12, [], 0, 0) else none)))) else (bif Nat.blt pc 15 then (bif Nat.blt pc 13 then (bif Nat.beq pc 12 then some (.dup2, 13, [], 0, 0) else none) else (bif Nat.blt pc 14 then (bif Nat.beq pc 13 then some (.iaload, 14, [], 0, 0) else none) else (bif Nat.beq pc 14 then some (.iload_n 2, 15, [], 0, 0) else none))) else (bif Nat.blt pc 17 then (bif Nat.blt pc 16 then (bif Nat.beq pc 15 then some (.idiv, 16, [], 0, 0) else none) else (bif Nat.beq pc 16 then some (.iastore, 17, [], 0, 0) else none)) else (bif Nat.blt pc 18 then (bif Nat.beq pc 17 then some (.iconst 0, 18, [], 0, 0) else none) else (bif Nat.beq pc 18 then some (.ireturn, 19, [0], 0, 0) else none)))))
def k_X1_move (pc : Nat) : Option mE := (bif Nat.blt pc 53 then (bif Nat.blt pc 27 then (bif Nat.blt pc 11 then (bif Nat.blt pc 5 then (bif Nat.blt pc 1 then (bif Nat.beq pc 0 then some (.aload_n 0, 1, [], 0, 0) else none) else (bif Nat.blt pc 4 then (bif Nat.beq pc 1 then some (.getfield 12, 4, [1, 2, 42, 1, 0], 0, 0) else none) else (bif Nat.beq pc 4 then some (.iload_n 1, 5, [], 0, 0) else none))) else (bif Nat.blt pc 8 then (bif Nat.beq pc 5 then some (.invokevirtual 83, 8, [5], 0, 0) else none) else (bif Nat.blt pc 10 then (bif Nat.beq pc 8 then some (.istore 5, 10, [], 0, 0) else none) else (bif Nat.beq pc 10 then some (.aload_n 0, 11, [], 0, 0) else none)))) else (bif Nat.blt pc 18 then (bif Nat.blt pc 14 then (bif Nat.beq pc 11 then some (.getfield 12, 14, [1, 2, 42, 1, 0], 0, 0) else none) else (bif Nat.blt pc 15 then (bif Nat.beq pc 14 then some (.iload_n 2, 15, [], 0, 0) else none) else (bif Nat.beq pc 15 then some (.invokevirtual 83, 18, [5], 0, 0) else none))) else (bif Nat.blt pc 22 then (bif Nat.blt pc 20 then (bif Nat.beq pc 18 then some (.istore 6, 20, [], 0, 0) else none) else (bif Nat.beq pc 20 then some (.iload 5, 22, [], 0, 0) else none)) else (bif Nat.blt pc 25 then (bif Nat.beq pc 22 then some (.ifCond .eq 8, 25, [30], 0, 0) else none) else (bif Nat.beq pc 25 then some (.iload 6, 27, [], 0, 0) else none))))) else (bif Nat.blt pc 38 then (bif Nat.blt pc 32 then (bif Nat.blt pc 30 then (bif Nat.beq pc 27 then some (.ifCond .ne 5, 30, [32], 0, 0) else none) else (bif Nat.blt pc 31 then (bif Nat.beq pc 30 then some (.iconst 1, 31, [], 1, 0) else none) else (bif Nat.beq pc 31 then some (.ireturn, 32, [0], 0, 0) else none))) else (bif Nat.blt pc 35 then (bif Nat.beq pc 32 then some (.getstatic 208, 35, [502], 0, 0) else none) else (bif Nat.blt pc 37 then (bif Nat.beq pc 35 then some (.iload 5, 37, [], 0, 0) else none) else (bif Nat.beq pc 37 then some (.iaload, 38, [], 0, 0) else none)))) else (bif Nat.blt pc 46 then (bif Nat.blt pc 40 then (bif Nat.beq pc 38 then some (.iload 6, 40, [], 0, 0) else none) else (bif Nat.blt pc 43 then (bif Nat.beq pc 40 then some (.invokestatic 168, 43, [105], 0, 0) else none) else (bif Nat.beq pc 43 then some (.ifCond .ne 5, 46, [48], 0, 0) else none))) else (bif Nat.blt pc 48 then (bif Nat.blt pc 47 then (bif Nat.beq pc 46 then some (.iconst 4, 47, [], 4, 0) else none) else (bif Nat.beq pc 47 then some (.ireturn, 48, [0], 0, 0) else none)) else (bif Nat.blt pc 50 then (bif Nat.beq pc 48 then some (.iload 4, 50, [], 0, 0) else none) else (bif Nat.beq pc 50 then some (.ifCond .lt 35, 53, [85], 0, 0) else none)))))) else (bif Nat.blt pc 79 then (bif Nat.blt pc 64 then (bif Nat.blt pc 59 then (bif Nat.blt pc 54 then (bif Nat.beq pc 53 then some (.iload_n 3, 54, [], 0, 0) else none) else (bif Nat.blt pc 57 then (bif Nat.beq pc 54 then some (.ifCond .lt 31, 57, [85], 0, 0) else none) else (bif Nat.beq pc 57 then some (.iload 4, 59, [], 0, 0) else none))) else (bif Nat.blt pc 60 then (bif Nat.beq pc 59 then some (.aload_n 0, 60, [], 0, 0) else none) else (bif Nat.blt pc 63 then (bif Nat.beq pc 60 then some (.getfield 12, 63, [1, 2, 42, 1, 0], 0, 0) else none) else (bif Nat.beq pc 63 then some (.iload_n 1, 64, [], 0, 0) else none)))) else (bif Nat.blt pc 71 then (bif Nat.blt pc 67 then (bif Nat.beq pc 64 then some (.invokevirtual 205, 67, [6], 0, 0) else none) else (bif Nat.blt pc 70 then (bif Nat.beq pc 67 then some (.if_icmp .gt 18, 70, [85], 0, 0) else none) else (bif Nat.beq pc 70 then some (.iload_n 3, 71, [], 0, 0) else none))) else (bif Nat.blt pc 75 then (bif Nat.blt pc 72 then (bif Nat.beq pc 71 then some (.aload_n 0, 72, [], 0, 0) else none) else (bif Nat.beq pc 72 then some (.getfield 12, 75, [1, 2, 42, 1, 0], 0, 0) else none)) else (bif Nat.blt pc 76 then (bif Nat.beq pc 75 then some (.iload_n 2, 76, [], 0, 0) else none) else (bif Nat.beq pc 76 then some (.invokevirtual 205, 79, [6], 0, 0) else none))))) else (bif Nat.blt pc 88 then (bif Nat.blt pc 85 then (bif Nat.blt pc 81 then (bif Nat.beq pc 79 then some (.iload 4, 81, [], 0, 0) else none) else (bif Nat.blt pc 82 then (bif Nat.beq pc 81 then some (.isub, 82, [], 0, 0) else none) else (bif Nat.beq pc 82 then some (.if_icmp .le 5, 85, [87], 0, 0) else none))) else (bif Nat.blt pc 86 then (bif Nat.beq pc 85 then some (.iconst 3, 86, [], 3, 0) else none) else (bif Nat.blt pc 87 then (bif Nat.beq pc 86 then some (.ireturn, 87, [0], 0, 0) else none) else (bif Nat.beq pc 87 then some (.aload_n 0, 88, [], 0, 0) else none)))) else (bif Nat.blt pc 93 then (bif Nat.blt pc 91 then (bif Nat.beq pc 88 then some (.getfield 12, 91, [1, 2, 42, 1, 0], 0, 0) else none) else (bif Nat.blt pc 92 then (bif Nat.beq pc 91 then some (.iload_n 1, 92, [], 0, 0) else none) else (bif Nat.beq pc 92 then some (.iload_n 2, 93, [], 0, 0) else none))) else (bif Nat.blt pc 96 then (bif Nat.blt pc 94 then (bif Nat.beq pc 93 then some (.iload_n 3, 94, [], 0, 0) else none) else (bif Nat.beq pc 94 then some (.iload 4, 96, [], 0, 0) else none)) else (bif Nat.blt pc 99 then (bif Nat.beq pc 96 then some (.invokevirtual 211, 99, [12], 0, 0) else none) else (bif Nat.beq pc 99 then some (.ireturn, 100, [0], 0, 0) else none)))))))
def k_X1_castFault (pc : Nat) : Option mE := (bif Nat.blt pc 14 then (bif Nat.blt pc 8 then (bif Nat.blt pc 4 then (bif Nat.blt pc 1 then (bif Nat.beq pc 0 then some (.aload_n 0, 1, [], 0, 0) else none) else (bif Nat.beq pc 1 then some (.getfield 12, 4, [1, 2, 42, 1, 0], 0, 0) else none)) else (bif Nat.blt pc 5 then (bif Nat.beq pc 4 then some (.iload_n 1, 5, [], 0, 0) else none) else (bif Nat.beq pc 5 then some (.invokevirtual 83, 8, [5], 0, 0) else none))) else (bif Nat.blt pc 12 then (bif Nat.blt pc 9 then (bif Nat.beq pc 8 then some (.istore_n 3, 9, [], 0, 0) else none) else (bif Nat.beq pc 9 then some (.getstatic 165, 12, [500], 0, 0) else none)) else (bif Nat.blt pc 13 then (bif Nat.beq pc 12 then some (.iload_n 2, 13, [], 0, 0) else none) else (bif Nat.beq pc 13 then some (.iaload, 14, [], 0, 0) else none)))) else (bif Nat.blt pc 20 then (bif Nat.blt pc 16 then (bif Nat.blt pc 15 then (bif Nat.beq pc 14 then some (.iconst 1, 15, [], 1, 0) else none) else (bif Nat.beq pc 15 then some (.ior, 16, [], 0, 0) else none)) else (bif Nat.blt pc 17 then (bif Nat.beq pc 16 then some (.iload_n 3, 17, [], 0, 0) else none) else (bif Nat.beq pc 17 then some (.invokestatic 168, 20, [105], 0, 0) else none))) else (bif Nat.blt pc 24 then (bif Nat.blt pc 23 then (bif Nat.beq pc 20 then some (.ifCond .eq 7, 23, [27], 0, 0) else none) else (bif Nat.beq pc 23 then some (.iconst 0, 24, [], 0, 0) else none)) else (bif Nat.blt pc 27 then (bif Nat.beq pc 24 then some (.goto 4, 27, [28], 0, 0) else none) else (bif Nat.blt pc 28 then (bif Nat.beq pc 27 then some (.iconst 2, 28, [], 2, 0) else none) else (bif Nat.beq pc 28 then some (.ireturn, 29, [0], 0, 0) else none))))))
def k_X1_useFault (pc : Nat) : Option mE := (bif Nat.blt pc 15 then (bif Nat.blt pc 8 then (bif Nat.blt pc 4 then (bif Nat.blt pc 1 then (bif Nat.beq pc 0 then some (.aload_n 0, 1, [], 0, 0) else none) else (bif Nat.beq pc 1 then some (.getfield 12, 4, [1, 2, 42, 1, 0], 0, 0) else none)) else (bif Nat.blt pc 5 then (bif Nat.beq pc 4 then some (.iload_n 1, 5, [], 0, 0) else none) else (bif Nat.beq pc 5 then some (.invokevirtual 83, 8, [5], 0, 0) else none))) else (bif Nat.blt pc 10 then (bif Nat.blt pc 9 then (bif Nat.beq pc 8 then some (.istore_n 3, 9, [], 0, 0) else none) else (bif Nat.beq pc 9 then some (.iload_n 3, 10, [], 0, 0) else none)) else (bif Nat.blt pc 13 then (bif Nat.beq pc 10 then some (.ifCond .ne 5, 13, [15], 0, 0) else none) else (bif Nat.blt pc 14 then (bif Nat.beq pc 13 then some (.iconst 1, 14, [], 1, 0) else none) else (bif Nat.beq pc 14 then some (.ireturn, 15, [0], 0, 0) else none))))) else (bif Nat.blt pc 24 then (bif Nat.blt pc 19 then (bif Nat.blt pc 18 then (bif Nat.beq pc 15 then some (.getstatic 165, 18, [500], 0, 0) else none) else (bif Nat.beq pc 18 then some (.iload_n 2, 19, [], 0, 0) else none)) else (bif Nat.blt pc 20 then (bif Nat.beq pc 19 then some (.iaload, 20, [], 0, 0) else none) else (bif Nat.blt pc 21 then (bif Nat.beq pc 20 then some (.iload_n 3, 21, [], 0, 0) else none) else (bif Nat.beq pc 21 then some (.invokestatic 168, 24, [105], 0, 0) else none)))) else (bif Nat.blt pc 28 then (bif Nat.blt pc 27 then (bif Nat.beq pc 24 then some (.ifCond .eq 7, 27, [31], 0, 0) else none) else (bif Nat.beq pc 27 then some (.iconst 0, 28, [], 0, 0) else none)) else (bif Nat.blt pc 31 then (bif Nat.beq pc 28 then some (.goto 4, 31, [32], 0, 0) else none) else (bif Nat.blt pc 32 then (bif Nat.beq pc 31 then some (.iconst 2, 32, [], 2, 0) else none) else (bif Nat.beq pc 32 then some (.ireturn, 33, [0], 0, 0) else none))))))
def k_X1_cellFault (pc : Nat) : Option mE := (bif Nat.blt pc 17 then (bif Nat.blt pc 8 then (bif Nat.blt pc 2 then (bif Nat.blt pc 1 then (bif Nat.beq pc 0 then some (.aload_n 0, 1, [], 0, 0) else none) else (bif Nat.beq pc 1 then some (.iload_n 1, 2, [], 0, 0) else none)) else (bif Nat.blt pc 3 then (bif Nat.beq pc 2 then some (.iload_n 2, 3, [], 0, 0) else none) else (bif Nat.blt pc 6 then (bif Nat.beq pc 3 then some (.invokevirtual 186, 6, [36], 0, 0) else none) else (bif Nat.beq pc 6 then some (.istore 4, 8, [], 0, 0) else none)))) else (bif Nat.blt pc 13 then (bif Nat.blt pc 10 then (bif Nat.beq pc 8 then some (.iload 4, 10, [], 0, 0) else none) else (bif Nat.beq pc 10 then some (.ifCond .eq 6, 13, [16], 0, 0) else none)) else (bif Nat.blt pc 15 then (bif Nat.beq pc 13 then some (.iload 4, 15, [], 0, 0) else none) else (bif Nat.blt pc 16 then (bif Nat.beq pc 15 then some (.ireturn, 16, [0], 0, 0) else none) else (bif Nat.beq pc 16 then some (.iload_n 3, 17, [], 0, 0) else none))))) else (bif Nat.blt pc 26 then (bif Nat.blt pc 21 then (bif Nat.blt pc 20 then (bif Nat.beq pc 17 then some (.ifCond .lt 15, 20, [32], 0, 0) else none) else (bif Nat.beq pc 20 then some (.iload_n 3, 21, [], 0, 0) else none)) else (bif Nat.blt pc 22 then (bif Nat.beq pc 21 then some (.aload_n 0, 22, [], 0, 0) else none) else (bif Nat.blt pc 25 then (bif Nat.beq pc 22 then some (.getfield 12, 25, [1, 2, 42, 1, 0], 0, 0) else none) else (bif Nat.beq pc 25 then some (.iload_n 1, 26, [], 0, 0) else none)))) else (bif Nat.blt pc 33 then (bif Nat.blt pc 29 then (bif Nat.beq pc 26 then some (.invokevirtual 205, 29, [6], 0, 0) else none) else (bif Nat.blt pc 32 then (bif Nat.beq pc 29 then some (.if_icmp .lt 7, 32, [36], 0, 0) else none) else (bif Nat.beq pc 32 then some (.iconst 3, 33, [], 3, 0) else none))) else (bif Nat.blt pc 36 then (bif Nat.beq pc 33 then some (.goto 4, 36, [37], 0, 0) else none) else (bif Nat.blt pc 37 then (bif Nat.beq pc 36 then some (.iconst 0, 37, [], 0, 0) else none) else (bif Nat.beq pc 37 then some (.ireturn, 38, [0], 0, 0) else none))))))
def k_X1_report (pc : Nat) : Option mE := (bif Nat.blt pc 52 then (bif Nat.blt pc 42 then (bif Nat.blt pc 37 then (bif Nat.blt pc 1 then (bif Nat.beq pc 0 then some (.iload_n 1, 1, [], 0, 0) else none) else (bif Nat.blt pc 36 then (bif Nat.beq pc 1 then some (.tableswitch 68 0 4 #[35, 41, 47, 53, 59], 36, [69, 36, 42, 48, 54, 60], 0, 0) else none) else (bif Nat.beq pc 36 then some (.aload_n 0, 37, [], 0, 0) else none))) else (bif Nat.blt pc 40 then (bif Nat.beq pc 37 then some (.getfield 29, 40, [1, 6, 46, 0, 0], 0, 0) else none) else (bif Nat.blt pc 41 then (bif Nat.beq pc 40 then some (.i2l, 41, [], 0, 0) else none) else (bif Nat.beq pc 41 then some (.lreturn, 42, [], 0, 0) else none)))) else (bif Nat.blt pc 47 then (bif Nat.blt pc 43 then (bif Nat.beq pc 42 then some (.aload_n 0, 43, [], 0, 0) else none) else (bif Nat.blt pc 46 then (bif Nat.beq pc 43 then some (.getfield 38, 46, [1, 9, 49, 0, 0], 0, 0) else none) else (bif Nat.beq pc 46 then some (.i2l, 47, [], 0, 0) else none))) else (bif Nat.blt pc 48 then (bif Nat.beq pc 47 then some (.lreturn, 48, [], 0, 0) else none) else (bif Nat.blt pc 49 then (bif Nat.beq pc 48 then some (.aload_n 0, 49, [], 0, 0) else none) else (bif Nat.beq pc 49 then some (.getfield 41, 52, [1, 10, 50, 0, 0], 0, 0) else none))))) else (bif Nat.blt pc 60 then (bif Nat.blt pc 55 then (bif Nat.blt pc 53 then (bif Nat.beq pc 52 then some (.i2l, 53, [], 0, 0) else none) else (bif Nat.blt pc 54 then (bif Nat.beq pc 53 then some (.lreturn, 54, [], 0, 0) else none) else (bif Nat.beq pc 54 then some (.aload_n 0, 55, [], 0, 0) else none))) else (bif Nat.blt pc 58 then (bif Nat.beq pc 55 then some (.getfield 44, 58, [1, 11, 51, 0, 0], 0, 0) else none) else (bif Nat.blt pc 59 then (bif Nat.beq pc 58 then some (.i2l, 59, [], 0, 0) else none) else (bif Nat.beq pc 59 then some (.lreturn, 60, [], 0, 0) else none)))) else (bif Nat.blt pc 67 then (bif Nat.blt pc 61 then (bif Nat.beq pc 60 then some (.aload_n 0, 61, [], 0, 0) else none) else (bif Nat.blt pc 64 then (bif Nat.beq pc 61 then some (.getfield 12, 64, [1, 2, 42, 1, 0], 0, 0) else none) else (bif Nat.beq pc 64 then some (.invokevirtual 212, 67, [1], 0, 0) else none))) else (bif Nat.blt pc 69 then (bif Nat.blt pc 68 then (bif Nat.beq pc 67 then some (.i2l, 68, [], 0, 0) else none) else (bif Nat.beq pc 68 then some (.lreturn, 69, [], 0, 0) else none)) else (bif Nat.blt pc 72 then (bif Nat.beq pc 69 then some (.ldc2_w 216, 72, [], 0, (-9223372036854775808)) else none) else (bif Nat.beq pc 72 then some (.lreturn, 73, [], 0, 0) else none))))))
def k_X1_look (pc : Nat) : Option mE := (bif Nat.blt pc 64 then (bif Nat.blt pc 18 then (bif Nat.blt pc 7 then (bif Nat.blt pc 4 then (bif Nat.blt pc 1 then (bif Nat.beq pc 0 then some (.aload_n 0, 1, [], 0, 0) else none) else (bif Nat.beq pc 1 then some (.getfield 18, 4, [1, 3, 43, 1, 143], 0, 0) else none)) else (bif Nat.blt pc 5 then (bif Nat.beq pc 4 then some (.iload_n 1, 5, [], 0, 0) else none) else (bif Nat.blt pc 6 then (bif Nat.beq pc 5 then some (.iaload, 6, [], 0, 0) else none) else (bif Nat.beq pc 6 then some (.istore_n 3, 7, [], 0, 0) else none)))) else (bif Nat.blt pc 12 then (bif Nat.blt pc 8 then (bif Nat.beq pc 7 then some (.aload_n 0, 8, [], 0, 0) else none) else (bif Nat.blt pc 11 then (bif Nat.beq pc 8 then some (.getfield 12, 11, [1, 2, 42, 1, 0], 0, 0) else none) else (bif Nat.beq pc 11 then some (.iload_n 3, 12, [], 0, 0) else none))) else (bif Nat.blt pc 15 then (bif Nat.beq pc 12 then some (.invokevirtual 83, 15, [5], 0, 0) else none) else (bif Nat.blt pc 17 then (bif Nat.beq pc 15 then some (.istore 4, 17, [], 0, 0) else none) else (bif Nat.beq pc 17 then some (.iload_n 2, 18, [], 0, 0) else none))))) else (bif Nat.blt pc 52 then (bif Nat.blt pc 46 then (bif Nat.blt pc 44 then (bif Nat.beq pc 18 then some (.tableswitch 66 0 2 #[26, 29, 41], 44, [84, 44, 47, 59], 0, 0) else none) else (bif Nat.beq pc 44 then some (.iload 4, 46, [], 0, 0) else none)) else (bif Nat.blt pc 47 then (bif Nat.beq pc 46 then some (.ireturn, 47, [0], 0, 0) else none) else (bif Nat.blt pc 49 then (bif Nat.beq pc 47 then some (.iload 4, 49, [], 0, 0) else none) else (bif Nat.beq pc 49 then some (.ifCond .ne 8, 52, [57], 0, 0) else none)))) else (bif Nat.blt pc 58 then (bif Nat.blt pc 54 then (bif Nat.beq pc 52 then some (.bipush (-3), 54, [], (-3), 0) else none) else (bif Nat.blt pc 57 then (bif Nat.beq pc 54 then some (.goto 4, 57, [58], 0, 0) else none) else (bif Nat.beq pc 57 then some (.iload_n 3, 58, [], 0, 0) else none))) else (bif Nat.blt pc 59 then (bif Nat.beq pc 58 then some (.ireturn, 59, [0], 0, 0) else none) else (bif Nat.blt pc 62 then (bif Nat.beq pc 59 then some (.sipush 992, 62, [], 992, 0) else none) else (bif Nat.beq pc 62 then some (.iload 4, 64, [], 0, 0) else none)))))) else (bif Nat.blt pc 88 then (bif Nat.blt pc 75 then (bif Nat.blt pc 70 then (bif Nat.blt pc 67 then (bif Nat.beq pc 64 then some (.invokestatic 168, 67, [105], 0, 0) else none) else (bif Nat.beq pc 67 then some (.ifCond .eq 14, 70, [81], 0, 0) else none)) else (bif Nat.blt pc 71 then (bif Nat.beq pc 70 then some (.aload_n 0, 71, [], 0, 0) else none) else (bif Nat.blt pc 74 then (bif Nat.beq pc 71 then some (.getfield 12, 74, [1, 2, 42, 1, 0], 0, 0) else none) else (bif Nat.beq pc 74 then some (.iload_n 3, 75, [], 0, 0) else none)))) else (bif Nat.blt pc 83 then (bif Nat.blt pc 78 then (bif Nat.beq pc 75 then some (.invokevirtual 205, 78, [6], 0, 0) else none) else (bif Nat.blt pc 81 then (bif Nat.beq pc 78 then some (.goto 5, 81, [83], 0, 0) else none) else (bif Nat.beq pc 81 then some (.bipush (-3), 83, [], (-3), 0) else none))) else (bif Nat.blt pc 84 then (bif Nat.beq pc 83 then some (.ireturn, 84, [0], 0, 0) else none) else (bif Nat.blt pc 86 then (bif Nat.beq pc 84 then some (.bipush 30, 86, [], 30, 0) else none) else (bif Nat.beq pc 86 then some (.iload 4, 88, [], 0, 0) else none))))) else (bif Nat.blt pc 102 then (bif Nat.blt pc 95 then (bif Nat.blt pc 91 then (bif Nat.beq pc 88 then some (.invokestatic 168, 91, [105], 0, 0) else none) else (bif Nat.blt pc 94 then (bif Nat.beq pc 91 then some (.ifCond .eq 21, 94, [112], 0, 0) else none) else (bif Nat.beq pc 94 then some (.aload_n 0, 95, [], 0, 0) else none))) else (bif Nat.blt pc 98 then (bif Nat.beq pc 95 then some (.getfield 12, 98, [1, 2, 42, 1, 0], 0, 0) else none) else (bif Nat.blt pc 99 then (bif Nat.beq pc 98 then some (.aload_n 0, 99, [], 0, 0) else none) else (bif Nat.beq pc 99 then some (.getfield 12, 102, [1, 2, 42, 1, 0], 0, 0) else none)))) else (bif Nat.blt pc 109 then (bif Nat.blt pc 103 then (bif Nat.beq pc 102 then some (.iload_n 3, 103, [], 0, 0) else none) else (bif Nat.blt pc 106 then (bif Nat.beq pc 103 then some (.invokevirtual 189, 106, [7], 0, 0) else none) else (bif Nat.beq pc 106 then some (.invokevirtual 83, 109, [5], 0, 0) else none))) else (bif Nat.blt pc 112 then (bif Nat.beq pc 109 then some (.goto 5, 112, [114], 0, 0) else none) else (bif Nat.blt pc 114 then (bif Nat.beq pc 112 then some (.bipush (-3), 114, [], (-3), 0) else none) else (bif Nat.beq pc 114 then some (.ireturn, 115, [0], 0, 0) else none)))))))
def k_X1_numberAt (pc : Nat) : Option mE := (bif Nat.blt pc 4 then (bif Nat.blt pc 1 then (bif Nat.beq pc 0 then some (.aload_n 0, 1, [], 0, 0) else none) else (bif Nat.beq pc 1 then some (.getfield 22, 4, [1, 4, 44, 1, 144], 0, 0) else none)) else (bif Nat.blt pc 5 then (bif Nat.beq pc 4 then some (.iload_n 1, 5, [], 0, 0) else none) else (bif Nat.blt pc 6 then (bif Nat.beq pc 5 then some (.iaload, 6, [], 0, 0) else none) else (bif Nat.beq pc 6 then some (.ireturn, 7, [0], 0, 0) else none))))
def k_X2_forget (pc : Nat) : Option mE := (bif Nat.blt pc 2 then (bif Nat.blt pc 1 then (bif Nat.beq pc 0 then some (.aload_n 0, 1, [], 0, 0) else none) else (bif Nat.beq pc 1 then some (.iconst 0, 2, [], 0, 0) else none)) else (bif Nat.blt pc 5 then (bif Nat.beq pc 2 then some (.putfield 28, 5, [2, 6, 86, 2, 0], 0, 0) else none) else (bif Nat.beq pc 5 then some (.return_, 6, [], 0, 0) else none)))
def k_X2_settle (pc : Nat) : Option mE := (bif Nat.blt pc 62 then (bif Nat.blt pc 33 then (bif Nat.blt pc 14 then (bif Nat.blt pc 8 then (bif Nat.blt pc 4 then (bif Nat.blt pc 1 then (bif Nat.beq pc 0 then some (.aload_n 0, 1, [], 0, 0) else none) else (bif Nat.beq pc 1 then some (.getfield 28, 4, [2, 6, 86, 2, 0], 0, 0) else none)) else (bif Nat.blt pc 7 then (bif Nat.beq pc 4 then some (.ifCond .eq 4, 7, [8], 0, 0) else none) else (bif Nat.beq pc 7 then some (.return_, 8, [], 0, 0) else none))) else (bif Nat.blt pc 10 then (bif Nat.blt pc 9 then (bif Nat.beq pc 8 then some (.aload_n 0, 9, [], 0, 0) else none) else (bif Nat.beq pc 9 then some (.iconst 1, 10, [], 1, 0) else none)) else (bif Nat.blt pc 13 then (bif Nat.beq pc 10 then some (.putfield 28, 13, [2, 6, 86, 2, 0], 0, 0) else none) else (bif Nat.beq pc 13 then some (.aload_n 0, 14, [], 0, 0) else none)))) else (bif Nat.blt pc 22 then (bif Nat.blt pc 18 then (bif Nat.blt pc 17 then (bif Nat.beq pc 14 then some (.getfield 11, 17, [2, 1, 81, 1, 181], 0, 0) else none) else (bif Nat.beq pc 17 then some (.iconst 0, 18, [], 0, 0) else none)) else (bif Nat.blt pc 21 then (bif Nat.beq pc 18 then some (.invokestatic 36, 21, [149], 0, 0) else none) else (bif Nat.beq pc 21 then some (.aload_n 0, 22, [], 0, 0) else none))) else (bif Nat.blt pc 26 then (bif Nat.blt pc 25 then (bif Nat.beq pc 22 then some (.getfield 15, 25, [2, 2, 82, 1, 182], 0, 0) else none) else (bif Nat.beq pc 25 then some (.iconst 1, 26, [], 1, 0) else none)) else (bif Nat.blt pc 29 then (bif Nat.beq pc 26 then some (.invokestatic 36, 29, [149], 0, 0) else none) else (bif Nat.blt pc 30 then (bif Nat.beq pc 29 then some (.aload_n 0, 30, [], 0, 0) else none) else (bif Nat.beq pc 30 then some (.getfield 18, 33, [2, 3, 83, 1, 183], 0, 0) else none)))))) else (bif Nat.blt pc 47 then (bif Nat.blt pc 39 then (bif Nat.blt pc 37 then (bif Nat.blt pc 34 then (bif Nat.beq pc 33 then some (.iconst 1, 34, [], 1, 0) else none) else (bif Nat.beq pc 34 then some (.invokestatic 36, 37, [149], 0, 0) else none)) else (bif Nat.blt pc 38 then (bif Nat.beq pc 37 then some (.aload_n 0, 38, [], 0, 0) else none) else (bif Nat.beq pc 38 then some (.iconst 0, 39, [], 0, 0) else none))) else (bif Nat.blt pc 43 then (bif Nat.blt pc 42 then (bif Nat.beq pc 39 then some (.putfield 21, 42, [2, 4, 84, 0, 0], 0, 0) else none) else (bif Nat.beq pc 42 then some (.aload_n 0, 43, [], 0, 0) else none)) else (bif Nat.blt pc 44 then (bif Nat.beq pc 43 then some (.iconst 0, 44, [], 0, 0) else none) else (bif Nat.beq pc 44 then some (.putfield 25, 47, [2, 5, 85, 0, 0], 0, 0) else none)))) else (bif Nat.blt pc 53 then (bif Nat.blt pc 49 then (bif Nat.blt pc 48 then (bif Nat.beq pc 47 then some (.aload_n 0, 48, [], 0, 0) else none) else (bif Nat.beq pc 48 then some (.iconst 0, 49, [], 0, 0) else none)) else (bif Nat.blt pc 52 then (bif Nat.beq pc 49 then some (.invokevirtual 42, 52, [50], 0, 0) else none) else (bif Nat.beq pc 52 then some (.iconst 0, 53, [], 0, 0) else none))) else (bif Nat.blt pc 55 then (bif Nat.blt pc 54 then (bif Nat.beq pc 53 then some (.istore_n 1, 54, [], 0, 0) else none) else (bif Nat.beq pc 54 then some (.iload_n 1, 55, [], 0, 0) else none)) else (bif Nat.blt pc 58 then (bif Nat.beq pc 55 then some (.sipush 1951, 58, [], 1951, 0) else none) else (bif Nat.blt pc 61 then (bif Nat.beq pc 58 then some (.if_icmp .ge 65, 61, [123], 0, 0) else none) else (bif Nat.beq pc 61 then some (.aload_n 0, 62, [], 0, 0) else none))))))) else (bif Nat.blt pc 93 then (bif Nat.blt pc 78 then (bif Nat.blt pc 70 then (bif Nat.blt pc 68 then (bif Nat.blt pc 65 then (bif Nat.beq pc 62 then some (.getfield 25, 65, [2, 5, 85, 0, 0], 0, 0) else none) else (bif Nat.beq pc 65 then some (.ifCond .eq 58, 68, [123], 0, 0) else none)) else (bif Nat.blt pc 69 then (bif Nat.beq pc 68 then some (.iconst 0, 69, [], 0, 0) else none) else (bif Nat.beq pc 69 then some (.istore_n 2, 70, [], 0, 0) else none))) else (bif Nat.blt pc 72 then (bif Nat.blt pc 71 then (bif Nat.beq pc 70 then some (.iload_n 2, 71, [], 0, 0) else none) else (bif Nat.beq pc 71 then some (.aload_n 0, 72, [], 0, 0) else none)) else (bif Nat.blt pc 75 then (bif Nat.beq pc 72 then some (.getfield 32, 75, [2, 0, 80, 1, 3], 0, 0) else none) else (bif Nat.beq pc 75 then some (.invokevirtual 46, 78, [79], 0, 0) else none)))) else (bif Nat.blt pc 86 then (bif Nat.blt pc 82 then (bif Nat.blt pc 81 then (bif Nat.beq pc 78 then some (.if_icmp .ge 39, 81, [117], 0, 0) else none) else (bif Nat.beq pc 81 then some (.aload_n 0, 82, [], 0, 0) else none)) else (bif Nat.blt pc 85 then (bif Nat.beq pc 82 then some (.getfield 25, 85, [2, 5, 85, 0, 0], 0, 0) else none) else (bif Nat.beq pc 85 then some (.iload_n 2, 86, [], 0, 0) else none))) else (bif Nat.blt pc 88 then (bif Nat.blt pc 87 then (bif Nat.beq pc 86 then some (.iushr, 87, [], 0, 0) else none) else (bif Nat.beq pc 87 then some (.iconst 1, 88, [], 1, 0) else none)) else (bif Nat.blt pc 89 then (bif Nat.beq pc 88 then some (.iand, 89, [], 0, 0) else none) else (bif Nat.blt pc 92 then (bif Nat.beq pc 89 then some (.ifCond .eq 22, 92, [111], 0, 0) else none) else (bif Nat.beq pc 92 then some (.aload_n 0, 93, [], 0, 0) else none)))))) else (bif Nat.blt pc 103 then (bif Nat.blt pc 99 then (bif Nat.blt pc 97 then (bif Nat.blt pc 94 then (bif Nat.beq pc 93 then some (.dup, 94, [], 0, 0) else none) else (bif Nat.beq pc 94 then some (.getfield 25, 97, [2, 5, 85, 0, 0], 0, 0) else none)) else (bif Nat.blt pc 98 then (bif Nat.beq pc 97 then some (.iconst 1, 98, [], 1, 0) else none) else (bif Nat.beq pc 98 then some (.iload_n 2, 99, [], 0, 0) else none))) else (bif Nat.blt pc 101 then (bif Nat.blt pc 100 then (bif Nat.beq pc 99 then some (.ishl, 100, [], 0, 0) else none) else (bif Nat.beq pc 100 then some (.iconst (-1), 101, [], (-1), 0) else none)) else (bif Nat.blt pc 102 then (bif Nat.beq pc 101 then some (.ixor, 102, [], 0, 0) else none) else (bif Nat.beq pc 102 then some (.iand, 103, [], 0, 0) else none)))) else (bif Nat.blt pc 111 then (bif Nat.blt pc 107 then (bif Nat.blt pc 106 then (bif Nat.beq pc 103 then some (.putfield 25, 106, [2, 5, 85, 0, 0], 0, 0) else none) else (bif Nat.beq pc 106 then some (.aload_n 0, 107, [], 0, 0) else none)) else (bif Nat.blt pc 108 then (bif Nat.beq pc 107 then some (.iload_n 2, 108, [], 0, 0) else none) else (bif Nat.beq pc 108 then some (.invokevirtual 52, 111, [48], 0, 0) else none))) else (bif Nat.blt pc 117 then (bif Nat.blt pc 114 then (bif Nat.beq pc 111 then some (.iinc 2 1, 114, [], 1, 0) else none) else (bif Nat.beq pc 114 then some (.goto (-44), 117, [70], 0, 0) else none)) else (bif Nat.blt pc 120 then (bif Nat.beq pc 117 then some (.iinc 1 1, 120, [], 1, 0) else none) else (bif Nat.blt pc 123 then (bif Nat.beq pc 120 then some (.goto (-66), 123, [54], 0, 0) else none) else (bif Nat.beq pc 123 then some (.return_, 124, [], 0, 0) else none))))))))
def k_X2_kindsAt (pc : Nat) : Option mE := (bif Nat.blt pc 7 then (bif Nat.blt pc 4 then (bif Nat.blt pc 1 then (bif Nat.beq pc 0 then some (.aload_n 0, 1, [], 0, 0) else none) else (bif Nat.beq pc 1 then some (.getfield 11, 4, [2, 1, 81, 1, 181], 0, 0) else none)) else (bif Nat.blt pc 5 then (bif Nat.beq pc 4 then some (.iload_n 1, 5, [], 0, 0) else none) else (bif Nat.beq pc 5 then some (.bipush 6, 7, [], 6, 0) else none))) else (bif Nat.blt pc 9 then (bif Nat.blt pc 8 then (bif Nat.beq pc 7 then some (.imul, 8, [], 0, 0) else none) else (bif Nat.beq pc 8 then some (.iload_n 2, 9, [], 0, 0) else none)) else (bif Nat.blt pc 10 then (bif Nat.beq pc 9 then some (.iadd, 10, [], 0, 0) else none) else (bif Nat.blt pc 11 then (bif Nat.beq pc 10 then some (.iaload, 11, [], 0, 0) else none) else (bif Nat.beq pc 11 then some (.ireturn, 12, [0], 0, 0) else none)))))
def k_X2_faultsAt (pc : Nat) : Option mE := (bif Nat.blt pc 9 then (bif Nat.blt pc 2 then (bif Nat.blt pc 1 then (bif Nat.beq pc 0 then some (.aload_n 0, 1, [], 0, 0) else none) else (bif Nat.beq pc 1 then some (.iload_n 1, 2, [], 0, 0) else none)) else (bif Nat.blt pc 5 then (bif Nat.beq pc 2 then some (.invokevirtual 55, 5, [47], 0, 0) else none) else (bif Nat.blt pc 8 then (bif Nat.beq pc 5 then some (.ifCond .eq 11, 8, [16], 0, 0) else none) else (bif Nat.beq pc 8 then some (.aload_n 0, 9, [], 0, 0) else none)))) else (bif Nat.blt pc 13 then (bif Nat.blt pc 10 then (bif Nat.beq pc 9 then some (.iload_n 1, 10, [], 0, 0) else none) else (bif Nat.beq pc 10 then some (.invokevirtual 59, 13, [66], 0, 0) else none)) else (bif Nat.blt pc 16 then (bif Nat.beq pc 13 then some (.goto 4, 16, [17], 0, 0) else none) else (bif Nat.blt pc 17 then (bif Nat.beq pc 16 then some (.iconst 0, 17, [], 0, 0) else none) else (bif Nat.beq pc 17 then some (.ireturn, 18, [0], 0, 0) else none)))))
def k_X2_castAt (pc : Nat) : Option mE := (bif Nat.blt pc 44 then (bif Nat.blt pc 24 then (bif Nat.blt pc 11 then (bif Nat.blt pc 7 then (bif Nat.blt pc 1 then (bif Nat.beq pc 0 then some (.aload_n 0, 1, [], 0, 0) else none) else (bif Nat.blt pc 4 then (bif Nat.beq pc 1 then some (.getfield 32, 4, [2, 0, 80, 1, 3], 0, 0) else none) else (bif Nat.beq pc 4 then some (.getfield 63, 7, [3, 0, 120, 1, 220], 0, 0) else none))) else (bif Nat.blt pc 8 then (bif Nat.beq pc 7 then some (.iload_n 1, 8, [], 0, 0) else none) else (bif Nat.blt pc 9 then (bif Nat.beq pc 8 then some (.iaload, 9, [], 0, 0) else none) else (bif Nat.beq pc 9 then some (.bipush 6, 11, [], 6, 0) else none)))) else (bif Nat.blt pc 16 then (bif Nat.blt pc 14 then (bif Nat.beq pc 11 then some (.if_icmp .ne 11, 14, [22], 0, 0) else none) else (bif Nat.blt pc 15 then (bif Nat.beq pc 14 then some (.aload_n 0, 15, [], 0, 0) else none) else (bif Nat.beq pc 15 then some (.iload_n 1, 16, [], 0, 0) else none))) else (bif Nat.blt pc 19 then (bif Nat.beq pc 16 then some (.invokevirtual 55, 19, [47], 0, 0) else none) else (bif Nat.blt pc 22 then (bif Nat.beq pc 19 then some (.ifCond .ne 6, 22, [25], 0, 0) else none) else (bif Nat.beq pc 22 then some (.bipush (-3), 24, [], (-3), 0) else none))))) else (bif Nat.blt pc 34 then (bif Nat.blt pc 27 then (bif Nat.blt pc 25 then (bif Nat.beq pc 24 then some (.ireturn, 25, [0], 0, 0) else none) else (bif Nat.blt pc 26 then (bif Nat.beq pc 25 then some (.aload_n 0, 26, [], 0, 0) else none) else (bif Nat.beq pc 26 then some (.iload_n 1, 27, [], 0, 0) else none))) else (bif Nat.blt pc 28 then (bif Nat.beq pc 27 then some (.aload_n 0, 28, [], 0, 0) else none) else (bif Nat.blt pc 31 then (bif Nat.beq pc 28 then some (.getfield 32, 31, [2, 0, 80, 1, 3], 0, 0) else none) else (bif Nat.beq pc 31 then some (.getfield 66, 34, [3, 1, 121, 1, 221], 0, 0) else none)))) else (bif Nat.blt pc 39 then (bif Nat.blt pc 35 then (bif Nat.beq pc 34 then some (.iload_n 1, 35, [], 0, 0) else none) else (bif Nat.blt pc 36 then (bif Nat.beq pc 35 then some (.iaload, 36, [], 0, 0) else none) else (bif Nat.beq pc 36 then some (.invokevirtual 69, 39, [43], 0, 0) else none))) else (bif Nat.blt pc 40 then (bif Nat.beq pc 39 then some (.istore_n 2, 40, [], 0, 0) else none) else (bif Nat.blt pc 43 then (bif Nat.beq pc 40 then some (.getstatic 73, 43, [500], 0, 0) else none) else (bif Nat.beq pc 43 then some (.aload_n 0, 44, [], 0, 0) else none)))))) else (bif Nat.blt pc 64 then (bif Nat.blt pc 54 then (bif Nat.blt pc 51 then (bif Nat.blt pc 47 then (bif Nat.beq pc 44 then some (.getfield 32, 47, [2, 0, 80, 1, 3], 0, 0) else none) else (bif Nat.blt pc 50 then (bif Nat.beq pc 47 then some (.getfield 76, 50, [3, 2, 122, 1, 222], 0, 0) else none) else (bif Nat.beq pc 50 then some (.iload_n 1, 51, [], 0, 0) else none))) else (bif Nat.blt pc 52 then (bif Nat.beq pc 51 then some (.iaload, 52, [], 0, 0) else none) else (bif Nat.blt pc 53 then (bif Nat.beq pc 52 then some (.iaload, 53, [], 0, 0) else none) else (bif Nat.beq pc 53 then some (.iconst 1, 54, [], 1, 0) else none)))) else (bif Nat.blt pc 57 then (bif Nat.blt pc 55 then (bif Nat.beq pc 54 then some (.ior, 55, [], 0, 0) else none) else (bif Nat.blt pc 56 then (bif Nat.beq pc 55 then some (.istore_n 3, 56, [], 0, 0) else none) else (bif Nat.beq pc 56 then some (.iload_n 2, 57, [], 0, 0) else none))) else (bif Nat.blt pc 58 then (bif Nat.beq pc 57 then some (.iload_n 3, 58, [], 0, 0) else none) else (bif Nat.blt pc 61 then (bif Nat.beq pc 58 then some (.invokestatic 79, 61, [106], 0, 0) else none) else (bif Nat.beq pc 61 then some (.ifCond .ne 5, 64, [66], 0, 0) else none))))) else (bif Nat.blt pc 70 then (bif Nat.blt pc 67 then (bif Nat.blt pc 65 then (bif Nat.beq pc 64 then some (.iconst 2, 65, [], 2, 0) else none) else (bif Nat.blt pc 66 then (bif Nat.beq pc 65 then some (.ireturn, 66, [0], 0, 0) else none) else (bif Nat.beq pc 66 then some (.iload_n 2, 67, [], 0, 0) else none))) else (bif Nat.blt pc 68 then (bif Nat.beq pc 67 then some (.iload_n 3, 68, [], 0, 0) else none) else (bif Nat.blt pc 69 then (bif Nat.beq pc 68 then some (.iconst (-1), 69, [], (-1), 0) else none) else (bif Nat.beq pc 69 then some (.ixor, 70, [], 0, 0) else none)))) else (bif Nat.blt pc 77 then (bif Nat.blt pc 73 then (bif Nat.beq pc 70 then some (.invokestatic 79, 73, [106], 0, 0) else none) else (bif Nat.blt pc 76 then (bif Nat.beq pc 73 then some (.ifCond .eq 7, 76, [80], 0, 0) else none) else (bif Nat.beq pc 76 then some (.iconst 1, 77, [], 1, 0) else none))) else (bif Nat.blt pc 80 then (bif Nat.beq pc 77 then some (.goto 4, 80, [81], 0, 0) else none) else (bif Nat.blt pc 81 then (bif Nat.beq pc 80 then some (.iconst 0, 81, [], 0, 0) else none) else (bif Nat.beq pc 81 then some (.ireturn, 82, [0], 0, 0) else none)))))))
def k_X2_allOf (pc : Nat) : Option mE := (bif Nat.blt pc 4 then (bif Nat.blt pc 1 then (bif Nat.beq pc 0 then some (.aload_n 0, 1, [], 0, 0) else none) else (bif Nat.beq pc 1 then some (.getfield 15, 4, [2, 2, 82, 1, 182], 0, 0) else none)) else (bif Nat.blt pc 5 then (bif Nat.beq pc 4 then some (.iload_n 1, 5, [], 0, 0) else none) else (bif Nat.blt pc 6 then (bif Nat.beq pc 5 then some (.iaload, 6, [], 0, 0) else none) else (bif Nat.beq pc 6 then some (.ireturn, 7, [0], 0, 0) else none))))
def k_X2_isReached (pc : Nat) : Option mE := (bif Nat.blt pc 7 then (bif Nat.blt pc 4 then (bif Nat.blt pc 1 then (bif Nat.beq pc 0 then some (.aload_n 0, 1, [], 0, 0) else none) else (bif Nat.beq pc 1 then some (.getfield 21, 4, [2, 4, 84, 0, 0], 0, 0) else none)) else (bif Nat.blt pc 5 then (bif Nat.beq pc 4 then some (.iload_n 1, 5, [], 0, 0) else none) else (bif Nat.blt pc 6 then (bif Nat.beq pc 5 then some (.iushr, 6, [], 0, 0) else none) else (bif Nat.beq pc 6 then some (.iconst 1, 7, [], 1, 0) else none)))) else (bif Nat.blt pc 12 then (bif Nat.blt pc 8 then (bif Nat.beq pc 7 then some (.iand, 8, [], 0, 0) else none) else (bif Nat.blt pc 11 then (bif Nat.beq pc 8 then some (.ifCond .eq 7, 11, [15], 0, 0) else none) else (bif Nat.beq pc 11 then some (.iconst 1, 12, [], 1, 0) else none))) else (bif Nat.blt pc 15 then (bif Nat.beq pc 12 then some (.goto 4, 15, [16], 0, 0) else none) else (bif Nat.blt pc 16 then (bif Nat.beq pc 15 then some (.iconst 0, 16, [], 0, 0) else none) else (bif Nat.beq pc 16 then some (.ireturn, 17, [1], 0, 0) else none)))))
def k_X2_lookAt (pc : Nat) : Option mE := (bif Nat.blt pc 38 then (bif Nat.blt pc 19 then (bif Nat.blt pc 7 then (bif Nat.blt pc 2 then (bif Nat.blt pc 1 then (bif Nat.beq pc 0 then some (.aload_n 0, 1, [], 0, 0) else none) else (bif Nat.beq pc 1 then some (.iload_n 1, 2, [], 0, 0) else none)) else (bif Nat.blt pc 5 then (bif Nat.beq pc 2 then some (.invokevirtual 83, 5, [52], 0, 0) else none) else (bif Nat.blt pc 6 then (bif Nat.beq pc 5 then some (.aload_n 0, 6, [], 0, 0) else none) else (bif Nat.beq pc 6 then some (.iload_n 1, 7, [], 0, 0) else none)))) else (bif Nat.blt pc 14 then (bif Nat.blt pc 10 then (bif Nat.beq pc 7 then some (.invokevirtual 59, 10, [66], 0, 0) else none) else (bif Nat.blt pc 13 then (bif Nat.beq pc 10 then some (.ifCond .eq 21, 13, [31], 0, 0) else none) else (bif Nat.beq pc 13 then some (.aload_n 0, 14, [], 0, 0) else none))) else (bif Nat.blt pc 15 then (bif Nat.beq pc 14 then some (.iload_n 1, 15, [], 0, 0) else none) else (bif Nat.blt pc 18 then (bif Nat.beq pc 15 then some (.invokevirtual 86, 18, [49], 0, 0) else none) else (bif Nat.beq pc 18 then some (.aload_n 0, 19, [], 0, 0) else none))))) else (bif Nat.blt pc 28 then (bif Nat.blt pc 23 then (bif Nat.blt pc 20 then (bif Nat.beq pc 19 then some (.aload_n 0, 20, [], 0, 0) else none) else (bif Nat.beq pc 20 then some (.getfield 32, 23, [2, 0, 80, 1, 3], 0, 0) else none)) else (bif Nat.blt pc 26 then (bif Nat.beq pc 23 then some (.getfield 89, 26, [3, 4, 124, 1, 224], 0, 0) else none) else (bif Nat.blt pc 27 then (bif Nat.beq pc 26 then some (.iload_n 1, 27, [], 0, 0) else none) else (bif Nat.beq pc 27 then some (.iaload, 28, [], 0, 0) else none)))) else (bif Nat.blt pc 33 then (bif Nat.blt pc 31 then (bif Nat.beq pc 28 then some (.invokevirtual 42, 31, [50], 0, 0) else none) else (bif Nat.blt pc 32 then (bif Nat.beq pc 31 then some (.aload_n 0, 32, [], 0, 0) else none) else (bif Nat.beq pc 32 then some (.iload_n 1, 33, [], 0, 0) else none))) else (bif Nat.blt pc 36 then (bif Nat.beq pc 33 then some (.invokevirtual 86, 36, [49], 0, 0) else none) else (bif Nat.blt pc 37 then (bif Nat.beq pc 36 then some (.aload_n 0, 37, [], 0, 0) else none) else (bif Nat.beq pc 37 then some (.iload_n 1, 38, [], 0, 0) else none)))))) else (bif Nat.blt pc 57 then (bif Nat.blt pc 47 then (bif Nat.blt pc 42 then (bif Nat.blt pc 39 then (bif Nat.beq pc 38 then some (.aload_n 0, 39, [], 0, 0) else none) else (bif Nat.beq pc 39 then some (.getfield 32, 42, [2, 0, 80, 1, 3], 0, 0) else none)) else (bif Nat.blt pc 45 then (bif Nat.beq pc 42 then some (.getfield 63, 45, [3, 0, 120, 1, 220], 0, 0) else none) else (bif Nat.blt pc 46 then (bif Nat.beq pc 45 then some (.iload_n 1, 46, [], 0, 0) else none) else (bif Nat.beq pc 46 then some (.iaload, 47, [], 0, 0) else none)))) else (bif Nat.blt pc 54 then (bif Nat.blt pc 48 then (bif Nat.beq pc 47 then some (.aload_n 0, 48, [], 0, 0) else none) else (bif Nat.blt pc 51 then (bif Nat.beq pc 48 then some (.getfield 32, 51, [2, 0, 80, 1, 3], 0, 0) else none) else (bif Nat.beq pc 51 then some (.getfield 66, 54, [3, 1, 121, 1, 221], 0, 0) else none))) else (bif Nat.blt pc 55 then (bif Nat.beq pc 54 then some (.iload_n 1, 55, [], 0, 0) else none) else (bif Nat.blt pc 56 then (bif Nat.beq pc 55 then some (.iaload, 56, [], 0, 0) else none) else (bif Nat.beq pc 56 then some (.aload_n 0, 57, [], 0, 0) else none))))) else (bif Nat.blt pc 66 then (bif Nat.blt pc 63 then (bif Nat.blt pc 60 then (bif Nat.beq pc 57 then some (.getfield 32, 60, [2, 0, 80, 1, 3], 0, 0) else none) else (bif Nat.beq pc 60 then some (.getfield 76, 63, [3, 2, 122, 1, 222], 0, 0) else none)) else (bif Nat.blt pc 64 then (bif Nat.beq pc 63 then some (.iload_n 1, 64, [], 0, 0) else none) else (bif Nat.blt pc 65 then (bif Nat.beq pc 64 then some (.iaload, 65, [], 0, 0) else none) else (bif Nat.beq pc 65 then some (.aload_n 0, 66, [], 0, 0) else none)))) else (bif Nat.blt pc 73 then (bif Nat.blt pc 69 then (bif Nat.beq pc 66 then some (.getfield 32, 69, [2, 0, 80, 1, 3], 0, 0) else none) else (bif Nat.blt pc 72 then (bif Nat.beq pc 69 then some (.getfield 92, 72, [3, 3, 123, 1, 223], 0, 0) else none) else (bif Nat.beq pc 72 then some (.iload_n 1, 73, [], 0, 0) else none))) else (bif Nat.blt pc 74 then (bif Nat.beq pc 73 then some (.iaload, 74, [], 0, 0) else none) else (bif Nat.blt pc 77 then (bif Nat.beq pc 74 then some (.invokevirtual 95, 77, [55], 0, 0) else none) else (bif Nat.beq pc 77 then some (.return_, 78, [], 0, 0) else none)))))))
def k_X2_begin (pc : Nat) : Option mE := (bif Nat.blt pc 13 then (bif Nat.blt pc 5 then (bif Nat.blt pc 2 then (bif Nat.blt pc 1 then (bif Nat.beq pc 0 then some (.iconst 0, 1, [], 0, 0) else none) else (bif Nat.beq pc 1 then some (.istore_n 2, 2, [], 0, 0) else none)) else (bif Nat.blt pc 3 then (bif Nat.beq pc 2 then some (.iload_n 2, 3, [], 0, 0) else none) else (bif Nat.beq pc 3 then some (.bipush 6, 5, [], 6, 0) else none))) else (bif Nat.blt pc 9 then (bif Nat.blt pc 8 then (bif Nat.beq pc 5 then some (.if_icmp .ge 21, 8, [26], 0, 0) else none) else (bif Nat.beq pc 8 then some (.aload_n 0, 9, [], 0, 0) else none)) else (bif Nat.blt pc 12 then (bif Nat.beq pc 9 then some (.getfield 18, 12, [2, 3, 83, 1, 183], 0, 0) else none) else (bif Nat.beq pc 12 then some (.iload_n 2, 13, [], 0, 0) else none)))) else (bif Nat.blt pc 19 then (bif Nat.blt pc 15 then (bif Nat.blt pc 14 then (bif Nat.beq pc 13 then some (.aload_n 0, 14, [], 0, 0) else none) else (bif Nat.beq pc 14 then some (.iload_n 1, 15, [], 0, 0) else none)) else (bif Nat.blt pc 16 then (bif Nat.beq pc 15 then some (.iload_n 2, 16, [], 0, 0) else none) else (bif Nat.beq pc 16 then some (.invokevirtual 69, 19, [43], 0, 0) else none))) else (bif Nat.blt pc 23 then (bif Nat.blt pc 20 then (bif Nat.beq pc 19 then some (.iastore, 20, [], 0, 0) else none) else (bif Nat.beq pc 20 then some (.iinc 2 1, 23, [], 1, 0) else none)) else (bif Nat.blt pc 26 then (bif Nat.beq pc 23 then some (.goto (-21), 26, [2], 0, 0) else none) else (bif Nat.beq pc 26 then some (.return_, 27, [], 0, 0) else none)))))
def k_X2_goTo (pc : Nat) : Option mE := (bif Nat.blt pc 56 then (bif Nat.blt pc 27 then (bif Nat.blt pc 14 then (bif Nat.blt pc 8 then (bif Nat.blt pc 4 then (bif Nat.blt pc 1 then (bif Nat.beq pc 0 then some (.aload_n 0, 1, [], 0, 0) else none) else (bif Nat.beq pc 1 then some (.getfield 32, 4, [2, 0, 80, 1, 3], 0, 0) else none)) else (bif Nat.blt pc 5 then (bif Nat.beq pc 4 then some (.iload_n 1, 5, [], 0, 0) else none) else (bif Nat.beq pc 5 then some (.invokevirtual 99, 8, [80], 0, 0) else none))) else (bif Nat.blt pc 12 then (bif Nat.blt pc 11 then (bif Nat.beq pc 8 then some (.ifCond .ne 4, 11, [12], 0, 0) else none) else (bif Nat.beq pc 11 then some (.return_, 12, [], 0, 0) else none)) else (bif Nat.blt pc 13 then (bif Nat.beq pc 12 then some (.iconst 0, 13, [], 0, 0) else none) else (bif Nat.beq pc 13 then some (.istore_n 2, 14, [], 0, 0) else none)))) else (bif Nat.blt pc 19 then (bif Nat.blt pc 16 then (bif Nat.blt pc 15 then (bif Nat.beq pc 14 then some (.iconst 0, 15, [], 0, 0) else none) else (bif Nat.beq pc 15 then some (.istore_n 3, 16, [], 0, 0) else none)) else (bif Nat.blt pc 17 then (bif Nat.beq pc 16 then some (.iload_n 3, 17, [], 0, 0) else none) else (bif Nat.beq pc 17 then some (.bipush 6, 19, [], 6, 0) else none))) else (bif Nat.blt pc 23 then (bif Nat.blt pc 22 then (bif Nat.beq pc 19 then some (.if_icmp .ge 64, 22, [83], 0, 0) else none) else (bif Nat.beq pc 22 then some (.iload_n 1, 23, [], 0, 0) else none)) else (bif Nat.blt pc 25 then (bif Nat.beq pc 23 then some (.bipush 6, 25, [], 6, 0) else none) else (bif Nat.blt pc 26 then (bif Nat.beq pc 25 then some (.imul, 26, [], 0, 0) else none) else (bif Nat.beq pc 26 then some (.iload_n 3, 27, [], 0, 0) else none)))))) else (bif Nat.blt pc 40 then (bif Nat.blt pc 34 then (bif Nat.blt pc 30 then (bif Nat.blt pc 28 then (bif Nat.beq pc 27 then some (.iadd, 28, [], 0, 0) else none) else (bif Nat.beq pc 28 then some (.istore 4, 30, [], 0, 0) else none)) else (bif Nat.blt pc 31 then (bif Nat.beq pc 30 then some (.iload_n 2, 31, [], 0, 0) else none) else (bif Nat.beq pc 31 then some (.ifCond .ne 24, 34, [55], 0, 0) else none))) else (bif Nat.blt pc 38 then (bif Nat.blt pc 35 then (bif Nat.beq pc 34 then some (.aload_n 0, 35, [], 0, 0) else none) else (bif Nat.beq pc 35 then some (.getfield 18, 38, [2, 3, 83, 1, 183], 0, 0) else none)) else (bif Nat.blt pc 39 then (bif Nat.beq pc 38 then some (.iload_n 3, 39, [], 0, 0) else none) else (bif Nat.beq pc 39 then some (.iaload, 40, [], 0, 0) else none)))) else (bif Nat.blt pc 47 then (bif Nat.blt pc 44 then (bif Nat.blt pc 41 then (bif Nat.beq pc 40 then some (.aload_n 0, 41, [], 0, 0) else none) else (bif Nat.beq pc 41 then some (.getfield 11, 44, [2, 1, 81, 1, 181], 0, 0) else none)) else (bif Nat.blt pc 46 then (bif Nat.beq pc 44 then some (.iload 4, 46, [], 0, 0) else none) else (bif Nat.beq pc 46 then some (.iaload, 47, [], 0, 0) else none))) else (bif Nat.blt pc 49 then (bif Nat.blt pc 48 then (bif Nat.beq pc 47 then some (.iconst (-1), 48, [], (-1), 0) else none) else (bif Nat.beq pc 48 then some (.ixor, 49, [], 0, 0) else none)) else (bif Nat.blt pc 52 then (bif Nat.beq pc 49 then some (.invokestatic 79, 52, [106], 0, 0) else none) else (bif Nat.blt pc 55 then (bif Nat.beq pc 52 then some (.ifCond .eq 7, 55, [59], 0, 0) else none) else (bif Nat.beq pc 55 then some (.iconst 1, 56, [], 1, 0) else none))))))) else (bif Nat.blt pc 84 then (bif Nat.blt pc 69 then (bif Nat.blt pc 62 then (bif Nat.blt pc 60 then (bif Nat.blt pc 59 then (bif Nat.beq pc 56 then some (.goto 4, 59, [60], 0, 0) else none) else (bif Nat.beq pc 59 then some (.iconst 0, 60, [], 0, 0) else none)) else (bif Nat.blt pc 61 then (bif Nat.beq pc 60 then some (.istore_n 2, 61, [], 0, 0) else none) else (bif Nat.beq pc 61 then some (.aload_n 0, 62, [], 0, 0) else none))) else (bif Nat.blt pc 67 then (bif Nat.blt pc 65 then (bif Nat.beq pc 62 then some (.getfield 11, 65, [2, 1, 81, 1, 181], 0, 0) else none) else (bif Nat.beq pc 65 then some (.iload 4, 67, [], 0, 0) else none)) else (bif Nat.blt pc 68 then (bif Nat.beq pc 67 then some (.dup2, 68, [], 0, 0) else none) else (bif Nat.beq pc 68 then some (.iaload, 69, [], 0, 0) else none)))) else (bif Nat.blt pc 75 then (bif Nat.blt pc 73 then (bif Nat.blt pc 70 then (bif Nat.beq pc 69 then some (.aload_n 0, 70, [], 0, 0) else none) else (bif Nat.beq pc 70 then some (.getfield 18, 73, [2, 3, 83, 1, 183], 0, 0) else none)) else (bif Nat.blt pc 74 then (bif Nat.beq pc 73 then some (.iload_n 3, 74, [], 0, 0) else none) else (bif Nat.beq pc 74 then some (.iaload, 75, [], 0, 0) else none))) else (bif Nat.blt pc 77 then (bif Nat.blt pc 76 then (bif Nat.beq pc 75 then some (.ior, 76, [], 0, 0) else none) else (bif Nat.beq pc 76 then some (.iastore, 77, [], 0, 0) else none)) else (bif Nat.blt pc 80 then (bif Nat.beq pc 77 then some (.iinc 3 1, 80, [], 1, 0) else none) else (bif Nat.blt pc 83 then (bif Nat.beq pc 80 then some (.goto (-64), 83, [16], 0, 0) else none) else (bif Nat.beq pc 83 then some (.aload_n 0, 84, [], 0, 0) else none)))))) else (bif Nat.blt pc 99 then (bif Nat.blt pc 90 then (bif Nat.blt pc 88 then (bif Nat.blt pc 85 then (bif Nat.beq pc 84 then some (.dup, 85, [], 0, 0) else none) else (bif Nat.beq pc 85 then some (.getfield 21, 88, [2, 4, 84, 0, 0], 0, 0) else none)) else (bif Nat.blt pc 89 then (bif Nat.beq pc 88 then some (.iconst 1, 89, [], 1, 0) else none) else (bif Nat.beq pc 89 then some (.iload_n 1, 90, [], 0, 0) else none))) else (bif Nat.blt pc 92 then (bif Nat.blt pc 91 then (bif Nat.beq pc 90 then some (.ishl, 91, [], 0, 0) else none) else (bif Nat.beq pc 91 then some (.ior, 92, [], 0, 0) else none)) else (bif Nat.blt pc 95 then (bif Nat.beq pc 92 then some (.putfield 21, 95, [2, 4, 84, 0, 0], 0, 0) else none) else (bif Nat.blt pc 96 then (bif Nat.beq pc 95 then some (.iload_n 2, 96, [], 0, 0) else none) else (bif Nat.beq pc 96 then some (.ifCond .eq 15, 99, [111], 0, 0) else none))))) else (bif Nat.blt pc 105 then (bif Nat.blt pc 101 then (bif Nat.blt pc 100 then (bif Nat.beq pc 99 then some (.aload_n 0, 100, [], 0, 0) else none) else (bif Nat.beq pc 100 then some (.dup, 101, [], 0, 0) else none)) else (bif Nat.blt pc 104 then (bif Nat.beq pc 101 then some (.getfield 25, 104, [2, 5, 85, 0, 0], 0, 0) else none) else (bif Nat.beq pc 104 then some (.iconst 1, 105, [], 1, 0) else none))) else (bif Nat.blt pc 107 then (bif Nat.blt pc 106 then (bif Nat.beq pc 105 then some (.iload_n 1, 106, [], 0, 0) else none) else (bif Nat.beq pc 106 then some (.ishl, 107, [], 0, 0) else none)) else (bif Nat.blt pc 108 then (bif Nat.beq pc 107 then some (.ior, 108, [], 0, 0) else none) else (bif Nat.blt pc 111 then (bif Nat.beq pc 108 then some (.putfield 25, 111, [2, 5, 85, 0, 0], 0, 0) else none) else (bif Nat.beq pc 111 then some (.return_, 112, [], 0, 0) else none))))))))
def k_X2_addToAll (pc : Nat) : Option mE := (bif Nat.blt pc 20 then (bif Nat.blt pc 8 then (bif Nat.blt pc 5 then (bif Nat.blt pc 1 then (bif Nat.beq pc 0 then some (.iload_n 2, 1, [], 0, 0) else none) else (bif Nat.blt pc 2 then (bif Nat.beq pc 1 then some (.aload_n 0, 2, [], 0, 0) else none) else (bif Nat.beq pc 2 then some (.getfield 15, 5, [2, 2, 82, 1, 182], 0, 0) else none))) else (bif Nat.blt pc 6 then (bif Nat.beq pc 5 then some (.iload_n 1, 6, [], 0, 0) else none) else (bif Nat.blt pc 7 then (bif Nat.beq pc 6 then some (.iaload, 7, [], 0, 0) else none) else (bif Nat.beq pc 7 then some (.iconst (-1), 8, [], (-1), 0) else none)))) else (bif Nat.blt pc 15 then (bif Nat.blt pc 9 then (bif Nat.beq pc 8 then some (.ixor, 9, [], 0, 0) else none) else (bif Nat.blt pc 12 then (bif Nat.beq pc 9 then some (.invokestatic 79, 12, [106], 0, 0) else none) else (bif Nat.beq pc 12 then some (.ifCond .eq 26, 15, [38], 0, 0) else none))) else (bif Nat.blt pc 16 then (bif Nat.beq pc 15 then some (.aload_n 0, 16, [], 0, 0) else none) else (bif Nat.blt pc 19 then (bif Nat.beq pc 16 then some (.getfield 15, 19, [2, 2, 82, 1, 182], 0, 0) else none) else (bif Nat.beq pc 19 then some (.iload_n 1, 20, [], 0, 0) else none))))) else (bif Nat.blt pc 26 then (bif Nat.blt pc 23 then (bif Nat.blt pc 21 then (bif Nat.beq pc 20 then some (.dup2, 21, [], 0, 0) else none) else (bif Nat.blt pc 22 then (bif Nat.beq pc 21 then some (.iaload, 22, [], 0, 0) else none) else (bif Nat.beq pc 22 then some (.iload_n 2, 23, [], 0, 0) else none))) else (bif Nat.blt pc 24 then (bif Nat.beq pc 23 then some (.ior, 24, [], 0, 0) else none) else (bif Nat.blt pc 25 then (bif Nat.beq pc 24 then some (.iastore, 25, [], 0, 0) else none) else (bif Nat.beq pc 25 then some (.aload_n 0, 26, [], 0, 0) else none)))) else (bif Nat.blt pc 31 then (bif Nat.blt pc 27 then (bif Nat.beq pc 26 then some (.dup, 27, [], 0, 0) else none) else (bif Nat.blt pc 30 then (bif Nat.beq pc 27 then some (.getfield 25, 30, [2, 5, 85, 0, 0], 0, 0) else none) else (bif Nat.beq pc 30 then some (.aload_n 0, 31, [], 0, 0) else none))) else (bif Nat.blt pc 35 then (bif Nat.blt pc 34 then (bif Nat.beq pc 31 then some (.getfield 21, 34, [2, 4, 84, 0, 0], 0, 0) else none) else (bif Nat.beq pc 34 then some (.ior, 35, [], 0, 0) else none)) else (bif Nat.blt pc 38 then (bif Nat.beq pc 35 then some (.putfield 25, 38, [2, 5, 85, 0, 0], 0, 0) else none) else (bif Nat.beq pc 38 then some (.return_, 39, [], 0, 0) else none))))))
def k_X2_store (pc : Nat) : Option mE := (bif Nat.blt pc 54 then (bif Nat.blt pc 28 then (bif Nat.blt pc 11 then (bif Nat.blt pc 7 then (bif Nat.blt pc 1 then (bif Nat.beq pc 0 then some (.aload_n 0, 1, [], 0, 0) else none) else (bif Nat.blt pc 4 then (bif Nat.beq pc 1 then some (.getfield 32, 4, [2, 0, 80, 1, 3], 0, 0) else none) else (bif Nat.beq pc 4 then some (.getfield 63, 7, [3, 0, 120, 1, 220], 0, 0) else none))) else (bif Nat.blt pc 9 then (bif Nat.blt pc 8 then (bif Nat.beq pc 7 then some (.iload_n 1, 8, [], 0, 0) else none) else (bif Nat.beq pc 8 then some (.iaload, 9, [], 0, 0) else none)) else (bif Nat.blt pc 10 then (bif Nat.beq pc 9 then some (.istore_n 2, 10, [], 0, 0) else none) else (bif Nat.beq pc 10 then some (.iload_n 2, 11, [], 0, 0) else none)))) else (bif Nat.blt pc 19 then (bif Nat.blt pc 16 then (bif Nat.blt pc 13 then (bif Nat.beq pc 11 then some (.bipush 8, 13, [], 8, 0) else none) else (bif Nat.beq pc 13 then some (.if_icmp .eq 16, 16, [29], 0, 0) else none)) else (bif Nat.blt pc 17 then (bif Nat.beq pc 16 then some (.iload_n 2, 17, [], 0, 0) else none) else (bif Nat.beq pc 17 then some (.bipush 10, 19, [], 10, 0) else none))) else (bif Nat.blt pc 23 then (bif Nat.blt pc 22 then (bif Nat.beq pc 19 then some (.if_icmp .eq 10, 22, [29], 0, 0) else none) else (bif Nat.beq pc 22 then some (.iload_n 2, 23, [], 0, 0) else none)) else (bif Nat.blt pc 25 then (bif Nat.beq pc 23 then some (.bipush 22, 25, [], 22, 0) else none) else (bif Nat.beq pc 25 then some (.if_icmp .eq 4, 28, [29], 0, 0) else none))))) else (bif Nat.blt pc 40 then (bif Nat.blt pc 32 then (bif Nat.blt pc 30 then (bif Nat.blt pc 29 then (bif Nat.beq pc 28 then some (.return_, 29, [], 0, 0) else none) else (bif Nat.beq pc 29 then some (.aload_n 0, 30, [], 0, 0) else none)) else (bif Nat.blt pc 31 then (bif Nat.beq pc 30 then some (.iload_n 1, 31, [], 0, 0) else none) else (bif Nat.beq pc 31 then some (.aload_n 0, 32, [], 0, 0) else none))) else (bif Nat.blt pc 38 then (bif Nat.blt pc 35 then (bif Nat.beq pc 32 then some (.getfield 32, 35, [2, 0, 80, 1, 3], 0, 0) else none) else (bif Nat.beq pc 35 then some (.getfield 66, 38, [3, 1, 121, 1, 221], 0, 0) else none)) else (bif Nat.blt pc 39 then (bif Nat.beq pc 38 then some (.iload_n 1, 39, [], 0, 0) else none) else (bif Nat.beq pc 39 then some (.iaload, 40, [], 0, 0) else none)))) else (bif Nat.blt pc 46 then (bif Nat.blt pc 44 then (bif Nat.blt pc 43 then (bif Nat.beq pc 40 then some (.invokevirtual 69, 43, [43], 0, 0) else none) else (bif Nat.beq pc 43 then some (.istore_n 3, 44, [], 0, 0) else none)) else (bif Nat.blt pc 45 then (bif Nat.beq pc 44 then some (.aload_n 0, 45, [], 0, 0) else none) else (bif Nat.beq pc 45 then some (.iload_n 1, 46, [], 0, 0) else none))) else (bif Nat.blt pc 50 then (bif Nat.blt pc 47 then (bif Nat.beq pc 46 then some (.aload_n 0, 47, [], 0, 0) else none) else (bif Nat.beq pc 47 then some (.getfield 32, 50, [2, 0, 80, 1, 3], 0, 0) else none)) else (bif Nat.blt pc 53 then (bif Nat.beq pc 50 then some (.getfield 76, 53, [3, 2, 122, 1, 222], 0, 0) else none) else (bif Nat.beq pc 53 then some (.iload_n 1, 54, [], 0, 0) else none)))))) else (bif Nat.blt pc 85 then (bif Nat.blt pc 67 then (bif Nat.blt pc 60 then (bif Nat.blt pc 55 then (bif Nat.beq pc 54 then some (.iaload, 55, [], 0, 0) else none) else (bif Nat.blt pc 58 then (bif Nat.beq pc 55 then some (.invokevirtual 69, 58, [43], 0, 0) else none) else (bif Nat.beq pc 58 then some (.istore 4, 60, [], 0, 0) else none))) else (bif Nat.blt pc 63 then (bif Nat.blt pc 61 then (bif Nat.beq pc 60 then some (.iload_n 2, 61, [], 0, 0) else none) else (bif Nat.beq pc 61 then some (.bipush 8, 63, [], 8, 0) else none)) else (bif Nat.blt pc 66 then (bif Nat.beq pc 63 then some (.if_icmp .ne 22, 66, [85], 0, 0) else none) else (bif Nat.beq pc 66 then some (.iload_n 3, 67, [], 0, 0) else none)))) else (bif Nat.blt pc 76 then (bif Nat.blt pc 72 then (bif Nat.blt pc 69 then (bif Nat.beq pc 67 then some (.bipush 30, 69, [], 30, 0) else none) else (bif Nat.beq pc 69 then some (.invokestatic 79, 72, [106], 0, 0) else none)) else (bif Nat.blt pc 75 then (bif Nat.beq pc 72 then some (.ifCond .eq 13, 75, [85], 0, 0) else none) else (bif Nat.beq pc 75 then some (.aload_n 0, 76, [], 0, 0) else none))) else (bif Nat.blt pc 79 then (bif Nat.blt pc 77 then (bif Nat.beq pc 76 then some (.iconst 0, 77, [], 0, 0) else none) else (bif Nat.beq pc 77 then some (.iload 4, 79, [], 0, 0) else none)) else (bif Nat.blt pc 82 then (bif Nat.beq pc 79 then some (.invokevirtual 102, 82, [51], 0, 0) else none) else (bif Nat.beq pc 82 then some (.goto 32, 85, [114], 0, 0) else none))))) else (bif Nat.blt pc 101 then (bif Nat.blt pc 92 then (bif Nat.blt pc 88 then (bif Nat.blt pc 86 then (bif Nat.beq pc 85 then some (.iload_n 2, 86, [], 0, 0) else none) else (bif Nat.beq pc 86 then some (.bipush 10, 88, [], 10, 0) else none)) else (bif Nat.blt pc 91 then (bif Nat.beq pc 88 then some (.if_icmp .ne 13, 91, [101], 0, 0) else none) else (bif Nat.beq pc 91 then some (.aload_n 0, 92, [], 0, 0) else none))) else (bif Nat.blt pc 95 then (bif Nat.blt pc 93 then (bif Nat.beq pc 92 then some (.iload_n 3, 93, [], 0, 0) else none) else (bif Nat.beq pc 93 then some (.iload 4, 95, [], 0, 0) else none)) else (bif Nat.blt pc 98 then (bif Nat.beq pc 95 then some (.invokevirtual 106, 98, [53], 0, 0) else none) else (bif Nat.beq pc 98 then some (.goto 16, 101, [114], 0, 0) else none)))) else (bif Nat.blt pc 108 then (bif Nat.blt pc 104 then (bif Nat.blt pc 102 then (bif Nat.beq pc 101 then some (.iload_n 2, 102, [], 0, 0) else none) else (bif Nat.beq pc 102 then some (.bipush 22, 104, [], 22, 0) else none)) else (bif Nat.blt pc 107 then (bif Nat.beq pc 104 then some (.if_icmp .ne 10, 107, [114], 0, 0) else none) else (bif Nat.beq pc 107 then some (.aload_n 0, 108, [], 0, 0) else none))) else (bif Nat.blt pc 111 then (bif Nat.blt pc 109 then (bif Nat.beq pc 108 then some (.iload_n 3, 109, [], 0, 0) else none) else (bif Nat.beq pc 109 then some (.iload 4, 111, [], 0, 0) else none)) else (bif Nat.blt pc 114 then (bif Nat.beq pc 111 then some (.invokevirtual 109, 114, [54], 0, 0) else none) else (bif Nat.beq pc 114 then some (.return_, 115, [], 0, 0) else none)))))))
def k_X2_storeCell (pc : Nat) : Option mE := (bif Nat.blt pc 23 then (bif Nat.blt pc 12 then (bif Nat.blt pc 7 then (bif Nat.blt pc 1 then (bif Nat.beq pc 0 then some (.iload_n 1, 1, [], 0, 0) else none) else (bif Nat.blt pc 4 then (bif Nat.beq pc 1 then some (.sipush 128, 4, [], 128, 0) else none) else (bif Nat.beq pc 4 then some (.invokestatic 79, 7, [106], 0, 0) else none))) else (bif Nat.blt pc 10 then (bif Nat.beq pc 7 then some (.ifCond .eq 16, 10, [23], 0, 0) else none) else (bif Nat.blt pc 11 then (bif Nat.beq pc 10 then some (.aload_n 0, 11, [], 0, 0) else none) else (bif Nat.beq pc 11 then some (.iconst 1, 12, [], 1, 0) else none)))) else (bif Nat.blt pc 18 then (bif Nat.blt pc 13 then (bif Nat.beq pc 12 then some (.iload_n 2, 13, [], 0, 0) else none) else (bif Nat.blt pc 16 then (bif Nat.beq pc 13 then some (.getstatic 112, 16, [501], 0, 0) else none) else (bif Nat.beq pc 16 then some (.bipush 7, 18, [], 7, 0) else none))) else (bif Nat.blt pc 19 then (bif Nat.beq pc 18 then some (.iaload, 19, [], 0, 0) else none) else (bif Nat.blt pc 20 then (bif Nat.beq pc 19 then some (.iand, 20, [], 0, 0) else none) else (bif Nat.beq pc 20 then some (.invokevirtual 102, 23, [51], 0, 0) else none))))) else (bif Nat.blt pc 35 then (bif Nat.blt pc 30 then (bif Nat.blt pc 24 then (bif Nat.beq pc 23 then some (.iload_n 1, 24, [], 0, 0) else none) else (bif Nat.blt pc 27 then (bif Nat.beq pc 24 then some (.sipush 256, 27, [], 256, 0) else none) else (bif Nat.beq pc 27 then some (.invokestatic 79, 30, [106], 0, 0) else none))) else (bif Nat.blt pc 33 then (bif Nat.beq pc 30 then some (.ifCond .eq 16, 33, [46], 0, 0) else none) else (bif Nat.blt pc 34 then (bif Nat.beq pc 33 then some (.aload_n 0, 34, [], 0, 0) else none) else (bif Nat.beq pc 34 then some (.iconst 2, 35, [], 2, 0) else none)))) else (bif Nat.blt pc 41 then (bif Nat.blt pc 36 then (bif Nat.beq pc 35 then some (.iload_n 2, 36, [], 0, 0) else none) else (bif Nat.blt pc 39 then (bif Nat.beq pc 36 then some (.getstatic 112, 39, [501], 0, 0) else none) else (bif Nat.beq pc 39 then some (.bipush 8, 41, [], 8, 0) else none))) else (bif Nat.blt pc 43 then (bif Nat.blt pc 42 then (bif Nat.beq pc 41 then some (.iaload, 42, [], 0, 0) else none) else (bif Nat.beq pc 42 then some (.iand, 43, [], 0, 0) else none)) else (bif Nat.blt pc 46 then (bif Nat.beq pc 43 then some (.invokevirtual 102, 46, [51], 0, 0) else none) else (bif Nat.beq pc 46 then some (.return_, 47, [], 0, 0) else none))))))
def k_X2_storeMoved (pc : Nat) : Option mE := (bif Nat.blt pc 38 then (bif Nat.blt pc 21 then (bif Nat.blt pc 10 then (bif Nat.blt pc 4 then (bif Nat.blt pc 1 then (bif Nat.beq pc 0 then some (.iload_n 1, 1, [], 0, 0) else none) else (bif Nat.beq pc 1 then some (.sipush 128, 4, [], 128, 0) else none)) else (bif Nat.blt pc 7 then (bif Nat.beq pc 4 then some (.invokestatic 79, 7, [106], 0, 0) else none) else (bif Nat.beq pc 7 then some (.ifCond .eq 31, 10, [38], 0, 0) else none))) else (bif Nat.blt pc 14 then (bif Nat.blt pc 11 then (bif Nat.beq pc 10 then some (.iload_n 2, 11, [], 0, 0) else none) else (bif Nat.beq pc 11 then some (.sipush 256, 14, [], 256, 0) else none)) else (bif Nat.blt pc 17 then (bif Nat.beq pc 14 then some (.invokestatic 79, 17, [106], 0, 0) else none) else (bif Nat.blt pc 20 then (bif Nat.beq pc 17 then some (.ifCond .eq 21, 20, [38], 0, 0) else none) else (bif Nat.beq pc 20 then some (.aload_n 0, 21, [], 0, 0) else none))))) else (bif Nat.blt pc 28 then (bif Nat.blt pc 23 then (bif Nat.blt pc 22 then (bif Nat.beq pc 21 then some (.iconst 2, 22, [], 2, 0) else none) else (bif Nat.beq pc 22 then some (.aload_n 0, 23, [], 0, 0) else none)) else (bif Nat.blt pc 26 then (bif Nat.beq pc 23 then some (.getfield 15, 26, [2, 2, 82, 1, 182], 0, 0) else none) else (bif Nat.blt pc 27 then (bif Nat.beq pc 26 then some (.iconst 1, 27, [], 1, 0) else none) else (bif Nat.beq pc 27 then some (.iaload, 28, [], 0, 0) else none)))) else (bif Nat.blt pc 33 then (bif Nat.blt pc 31 then (bif Nat.beq pc 28 then some (.getstatic 112, 31, [501], 0, 0) else none) else (bif Nat.beq pc 31 then some (.bipush 8, 33, [], 8, 0) else none)) else (bif Nat.blt pc 34 then (bif Nat.beq pc 33 then some (.iaload, 34, [], 0, 0) else none) else (bif Nat.blt pc 35 then (bif Nat.beq pc 34 then some (.iand, 35, [], 0, 0) else none) else (bif Nat.beq pc 35 then some (.invokevirtual 102, 38, [51], 0, 0) else none)))))) else (bif Nat.blt pc 60 then (bif Nat.blt pc 49 then (bif Nat.blt pc 42 then (bif Nat.blt pc 39 then (bif Nat.beq pc 38 then some (.iload_n 1, 39, [], 0, 0) else none) else (bif Nat.beq pc 39 then some (.sipush 256, 42, [], 256, 0) else none)) else (bif Nat.blt pc 45 then (bif Nat.beq pc 42 then some (.invokestatic 79, 45, [106], 0, 0) else none) else (bif Nat.blt pc 48 then (bif Nat.beq pc 45 then some (.ifCond .eq 31, 48, [76], 0, 0) else none) else (bif Nat.beq pc 48 then some (.iload_n 2, 49, [], 0, 0) else none)))) else (bif Nat.blt pc 55 then (bif Nat.blt pc 52 then (bif Nat.beq pc 49 then some (.sipush 128, 52, [], 128, 0) else none) else (bif Nat.beq pc 52 then some (.invokestatic 79, 55, [106], 0, 0) else none)) else (bif Nat.blt pc 58 then (bif Nat.beq pc 55 then some (.ifCond .eq 21, 58, [76], 0, 0) else none) else (bif Nat.blt pc 59 then (bif Nat.beq pc 58 then some (.aload_n 0, 59, [], 0, 0) else none) else (bif Nat.beq pc 59 then some (.iconst 1, 60, [], 1, 0) else none))))) else (bif Nat.blt pc 69 then (bif Nat.blt pc 64 then (bif Nat.blt pc 61 then (bif Nat.beq pc 60 then some (.aload_n 0, 61, [], 0, 0) else none) else (bif Nat.beq pc 61 then some (.getfield 15, 64, [2, 2, 82, 1, 182], 0, 0) else none)) else (bif Nat.blt pc 65 then (bif Nat.beq pc 64 then some (.iconst 2, 65, [], 2, 0) else none) else (bif Nat.blt pc 66 then (bif Nat.beq pc 65 then some (.iaload, 66, [], 0, 0) else none) else (bif Nat.beq pc 66 then some (.getstatic 112, 69, [501], 0, 0) else none)))) else (bif Nat.blt pc 72 then (bif Nat.blt pc 71 then (bif Nat.beq pc 69 then some (.bipush 7, 71, [], 7, 0) else none) else (bif Nat.beq pc 71 then some (.iaload, 72, [], 0, 0) else none)) else (bif Nat.blt pc 73 then (bif Nat.beq pc 72 then some (.iand, 73, [], 0, 0) else none) else (bif Nat.blt pc 76 then (bif Nat.beq pc 73 then some (.invokevirtual 102, 76, [51], 0, 0) else none) else (bif Nat.beq pc 76 then some (.return_, 77, [], 0, 0) else none)))))))
def k_X2_goOn (pc : Nat) : Option mE := (bif Nat.blt pc 128 then (bif Nat.blt pc 111 then (bif Nat.blt pc 101 then (bif Nat.blt pc 96 then (bif Nat.blt pc 1 then (bif Nat.beq pc 0 then some (.iload_n 2, 1, [], 0, 0) else none) else (bif Nat.beq pc 1 then some (.tableswitch 145 4 23 #[95, 109, 145, 145, 145, 145, 145, 145, 145, 145, 145, 145, 145, 145, 145, 118, 134, 142, 145, 142], 96, [146, 96, 110, 146, 146, 146, 146, 146, 146, 146, 146, 146, 146, 146, 146, 146, 119, 135, 143, 146, 143], 0, 0) else none)) else (bif Nat.blt pc 97 then (bif Nat.beq pc 96 then some (.aload_n 0, 97, [], 0, 0) else none) else (bif Nat.blt pc 98 then (bif Nat.beq pc 97 then some (.iload_n 1, 98, [], 0, 0) else none) else (bif Nat.beq pc 98 then some (.getstatic 73, 101, [500], 0, 0) else none)))) else (bif Nat.blt pc 104 then (bif Nat.blt pc 103 then (bif Nat.beq pc 101 then some (.iload 4, 103, [], 0, 0) else none) else (bif Nat.beq pc 103 then some (.iaload, 104, [], 0, 0) else none)) else (bif Nat.blt pc 107 then (bif Nat.beq pc 104 then some (.invokevirtual 115, 107, [56], 0, 0) else none) else (bif Nat.blt pc 110 then (bif Nat.beq pc 107 then some (.goto 59, 110, [166], 0, 0) else none) else (bif Nat.beq pc 110 then some (.aload_n 0, 111, [], 0, 0) else none))))) else (bif Nat.blt pc 120 then (bif Nat.blt pc 113 then (bif Nat.blt pc 112 then (bif Nat.beq pc 111 then some (.iload_n 1, 112, [], 0, 0) else none) else (bif Nat.beq pc 112 then some (.iconst 1, 113, [], 1, 0) else none)) else (bif Nat.blt pc 116 then (bif Nat.beq pc 113 then some (.invokevirtual 115, 116, [56], 0, 0) else none) else (bif Nat.blt pc 119 then (bif Nat.beq pc 116 then some (.goto 50, 119, [166], 0, 0) else none) else (bif Nat.beq pc 119 then some (.aload_n 0, 120, [], 0, 0) else none)))) else (bif Nat.blt pc 125 then (bif Nat.blt pc 122 then (bif Nat.beq pc 120 then some (.iload 5, 122, [], 0, 0) else none) else (bif Nat.beq pc 122 then some (.invokevirtual 42, 125, [50], 0, 0) else none)) else (bif Nat.blt pc 126 then (bif Nat.beq pc 125 then some (.aload_n 0, 126, [], 0, 0) else none) else (bif Nat.blt pc 127 then (bif Nat.beq pc 126 then some (.iload_n 1, 127, [], 0, 0) else none) else (bif Nat.beq pc 127 then some (.iconst 1, 128, [], 1, 0) else none)))))) else (bif Nat.blt pc 148 then (bif Nat.blt pc 137 then (bif Nat.blt pc 132 then (bif Nat.blt pc 129 then (bif Nat.beq pc 128 then some (.iadd, 129, [], 0, 0) else none) else (bif Nat.beq pc 129 then some (.invokevirtual 42, 132, [50], 0, 0) else none)) else (bif Nat.blt pc 135 then (bif Nat.beq pc 132 then some (.goto 34, 135, [166], 0, 0) else none) else (bif Nat.blt pc 136 then (bif Nat.beq pc 135 then some (.aload_n 0, 136, [], 0, 0) else none) else (bif Nat.beq pc 136 then some (.iload_n 3, 137, [], 0, 0) else none)))) else (bif Nat.blt pc 143 then (bif Nat.blt pc 140 then (bif Nat.beq pc 137 then some (.invokevirtual 42, 140, [50], 0, 0) else none) else (bif Nat.beq pc 140 then some (.goto 26, 143, [166], 0, 0) else none)) else (bif Nat.blt pc 146 then (bif Nat.beq pc 143 then some (.goto 23, 146, [166], 0, 0) else none) else (bif Nat.blt pc 147 then (bif Nat.beq pc 146 then some (.aload_n 0, 147, [], 0, 0) else none) else (bif Nat.beq pc 147 then some (.iload_n 2, 148, [], 0, 0) else none))))) else (bif Nat.blt pc 159 then (bif Nat.blt pc 151 then (bif Nat.blt pc 149 then (bif Nat.beq pc 148 then some (.iload_n 3, 149, [], 0, 0) else none) else (bif Nat.beq pc 149 then some (.iload 4, 151, [], 0, 0) else none)) else (bif Nat.blt pc 153 then (bif Nat.beq pc 151 then some (.iload 5, 153, [], 0, 0) else none) else (bif Nat.blt pc 156 then (bif Nat.beq pc 153 then some (.invokevirtual 118, 156, [57], 0, 0) else none) else (bif Nat.beq pc 156 then some (.ifCond .eq 10, 159, [166], 0, 0) else none)))) else (bif Nat.blt pc 162 then (bif Nat.blt pc 160 then (bif Nat.beq pc 159 then some (.aload_n 0, 160, [], 0, 0) else none) else (bif Nat.blt pc 161 then (bif Nat.beq pc 160 then some (.iload_n 1, 161, [], 0, 0) else none) else (bif Nat.beq pc 161 then some (.iconst 1, 162, [], 1, 0) else none))) else (bif Nat.blt pc 163 then (bif Nat.beq pc 162 then some (.iadd, 163, [], 0, 0) else none) else (bif Nat.blt pc 166 then (bif Nat.beq pc 163 then some (.invokevirtual 42, 166, [50], 0, 0) else none) else (bif Nat.beq pc 166 then some (.return_, 167, [], 0, 0) else none)))))))
def k_X2_goBothWays (pc : Nat) : Option mE := (bif Nat.blt pc 29 then (bif Nat.blt pc 12 then (bif Nat.blt pc 8 then (bif Nat.blt pc 4 then (bif Nat.blt pc 1 then (bif Nat.beq pc 0 then some (.aload_n 0, 1, [], 0, 0) else none) else (bif Nat.beq pc 1 then some (.getfield 32, 4, [2, 0, 80, 1, 3], 0, 0) else none)) else (bif Nat.blt pc 7 then (bif Nat.beq pc 4 then some (.getfield 66, 7, [3, 1, 121, 1, 221], 0, 0) else none) else (bif Nat.beq pc 7 then some (.iload_n 1, 8, [], 0, 0) else none))) else (bif Nat.blt pc 10 then (bif Nat.blt pc 9 then (bif Nat.beq pc 8 then some (.iaload, 9, [], 0, 0) else none) else (bif Nat.beq pc 9 then some (.istore_n 3, 10, [], 0, 0) else none)) else (bif Nat.blt pc 11 then (bif Nat.beq pc 10 then some (.aload_n 0, 11, [], 0, 0) else none) else (bif Nat.beq pc 11 then some (.iload_n 3, 12, [], 0, 0) else none)))) else (bif Nat.blt pc 20 then (bif Nat.blt pc 16 then (bif Nat.blt pc 13 then (bif Nat.beq pc 12 then some (.iload_n 2, 13, [], 0, 0) else none) else (bif Nat.beq pc 13 then some (.invokevirtual 122, 16, [59], 0, 0) else none)) else (bif Nat.blt pc 19 then (bif Nat.beq pc 16 then some (.ifCond .eq 16, 19, [32], 0, 0) else none) else (bif Nat.beq pc 19 then some (.aload_n 0, 20, [], 0, 0) else none))) else (bif Nat.blt pc 24 then (bif Nat.blt pc 21 then (bif Nat.beq pc 20 then some (.aload_n 0, 21, [], 0, 0) else none) else (bif Nat.beq pc 21 then some (.getfield 32, 24, [2, 0, 80, 1, 3], 0, 0) else none)) else (bif Nat.blt pc 27 then (bif Nat.beq pc 24 then some (.getfield 92, 27, [3, 3, 123, 1, 223], 0, 0) else none) else (bif Nat.blt pc 28 then (bif Nat.beq pc 27 then some (.iload_n 1, 28, [], 0, 0) else none) else (bif Nat.beq pc 28 then some (.iaload, 29, [], 0, 0) else none)))))) else (bif Nat.blt pc 41 then (bif Nat.blt pc 37 then (bif Nat.blt pc 33 then (bif Nat.blt pc 32 then (bif Nat.beq pc 29 then some (.invokevirtual 42, 32, [50], 0, 0) else none) else (bif Nat.beq pc 32 then some (.aload_n 0, 33, [], 0, 0) else none)) else (bif Nat.blt pc 34 then (bif Nat.beq pc 33 then some (.iload_n 1, 34, [], 0, 0) else none) else (bif Nat.beq pc 34 then some (.invokevirtual 86, 37, [49], 0, 0) else none))) else (bif Nat.blt pc 39 then (bif Nat.blt pc 38 then (bif Nat.beq pc 37 then some (.aload_n 0, 38, [], 0, 0) else none) else (bif Nat.beq pc 38 then some (.iload_n 3, 39, [], 0, 0) else none)) else (bif Nat.blt pc 40 then (bif Nat.beq pc 39 then some (.iload_n 2, 40, [], 0, 0) else none) else (bif Nat.beq pc 40 then some (.iconst (-1), 41, [], (-1), 0) else none)))) else (bif Nat.blt pc 49 then (bif Nat.blt pc 45 then (bif Nat.blt pc 42 then (bif Nat.beq pc 41 then some (.ixor, 42, [], 0, 0) else none) else (bif Nat.beq pc 42 then some (.invokevirtual 122, 45, [59], 0, 0) else none)) else (bif Nat.blt pc 48 then (bif Nat.beq pc 45 then some (.ifCond .eq 10, 48, [55], 0, 0) else none) else (bif Nat.beq pc 48 then some (.aload_n 0, 49, [], 0, 0) else none))) else (bif Nat.blt pc 51 then (bif Nat.blt pc 50 then (bif Nat.beq pc 49 then some (.iload_n 1, 50, [], 0, 0) else none) else (bif Nat.beq pc 50 then some (.iconst 1, 51, [], 1, 0) else none)) else (bif Nat.blt pc 52 then (bif Nat.beq pc 51 then some (.iadd, 52, [], 0, 0) else none) else (bif Nat.blt pc 55 then (bif Nat.beq pc 52 then some (.invokevirtual 42, 55, [50], 0, 0) else none) else (bif Nat.beq pc 55 then some (.return_, 56, [], 0, 0) else none)))))))
def k_X2_pass (pc : Nat) : Option mE := (bif Nat.blt pc 225 then (bif Nat.blt pc 160 then (bif Nat.blt pc 131 then (bif Nat.blt pc 116 then (bif Nat.blt pc 110 then (bif Nat.blt pc 108 then (bif Nat.blt pc 1 then (bif Nat.beq pc 0 then some (.iload_n 1, 1, [], 0, 0) else none) else (bif Nat.beq pc 1 then some (.tableswitch 342 0 22 #[107, 114, 114, 124, 342, 342, 136, 172, 202, 210, 248, 273, 273, 284, 293, 305, 342, 342, 342, 342, 342, 342, 317], 108, [343, 108, 115, 115, 125, 343, 343, 137, 173, 203, 211, 249, 274, 274, 285, 294, 306, 343, 343, 343, 343, 343, 343, 318], 0, 0) else none)) else (bif Nat.blt pc 109 then (bif Nat.beq pc 108 then some (.aload_n 0, 109, [], 0, 0) else none) else (bif Nat.beq pc 109 then some (.iload_n 2, 110, [], 0, 0) else none))) else (bif Nat.blt pc 114 then (bif Nat.blt pc 111 then (bif Nat.beq pc 110 then some (.iconst 1, 111, [], 1, 0) else none) else (bif Nat.beq pc 111 then some (.invokevirtual 125, 114, [58], 0, 0) else none)) else (bif Nat.blt pc 115 then (bif Nat.beq pc 114 then some (.ireturn, 115, [1], 0, 0) else none) else (bif Nat.beq pc 115 then some (.aload_n 0, 116, [], 0, 0) else none)))) else (bif Nat.blt pc 124 then (bif Nat.blt pc 118 then (bif Nat.blt pc 117 then (bif Nat.beq pc 116 then some (.iload_n 2, 117, [], 0, 0) else none) else (bif Nat.beq pc 117 then some (.iload_n 3, 118, [], 0, 0) else none)) else (bif Nat.blt pc 121 then (bif Nat.beq pc 118 then some (.invokestatic 128, 121, [104], 0, 0) else none) else (bif Nat.beq pc 121 then some (.invokevirtual 125, 124, [58], 0, 0) else none))) else (bif Nat.blt pc 126 then (bif Nat.blt pc 125 then (bif Nat.beq pc 124 then some (.ireturn, 125, [1], 0, 0) else none) else (bif Nat.beq pc 125 then some (.aload_n 0, 126, [], 0, 0) else none)) else (bif Nat.blt pc 127 then (bif Nat.beq pc 126 then some (.iload_n 2, 127, [], 0, 0) else none) else (bif Nat.blt pc 128 then (bif Nat.beq pc 127 then some (.aload_n 0, 128, [], 0, 0) else none) else (bif Nat.beq pc 128 then some (.getfield 18, 131, [2, 3, 83, 1, 183], 0, 0) else none)))))) else (bif Nat.blt pc 144 then (bif Nat.blt pc 137 then (bif Nat.blt pc 133 then (bif Nat.blt pc 132 then (bif Nat.beq pc 131 then some (.iload_n 3, 132, [], 0, 0) else none) else (bif Nat.beq pc 132 then some (.iaload, 133, [], 0, 0) else none)) else (bif Nat.blt pc 136 then (bif Nat.beq pc 133 then some (.invokevirtual 125, 136, [58], 0, 0) else none) else (bif Nat.beq pc 136 then some (.ireturn, 137, [1], 0, 0) else none))) else (bif Nat.blt pc 139 then (bif Nat.blt pc 138 then (bif Nat.beq pc 137 then some (.aload_n 0, 138, [], 0, 0) else none) else (bif Nat.beq pc 138 then some (.iload_n 2, 139, [], 0, 0) else none)) else (bif Nat.blt pc 142 then (bif Nat.beq pc 139 then some (.getstatic 73, 142, [500], 0, 0) else none) else (bif Nat.blt pc 143 then (bif Nat.beq pc 142 then some (.iload_n 3, 143, [], 0, 0) else none) else (bif Nat.beq pc 143 then some (.iaload, 144, [], 0, 0) else none))))) else (bif Nat.blt pc 152 then (bif Nat.blt pc 146 then (bif Nat.blt pc 145 then (bif Nat.beq pc 144 then some (.iconst 1, 145, [], 1, 0) else none) else (bif Nat.beq pc 145 then some (.ior, 146, [], 0, 0) else none)) else (bif Nat.blt pc 149 then (bif Nat.beq pc 146 then some (.invokevirtual 122, 149, [59], 0, 0) else none) else (bif Nat.beq pc 149 then some (.ifCond .eq 22, 152, [171], 0, 0) else none))) else (bif Nat.blt pc 155 then (bif Nat.blt pc 153 then (bif Nat.beq pc 152 then some (.aload_n 0, 153, [], 0, 0) else none) else (bif Nat.beq pc 153 then some (.iload 4, 155, [], 0, 0) else none)) else (bif Nat.blt pc 156 then (bif Nat.beq pc 155 then some (.aload_n 0, 156, [], 0, 0) else none) else (bif Nat.blt pc 159 then (bif Nat.beq pc 156 then some (.getfield 18, 159, [2, 3, 83, 1, 183], 0, 0) else none) else (bif Nat.beq pc 159 then some (.iload_n 2, 160, [], 0, 0) else none))))))) else (bif Nat.blt pc 191 then (bif Nat.blt pc 175 then (bif Nat.blt pc 168 then (bif Nat.blt pc 164 then (bif Nat.blt pc 161 then (bif Nat.beq pc 160 then some (.iaload, 161, [], 0, 0) else none) else (bif Nat.beq pc 161 then some (.invokevirtual 125, 164, [58], 0, 0) else none)) else (bif Nat.blt pc 167 then (bif Nat.beq pc 164 then some (.ifCond .eq 7, 167, [171], 0, 0) else none) else (bif Nat.beq pc 167 then some (.iconst 1, 168, [], 1, 0) else none))) else (bif Nat.blt pc 172 then (bif Nat.blt pc 171 then (bif Nat.beq pc 168 then some (.goto 4, 171, [172], 0, 0) else none) else (bif Nat.beq pc 171 then some (.iconst 0, 172, [], 0, 0) else none)) else (bif Nat.blt pc 173 then (bif Nat.beq pc 172 then some (.ireturn, 173, [1], 0, 0) else none) else (bif Nat.blt pc 174 then (bif Nat.beq pc 173 then some (.aload_n 0, 174, [], 0, 0) else none) else (bif Nat.beq pc 174 then some (.iload_n 3, 175, [], 0, 0) else none))))) else (bif Nat.blt pc 184 then (bif Nat.blt pc 180 then (bif Nat.blt pc 177 then (bif Nat.beq pc 175 then some (.bipush 30, 177, [], 30, 0) else none) else (bif Nat.beq pc 177 then some (.invokevirtual 122, 180, [59], 0, 0) else none)) else (bif Nat.blt pc 183 then (bif Nat.beq pc 180 then some (.ifCond .eq 21, 183, [201], 0, 0) else none) else (bif Nat.beq pc 183 then some (.aload_n 0, 184, [], 0, 0) else none))) else (bif Nat.blt pc 186 then (bif Nat.blt pc 185 then (bif Nat.beq pc 184 then some (.iload_n 2, 185, [], 0, 0) else none) else (bif Nat.beq pc 185 then some (.aload_n 0, 186, [], 0, 0) else none)) else (bif Nat.blt pc 189 then (bif Nat.beq pc 186 then some (.getfield 15, 189, [2, 2, 82, 1, 182], 0, 0) else none) else (bif Nat.blt pc 190 then (bif Nat.beq pc 189 then some (.iconst 0, 190, [], 0, 0) else none) else (bif Nat.beq pc 190 then some (.iaload, 191, [], 0, 0) else none)))))) else (bif Nat.blt pc 207 then (bif Nat.blt pc 201 then (bif Nat.blt pc 197 then (bif Nat.blt pc 194 then (bif Nat.beq pc 191 then some (.invokevirtual 125, 194, [58], 0, 0) else none) else (bif Nat.beq pc 194 then some (.ifCond .eq 7, 197, [201], 0, 0) else none)) else (bif Nat.blt pc 198 then (bif Nat.beq pc 197 then some (.iconst 1, 198, [], 1, 0) else none) else (bif Nat.beq pc 198 then some (.goto 4, 201, [202], 0, 0) else none))) else (bif Nat.blt pc 203 then (bif Nat.blt pc 202 then (bif Nat.beq pc 201 then some (.iconst 0, 202, [], 0, 0) else none) else (bif Nat.beq pc 202 then some (.ireturn, 203, [1], 0, 0) else none)) else (bif Nat.blt pc 204 then (bif Nat.beq pc 203 then some (.aload_n 0, 204, [], 0, 0) else none) else (bif Nat.blt pc 205 then (bif Nat.beq pc 204 then some (.iload_n 2, 205, [], 0, 0) else none) else (bif Nat.beq pc 205 then some (.bipush 30, 207, [], 30, 0) else none))))) else (bif Nat.blt pc 213 then (bif Nat.blt pc 211 then (bif Nat.blt pc 210 then (bif Nat.beq pc 207 then some (.invokevirtual 122, 210, [59], 0, 0) else none) else (bif Nat.beq pc 210 then some (.ireturn, 211, [1], 0, 0) else none)) else (bif Nat.blt pc 212 then (bif Nat.beq pc 211 then some (.aload_n 0, 212, [], 0, 0) else none) else (bif Nat.beq pc 212 then some (.iload_n 3, 213, [], 0, 0) else none))) else (bif Nat.blt pc 218 then (bif Nat.blt pc 216 then (bif Nat.beq pc 213 then some (.getstatic 73, 216, [500], 0, 0) else none) else (bif Nat.beq pc 216 then some (.bipush 8, 218, [], 8, 0) else none)) else (bif Nat.blt pc 219 then (bif Nat.beq pc 218 then some (.iaload, 219, [], 0, 0) else none) else (bif Nat.blt pc 222 then (bif Nat.beq pc 219 then some (.invokevirtual 122, 222, [59], 0, 0) else none) else (bif Nat.beq pc 222 then some (.ifCond .eq 25, 225, [247], 0, 0) else none)))))))) else (bif Nat.blt pc 285 then (bif Nat.blt pc 255 then (bif Nat.blt pc 240 then (bif Nat.blt pc 229 then (bif Nat.blt pc 227 then (bif Nat.blt pc 226 then (bif Nat.beq pc 225 then some (.aload_n 0, 226, [], 0, 0) else none) else (bif Nat.beq pc 226 then some (.iload_n 2, 227, [], 0, 0) else none)) else (bif Nat.blt pc 228 then (bif Nat.beq pc 227 then some (.aload_n 0, 228, [], 0, 0) else none) else (bif Nat.beq pc 228 then some (.aload_n 0, 229, [], 0, 0) else none))) else (bif Nat.blt pc 233 then (bif Nat.blt pc 232 then (bif Nat.beq pc 229 then some (.getfield 18, 232, [2, 3, 83, 1, 183], 0, 0) else none) else (bif Nat.beq pc 232 then some (.iload_n 3, 233, [], 0, 0) else none)) else (bif Nat.blt pc 234 then (bif Nat.beq pc 233 then some (.iaload, 234, [], 0, 0) else none) else (bif Nat.blt pc 237 then (bif Nat.beq pc 234 then some (.invokevirtual 131, 237, [61], 0, 0) else none) else (bif Nat.beq pc 237 then some (.invokevirtual 125, 240, [58], 0, 0) else none))))) else (bif Nat.blt pc 248 then (bif Nat.blt pc 244 then (bif Nat.blt pc 243 then (bif Nat.beq pc 240 then some (.ifCond .eq 7, 243, [247], 0, 0) else none) else (bif Nat.beq pc 243 then some (.iconst 1, 244, [], 1, 0) else none)) else (bif Nat.blt pc 247 then (bif Nat.beq pc 244 then some (.goto 4, 247, [248], 0, 0) else none) else (bif Nat.beq pc 247 then some (.iconst 0, 248, [], 0, 0) else none))) else (bif Nat.blt pc 250 then (bif Nat.blt pc 249 then (bif Nat.beq pc 248 then some (.ireturn, 249, [1], 0, 0) else none) else (bif Nat.beq pc 249 then some (.aload_n 0, 250, [], 0, 0) else none)) else (bif Nat.blt pc 251 then (bif Nat.beq pc 250 then some (.iload_n 2, 251, [], 0, 0) else none) else (bif Nat.blt pc 252 then (bif Nat.beq pc 251 then some (.aload_n 0, 252, [], 0, 0) else none) else (bif Nat.beq pc 252 then some (.getfield 18, 255, [2, 3, 83, 1, 183], 0, 0) else none)))))) else (bif Nat.blt pc 270 then (bif Nat.blt pc 261 then (bif Nat.blt pc 257 then (bif Nat.blt pc 256 then (bif Nat.beq pc 255 then some (.iload_n 3, 256, [], 0, 0) else none) else (bif Nat.beq pc 256 then some (.iaload, 257, [], 0, 0) else none)) else (bif Nat.blt pc 260 then (bif Nat.beq pc 257 then some (.invokestatic 134, 260, [62], 0, 0) else none) else (bif Nat.beq pc 260 then some (.iload_n 3, 261, [], 0, 0) else none))) else (bif Nat.blt pc 265 then (bif Nat.blt pc 262 then (bif Nat.beq pc 261 then some (.aload_n 0, 262, [], 0, 0) else none) else (bif Nat.beq pc 262 then some (.getfield 18, 265, [2, 3, 83, 1, 183], 0, 0) else none)) else (bif Nat.blt pc 266 then (bif Nat.beq pc 265 then some (.iload_n 2, 266, [], 0, 0) else none) else (bif Nat.blt pc 267 then (bif Nat.beq pc 266 then some (.iaload, 267, [], 0, 0) else none) else (bif Nat.beq pc 267 then some (.invokestatic 137, 270, [63], 0, 0) else none))))) else (bif Nat.blt pc 276 then (bif Nat.blt pc 274 then (bif Nat.blt pc 273 then (bif Nat.beq pc 270 then some (.invokevirtual 140, 273, [60], 0, 0) else none) else (bif Nat.beq pc 273 then some (.ireturn, 274, [1], 0, 0) else none)) else (bif Nat.blt pc 275 then (bif Nat.beq pc 274 then some (.aload_n 0, 275, [], 0, 0) else none) else (bif Nat.beq pc 275 then some (.iload_n 3, 276, [], 0, 0) else none))) else (bif Nat.blt pc 280 then (bif Nat.blt pc 279 then (bif Nat.beq pc 276 then some (.getstatic 73, 279, [500], 0, 0) else none) else (bif Nat.beq pc 279 then some (.iconst 5, 280, [], 5, 0) else none)) else (bif Nat.blt pc 281 then (bif Nat.beq pc 280 then some (.iaload, 281, [], 0, 0) else none) else (bif Nat.blt pc 284 then (bif Nat.beq pc 281 then some (.invokevirtual 122, 284, [59], 0, 0) else none) else (bif Nat.beq pc 284 then some (.ireturn, 285, [1], 0, 0) else none))))))) else (bif Nat.blt pc 317 then (bif Nat.blt pc 301 then (bif Nat.blt pc 293 then (bif Nat.blt pc 287 then (bif Nat.blt pc 286 then (bif Nat.beq pc 285 then some (.aload_n 0, 286, [], 0, 0) else none) else (bif Nat.beq pc 286 then some (.iload_n 3, 287, [], 0, 0) else none)) else (bif Nat.blt pc 290 then (bif Nat.beq pc 287 then some (.sipush 992, 290, [], 992, 0) else none) else (bif Nat.beq pc 290 then some (.invokevirtual 122, 293, [59], 0, 0) else none))) else (bif Nat.blt pc 295 then (bif Nat.blt pc 294 then (bif Nat.beq pc 293 then some (.ireturn, 294, [1], 0, 0) else none) else (bif Nat.beq pc 294 then some (.aload_n 0, 295, [], 0, 0) else none)) else (bif Nat.blt pc 296 then (bif Nat.beq pc 295 then some (.iload_n 3, 296, [], 0, 0) else none) else (bif Nat.blt pc 299 then (bif Nat.beq pc 296 then some (.getstatic 73, 299, [500], 0, 0) else none) else (bif Nat.beq pc 299 then some (.bipush 6, 301, [], 6, 0) else none))))) else (bif Nat.blt pc 307 then (bif Nat.blt pc 305 then (bif Nat.blt pc 302 then (bif Nat.beq pc 301 then some (.iaload, 302, [], 0, 0) else none) else (bif Nat.beq pc 302 then some (.invokevirtual 122, 305, [59], 0, 0) else none)) else (bif Nat.blt pc 306 then (bif Nat.beq pc 305 then some (.ireturn, 306, [1], 0, 0) else none) else (bif Nat.beq pc 306 then some (.aload_n 0, 307, [], 0, 0) else none))) else (bif Nat.blt pc 311 then (bif Nat.blt pc 308 then (bif Nat.beq pc 307 then some (.iload_n 2, 308, [], 0, 0) else none) else (bif Nat.beq pc 308 then some (.getstatic 73, 311, [500], 0, 0) else none)) else (bif Nat.blt pc 313 then (bif Nat.beq pc 311 then some (.bipush 6, 313, [], 6, 0) else none) else (bif Nat.blt pc 314 then (bif Nat.beq pc 313 then some (.iaload, 314, [], 0, 0) else none) else (bif Nat.beq pc 314 then some (.invokevirtual 122, 317, [59], 0, 0) else none)))))) else (bif Nat.blt pc 330 then (bif Nat.blt pc 321 then (bif Nat.blt pc 319 then (bif Nat.blt pc 318 then (bif Nat.beq pc 317 then some (.ireturn, 318, [1], 0, 0) else none) else (bif Nat.beq pc 318 then some (.aload_n 0, 319, [], 0, 0) else none)) else (bif Nat.blt pc 320 then (bif Nat.beq pc 319 then some (.iload_n 2, 320, [], 0, 0) else none) else (bif Nat.beq pc 320 then some (.aload_n 0, 321, [], 0, 0) else none))) else (bif Nat.blt pc 325 then (bif Nat.blt pc 324 then (bif Nat.beq pc 321 then some (.getfield 18, 324, [2, 3, 83, 1, 183], 0, 0) else none) else (bif Nat.beq pc 324 then some (.iload_n 3, 325, [], 0, 0) else none)) else (bif Nat.blt pc 326 then (bif Nat.beq pc 325 then some (.iaload, 326, [], 0, 0) else none) else (bif Nat.blt pc 329 then (bif Nat.beq pc 326 then some (.invokestatic 143, 329, [64], 0, 0) else none) else (bif Nat.beq pc 329 then some (.iload_n 3, 330, [], 0, 0) else none))))) else (bif Nat.blt pc 336 then (bif Nat.blt pc 334 then (bif Nat.blt pc 331 then (bif Nat.beq pc 330 then some (.aload_n 0, 331, [], 0, 0) else none) else (bif Nat.beq pc 331 then some (.getfield 18, 334, [2, 3, 83, 1, 183], 0, 0) else none)) else (bif Nat.blt pc 335 then (bif Nat.beq pc 334 then some (.iload_n 2, 335, [], 0, 0) else none) else (bif Nat.beq pc 335 then some (.iaload, 336, [], 0, 0) else none))) else (bif Nat.blt pc 342 then (bif Nat.blt pc 339 then (bif Nat.beq pc 336 then some (.invokestatic 146, 339, [65], 0, 0) else none) else (bif Nat.beq pc 339 then some (.invokevirtual 140, 342, [60], 0, 0) else none)) else (bif Nat.blt pc 343 then (bif Nat.beq pc 342 then some (.ireturn, 343, [1], 0, 0) else none) else (bif Nat.blt pc 344 then (bif Nat.beq pc 343 then some (.iconst 1, 344, [], 1, 0) else none) else (bif Nat.beq pc 344 then some (.ireturn, 345, [1], 0, 0) else none)))))))))
def k_X2_put (pc : Nat) : Option mE := (bif Nat.blt pc 5 then (bif Nat.blt pc 1 then (bif Nat.beq pc 0 then some (.aload_n 0, 1, [], 0, 0) else none) else (bif Nat.blt pc 4 then (bif Nat.beq pc 1 then some (.getfield 18, 4, [2, 3, 83, 1, 183], 0, 0) else none) else (bif Nat.beq pc 4 then some (.iload_n 1, 5, [], 0, 0) else none))) else (bif Nat.blt pc 7 then (bif Nat.blt pc 6 then (bif Nat.beq pc 5 then some (.iload_n 2, 6, [], 0, 0) else none) else (bif Nat.beq pc 6 then some (.iastore, 7, [], 0, 0) else none)) else (bif Nat.blt pc 8 then (bif Nat.beq pc 7 then some (.iconst 1, 8, [], 1, 0) else none) else (bif Nat.beq pc 8 then some (.ireturn, 9, [1], 0, 0) else none))))
def k_X2_keep (pc : Nat) : Option mE := (bif Nat.blt pc 10 then (bif Nat.blt pc 6 then (bif Nat.blt pc 4 then (bif Nat.blt pc 1 then (bif Nat.beq pc 0 then some (.aload_n 0, 1, [], 0, 0) else none) else (bif Nat.beq pc 1 then some (.getfield 18, 4, [2, 3, 83, 1, 183], 0, 0) else none)) else (bif Nat.blt pc 5 then (bif Nat.beq pc 4 then some (.iload_n 1, 5, [], 0, 0) else none) else (bif Nat.beq pc 5 then some (.dup2, 6, [], 0, 0) else none))) else (bif Nat.blt pc 8 then (bif Nat.blt pc 7 then (bif Nat.beq pc 6 then some (.iaload, 7, [], 0, 0) else none) else (bif Nat.beq pc 7 then some (.iload_n 2, 8, [], 0, 0) else none)) else (bif Nat.blt pc 9 then (bif Nat.beq pc 8 then some (.iand, 9, [], 0, 0) else none) else (bif Nat.beq pc 9 then some (.iastore, 10, [], 0, 0) else none)))) else (bif Nat.blt pc 16 then (bif Nat.blt pc 14 then (bif Nat.blt pc 11 then (bif Nat.beq pc 10 then some (.aload_n 0, 11, [], 0, 0) else none) else (bif Nat.beq pc 11 then some (.getfield 18, 14, [2, 3, 83, 1, 183], 0, 0) else none)) else (bif Nat.blt pc 15 then (bif Nat.beq pc 14 then some (.iload_n 1, 15, [], 0, 0) else none) else (bif Nat.beq pc 15 then some (.iaload, 16, [], 0, 0) else none))) else (bif Nat.blt pc 20 then (bif Nat.blt pc 19 then (bif Nat.beq pc 16 then some (.ifCond .eq 7, 19, [23], 0, 0) else none) else (bif Nat.beq pc 19 then some (.iconst 1, 20, [], 1, 0) else none)) else (bif Nat.blt pc 23 then (bif Nat.beq pc 20 then some (.goto 4, 23, [24], 0, 0) else none) else (bif Nat.blt pc 24 then (bif Nat.beq pc 23 then some (.iconst 0, 24, [], 0, 0) else none) else (bif Nat.beq pc 24 then some (.ireturn, 25, [1], 0, 0) else none))))))
def k_X2_keepBoth (pc : Nat) : Option mE := (bif Nat.blt pc 11 then (bif Nat.blt pc 3 then (bif Nat.blt pc 1 then (bif Nat.beq pc 0 then some (.aload_n 0, 1, [], 0, 0) else none) else (bif Nat.blt pc 2 then (bif Nat.beq pc 1 then some (.iload_n 1, 2, [], 0, 0) else none) else (bif Nat.beq pc 2 then some (.iload_n 2, 3, [], 0, 0) else none))) else (bif Nat.blt pc 9 then (bif Nat.blt pc 6 then (bif Nat.beq pc 3 then some (.invokevirtual 122, 6, [59], 0, 0) else none) else (bif Nat.beq pc 6 then some (.ifCond .eq 17, 9, [23], 0, 0) else none)) else (bif Nat.blt pc 10 then (bif Nat.beq pc 9 then some (.aload_n 0, 10, [], 0, 0) else none) else (bif Nat.beq pc 10 then some (.iload_n 3, 11, [], 0, 0) else none)))) else (bif Nat.blt pc 19 then (bif Nat.blt pc 13 then (bif Nat.beq pc 11 then some (.iload 4, 13, [], 0, 0) else none) else (bif Nat.blt pc 16 then (bif Nat.beq pc 13 then some (.invokevirtual 122, 16, [59], 0, 0) else none) else (bif Nat.beq pc 16 then some (.ifCond .eq 7, 19, [23], 0, 0) else none))) else (bif Nat.blt pc 23 then (bif Nat.blt pc 20 then (bif Nat.beq pc 19 then some (.iconst 1, 20, [], 1, 0) else none) else (bif Nat.beq pc 20 then some (.goto 4, 23, [24], 0, 0) else none)) else (bif Nat.blt pc 24 then (bif Nat.beq pc 23 then some (.iconst 0, 24, [], 0, 0) else none) else (bif Nat.beq pc 24 then some (.ireturn, 25, [1], 0, 0) else none)))))
def k_X2_cellsOf (pc : Nat) : Option mE := (bif Nat.blt pc 21 then (bif Nat.blt pc 11 then (bif Nat.blt pc 4 then (bif Nat.blt pc 1 then (bif Nat.beq pc 0 then some (.iload_n 1, 1, [], 0, 0) else none) else (bif Nat.beq pc 1 then some (.sipush 128, 4, [], 128, 0) else none)) else (bif Nat.blt pc 7 then (bif Nat.beq pc 4 then some (.invokestatic 79, 7, [106], 0, 0) else none) else (bif Nat.blt pc 10 then (bif Nat.beq pc 7 then some (.ifCond .eq 12, 10, [19], 0, 0) else none) else (bif Nat.beq pc 10 then some (.aload_n 0, 11, [], 0, 0) else none)))) else (bif Nat.blt pc 16 then (bif Nat.blt pc 14 then (bif Nat.beq pc 11 then some (.getfield 15, 14, [2, 2, 82, 1, 182], 0, 0) else none) else (bif Nat.blt pc 15 then (bif Nat.beq pc 14 then some (.iconst 1, 15, [], 1, 0) else none) else (bif Nat.beq pc 15 then some (.iaload, 16, [], 0, 0) else none))) else (bif Nat.blt pc 19 then (bif Nat.beq pc 16 then some (.goto 4, 19, [20], 0, 0) else none) else (bif Nat.blt pc 20 then (bif Nat.beq pc 19 then some (.iconst 0, 20, [], 0, 0) else none) else (bif Nat.beq pc 20 then some (.iload_n 1, 21, [], 0, 0) else none))))) else (bif Nat.blt pc 34 then (bif Nat.blt pc 27 then (bif Nat.blt pc 24 then (bif Nat.beq pc 21 then some (.sipush 256, 24, [], 256, 0) else none) else (bif Nat.beq pc 24 then some (.invokestatic 79, 27, [106], 0, 0) else none)) else (bif Nat.blt pc 30 then (bif Nat.beq pc 27 then some (.ifCond .eq 12, 30, [39], 0, 0) else none) else (bif Nat.blt pc 31 then (bif Nat.beq pc 30 then some (.aload_n 0, 31, [], 0, 0) else none) else (bif Nat.beq pc 31 then some (.getfield 15, 34, [2, 2, 82, 1, 182], 0, 0) else none)))) else (bif Nat.blt pc 39 then (bif Nat.blt pc 35 then (bif Nat.beq pc 34 then some (.iconst 2, 35, [], 2, 0) else none) else (bif Nat.blt pc 36 then (bif Nat.beq pc 35 then some (.iaload, 36, [], 0, 0) else none) else (bif Nat.beq pc 36 then some (.goto 4, 39, [40], 0, 0) else none))) else (bif Nat.blt pc 40 then (bif Nat.beq pc 39 then some (.iconst 0, 40, [], 0, 0) else none) else (bif Nat.blt pc 41 then (bif Nat.beq pc 40 then some (.ior, 41, [], 0, 0) else none) else (bif Nat.beq pc 41 then some (.ireturn, 42, [0], 0, 0) else none))))))
def k_X2_arraysThatTake (pc : Nat) : Option mE := (bif Nat.blt pc 21 then (bif Nat.blt pc 10 then (bif Nat.blt pc 4 then (bif Nat.blt pc 1 then (bif Nat.beq pc 0 then some (.iload_n 0, 1, [], 0, 0) else none) else (bif Nat.beq pc 1 then some (.getstatic 112, 4, [501], 0, 0) else none)) else (bif Nat.blt pc 6 then (bif Nat.beq pc 4 then some (.bipush 7, 6, [], 7, 0) else none) else (bif Nat.blt pc 7 then (bif Nat.beq pc 6 then some (.iaload, 7, [], 0, 0) else none) else (bif Nat.beq pc 7 then some (.invokestatic 79, 10, [106], 0, 0) else none)))) else (bif Nat.blt pc 16 then (bif Nat.blt pc 13 then (bif Nat.beq pc 10 then some (.ifCond .eq 9, 13, [19], 0, 0) else none) else (bif Nat.beq pc 13 then some (.sipush 128, 16, [], 128, 0) else none)) else (bif Nat.blt pc 19 then (bif Nat.beq pc 16 then some (.goto 4, 19, [20], 0, 0) else none) else (bif Nat.blt pc 20 then (bif Nat.beq pc 19 then some (.iconst 0, 20, [], 0, 0) else none) else (bif Nat.beq pc 20 then some (.iload_n 0, 21, [], 0, 0) else none))))) else (bif Nat.blt pc 33 then (bif Nat.blt pc 26 then (bif Nat.blt pc 24 then (bif Nat.beq pc 21 then some (.getstatic 112, 24, [501], 0, 0) else none) else (bif Nat.beq pc 24 then some (.bipush 8, 26, [], 8, 0) else none)) else (bif Nat.blt pc 27 then (bif Nat.beq pc 26 then some (.iaload, 27, [], 0, 0) else none) else (bif Nat.blt pc 30 then (bif Nat.beq pc 27 then some (.invokestatic 79, 30, [106], 0, 0) else none) else (bif Nat.beq pc 30 then some (.ifCond .eq 9, 33, [39], 0, 0) else none)))) else (bif Nat.blt pc 39 then (bif Nat.blt pc 36 then (bif Nat.beq pc 33 then some (.sipush 256, 36, [], 256, 0) else none) else (bif Nat.beq pc 36 then some (.goto 4, 39, [40], 0, 0) else none)) else (bif Nat.blt pc 40 then (bif Nat.beq pc 39 then some (.iconst 0, 40, [], 0, 0) else none) else (bif Nat.blt pc 41 then (bif Nat.beq pc 40 then some (.ior, 41, [], 0, 0) else none) else (bif Nat.beq pc 41 then some (.ireturn, 42, [0], 0, 0) else none))))))
def k_X2_kindsTakenBy (pc : Nat) : Option mE := (bif Nat.blt pc 21 then (bif Nat.blt pc 13 then (bif Nat.blt pc 4 then (bif Nat.blt pc 1 then (bif Nat.beq pc 0 then some (.iload_n 0, 1, [], 0, 0) else none) else (bif Nat.beq pc 1 then some (.sipush 128, 4, [], 128, 0) else none)) else (bif Nat.blt pc 7 then (bif Nat.beq pc 4 then some (.invokestatic 79, 7, [106], 0, 0) else none) else (bif Nat.blt pc 10 then (bif Nat.beq pc 7 then some (.ifCond .eq 12, 10, [19], 0, 0) else none) else (bif Nat.beq pc 10 then some (.getstatic 112, 13, [501], 0, 0) else none)))) else (bif Nat.blt pc 16 then (bif Nat.blt pc 15 then (bif Nat.beq pc 13 then some (.bipush 7, 15, [], 7, 0) else none) else (bif Nat.beq pc 15 then some (.iaload, 16, [], 0, 0) else none)) else (bif Nat.blt pc 19 then (bif Nat.beq pc 16 then some (.goto 4, 19, [20], 0, 0) else none) else (bif Nat.blt pc 20 then (bif Nat.beq pc 19 then some (.iconst 0, 20, [], 0, 0) else none) else (bif Nat.beq pc 20 then some (.iload_n 0, 21, [], 0, 0) else none))))) else (bif Nat.blt pc 35 then (bif Nat.blt pc 27 then (bif Nat.blt pc 24 then (bif Nat.beq pc 21 then some (.sipush 256, 24, [], 256, 0) else none) else (bif Nat.beq pc 24 then some (.invokestatic 79, 27, [106], 0, 0) else none)) else (bif Nat.blt pc 30 then (bif Nat.beq pc 27 then some (.ifCond .eq 12, 30, [39], 0, 0) else none) else (bif Nat.blt pc 33 then (bif Nat.beq pc 30 then some (.getstatic 112, 33, [501], 0, 0) else none) else (bif Nat.beq pc 33 then some (.bipush 8, 35, [], 8, 0) else none)))) else (bif Nat.blt pc 39 then (bif Nat.blt pc 36 then (bif Nat.beq pc 35 then some (.iaload, 36, [], 0, 0) else none) else (bif Nat.beq pc 36 then some (.goto 4, 39, [40], 0, 0) else none)) else (bif Nat.blt pc 40 then (bif Nat.beq pc 39 then some (.iconst 0, 40, [], 0, 0) else none) else (bif Nat.blt pc 41 then (bif Nat.beq pc 40 then some (.ior, 41, [], 0, 0) else none) else (bif Nat.beq pc 41 then some (.ireturn, 42, [0], 0, 0) else none))))))
def k_X2_movedTo (pc : Nat) : Option mE := (bif Nat.blt pc 16 then (bif Nat.blt pc 5 then (bif Nat.blt pc 2 then (bif Nat.blt pc 1 then (bif Nat.beq pc 0 then some (.iconst 0, 1, [], 0, 0) else none) else (bif Nat.beq pc 1 then some (.istore_n 1, 2, [], 0, 0) else none)) else (bif Nat.blt pc 3 then (bif Nat.beq pc 2 then some (.iconst 5, 3, [], 5, 0) else none) else (bif Nat.blt pc 4 then (bif Nat.beq pc 3 then some (.istore_n 2, 4, [], 0, 0) else none) else (bif Nat.beq pc 4 then some (.iload_n 2, 5, [], 0, 0) else none)))) else (bif Nat.blt pc 11 then (bif Nat.blt pc 7 then (bif Nat.beq pc 5 then some (.bipush 10, 7, [], 10, 0) else none) else (bif Nat.blt pc 10 then (bif Nat.beq pc 7 then some (.if_icmp .ge 28, 10, [35], 0, 0) else none) else (bif Nat.beq pc 10 then some (.iload_n 0, 11, [], 0, 0) else none))) else (bif Nat.blt pc 14 then (bif Nat.beq pc 11 then some (.getstatic 149, 14, [502], 0, 0) else none) else (bif Nat.blt pc 15 then (bif Nat.beq pc 14 then some (.iload_n 2, 15, [], 0, 0) else none) else (bif Nat.beq pc 15 then some (.iaload, 16, [], 0, 0) else none))))) else (bif Nat.blt pc 27 then (bif Nat.blt pc 22 then (bif Nat.blt pc 19 then (bif Nat.beq pc 16 then some (.invokestatic 79, 19, [106], 0, 0) else none) else (bif Nat.beq pc 19 then some (.ifCond .eq 10, 22, [29], 0, 0) else none)) else (bif Nat.blt pc 23 then (bif Nat.beq pc 22 then some (.iload_n 1, 23, [], 0, 0) else none) else (bif Nat.blt pc 24 then (bif Nat.beq pc 23 then some (.iload_n 2, 24, [], 0, 0) else none) else (bif Nat.beq pc 24 then some (.invokestatic 128, 27, [104], 0, 0) else none)))) else (bif Nat.blt pc 32 then (bif Nat.blt pc 28 then (bif Nat.beq pc 27 then some (.ior, 28, [], 0, 0) else none) else (bif Nat.blt pc 29 then (bif Nat.beq pc 28 then some (.istore_n 1, 29, [], 0, 0) else none) else (bif Nat.beq pc 29 then some (.iinc 2 1, 32, [], 1, 0) else none))) else (bif Nat.blt pc 35 then (bif Nat.beq pc 32 then some (.goto (-28), 35, [4], 0, 0) else none) else (bif Nat.blt pc 36 then (bif Nat.beq pc 35 then some (.iload_n 1, 36, [], 0, 0) else none) else (bif Nat.beq pc 36 then some (.ireturn, 37, [0], 0, 0) else none))))))
def k_X2_movedFrom (pc : Nat) : Option mE := (bif Nat.blt pc 15 then (bif Nat.blt pc 5 then (bif Nat.blt pc 2 then (bif Nat.blt pc 1 then (bif Nat.beq pc 0 then some (.iconst 0, 1, [], 0, 0) else none) else (bif Nat.beq pc 1 then some (.istore_n 1, 2, [], 0, 0) else none)) else (bif Nat.blt pc 3 then (bif Nat.beq pc 2 then some (.iconst 5, 3, [], 5, 0) else none) else (bif Nat.blt pc 4 then (bif Nat.beq pc 3 then some (.istore_n 2, 4, [], 0, 0) else none) else (bif Nat.beq pc 4 then some (.iload_n 2, 5, [], 0, 0) else none)))) else (bif Nat.blt pc 10 then (bif Nat.blt pc 7 then (bif Nat.beq pc 5 then some (.bipush 10, 7, [], 10, 0) else none) else (bif Nat.beq pc 7 then some (.if_icmp .ge 25, 10, [32], 0, 0) else none)) else (bif Nat.blt pc 11 then (bif Nat.beq pc 10 then some (.iload_n 0, 11, [], 0, 0) else none) else (bif Nat.blt pc 12 then (bif Nat.beq pc 11 then some (.iload_n 2, 12, [], 0, 0) else none) else (bif Nat.beq pc 12 then some (.invokestatic 152, 15, [105], 0, 0) else none))))) else (bif Nat.blt pc 24 then (bif Nat.blt pc 19 then (bif Nat.blt pc 18 then (bif Nat.beq pc 15 then some (.ifCond .eq 11, 18, [26], 0, 0) else none) else (bif Nat.beq pc 18 then some (.iload_n 1, 19, [], 0, 0) else none)) else (bif Nat.blt pc 22 then (bif Nat.beq pc 19 then some (.getstatic 149, 22, [502], 0, 0) else none) else (bif Nat.blt pc 23 then (bif Nat.beq pc 22 then some (.iload_n 2, 23, [], 0, 0) else none) else (bif Nat.beq pc 23 then some (.iaload, 24, [], 0, 0) else none)))) else (bif Nat.blt pc 29 then (bif Nat.blt pc 25 then (bif Nat.beq pc 24 then some (.ior, 25, [], 0, 0) else none) else (bif Nat.blt pc 26 then (bif Nat.beq pc 25 then some (.istore_n 1, 26, [], 0, 0) else none) else (bif Nat.beq pc 26 then some (.iinc 2 1, 29, [], 1, 0) else none))) else (bif Nat.blt pc 32 then (bif Nat.beq pc 29 then some (.goto (-25), 32, [4], 0, 0) else none) else (bif Nat.blt pc 33 then (bif Nat.beq pc 32 then some (.iload_n 1, 33, [], 0, 0) else none) else (bif Nat.beq pc 33 then some (.ireturn, 34, [0], 0, 0) else none))))))
def k_X2_faultsOf (pc : Nat) : Option mE := (bif Nat.blt pc 187 then (bif Nat.blt pc 146 then (bif Nat.blt pc 21 then (bif Nat.blt pc 10 then (bif Nat.blt pc 7 then (bif Nat.blt pc 1 then (bif Nat.beq pc 0 then some (.aload_n 0, 1, [], 0, 0) else none) else (bif Nat.blt pc 4 then (bif Nat.beq pc 1 then some (.getfield 32, 4, [2, 0, 80, 1, 3], 0, 0) else none) else (bif Nat.beq pc 4 then some (.getfield 66, 7, [3, 1, 121, 1, 221], 0, 0) else none))) else (bif Nat.blt pc 8 then (bif Nat.beq pc 7 then some (.iload_n 1, 8, [], 0, 0) else none) else (bif Nat.blt pc 9 then (bif Nat.beq pc 8 then some (.iaload, 9, [], 0, 0) else none) else (bif Nat.beq pc 9 then some (.istore_n 2, 10, [], 0, 0) else none)))) else (bif Nat.blt pc 17 then (bif Nat.blt pc 11 then (bif Nat.beq pc 10 then some (.aload_n 0, 11, [], 0, 0) else none) else (bif Nat.blt pc 14 then (bif Nat.beq pc 11 then some (.getfield 32, 14, [2, 0, 80, 1, 3], 0, 0) else none) else (bif Nat.beq pc 14 then some (.getfield 76, 17, [3, 2, 122, 1, 222], 0, 0) else none))) else (bif Nat.blt pc 19 then (bif Nat.blt pc 18 then (bif Nat.beq pc 17 then some (.iload_n 1, 18, [], 0, 0) else none) else (bif Nat.beq pc 18 then some (.iaload, 19, [], 0, 0) else none)) else (bif Nat.blt pc 20 then (bif Nat.beq pc 19 then some (.istore_n 3, 20, [], 0, 0) else none) else (bif Nat.beq pc 20 then some (.aload_n 0, 21, [], 0, 0) else none))))) else (bif Nat.blt pc 135 then (bif Nat.blt pc 28 then (bif Nat.blt pc 24 then (bif Nat.beq pc 21 then some (.getfield 32, 24, [2, 0, 80, 1, 3], 0, 0) else none) else (bif Nat.blt pc 27 then (bif Nat.beq pc 24 then some (.getfield 63, 27, [3, 0, 120, 1, 220], 0, 0) else none) else (bif Nat.beq pc 27 then some (.iload_n 1, 28, [], 0, 0) else none))) else (bif Nat.blt pc 29 then (bif Nat.beq pc 28 then some (.iaload, 29, [], 0, 0) else none) else (bif Nat.blt pc 132 then (bif Nat.beq pc 29 then some (.tableswitch 241 1 22 #[103, 107, 241, 241, 241, 111, 122, 133, 144, 156, 172, 172, 183, 193, 205, 241, 241, 217, 241, 241, 220, 224], 132, [270, 132, 136, 270, 270, 270, 140, 151, 162, 173, 185, 201, 201, 212, 222, 234, 270, 270, 246, 270, 270, 249, 253], 0, 0) else none) else (bif Nat.beq pc 132 then some (.sipush 256, 135, [], 256, 0) else none)))) else (bif Nat.blt pc 140 then (bif Nat.blt pc 136 then (bif Nat.beq pc 135 then some (.ireturn, 136, [0], 0, 0) else none) else (bif Nat.blt pc 139 then (bif Nat.beq pc 136 then some (.sipush 288, 139, [], 288, 0) else none) else (bif Nat.beq pc 139 then some (.ireturn, 140, [0], 0, 0) else none))) else (bif Nat.blt pc 142 then (bif Nat.blt pc 141 then (bif Nat.beq pc 140 then some (.aload_n 0, 141, [], 0, 0) else none) else (bif Nat.beq pc 141 then some (.iload_n 1, 142, [], 0, 0) else none)) else (bif Nat.blt pc 143 then (bif Nat.beq pc 142 then some (.iload_n 2, 143, [], 0, 0) else none) else (bif Nat.beq pc 143 then some (.invokevirtual 69, 146, [43], 0, 0) else none)))))) else (bif Nat.blt pc 165 then (bif Nat.blt pc 154 then (bif Nat.blt pc 151 then (bif Nat.blt pc 147 then (bif Nat.beq pc 146 then some (.iload_n 3, 147, [], 0, 0) else none) else (bif Nat.blt pc 150 then (bif Nat.beq pc 147 then some (.invokestatic 155, 150, [67], 0, 0) else none) else (bif Nat.beq pc 150 then some (.ireturn, 151, [0], 0, 0) else none))) else (bif Nat.blt pc 152 then (bif Nat.beq pc 151 then some (.aload_n 0, 152, [], 0, 0) else none) else (bif Nat.blt pc 153 then (bif Nat.beq pc 152 then some (.iload_n 1, 153, [], 0, 0) else none) else (bif Nat.beq pc 153 then some (.iload_n 3, 154, [], 0, 0) else none)))) else (bif Nat.blt pc 161 then (bif Nat.blt pc 157 then (bif Nat.beq pc 154 then some (.invokevirtual 69, 157, [43], 0, 0) else none) else (bif Nat.blt pc 158 then (bif Nat.beq pc 157 then some (.iconst 1, 158, [], 1, 0) else none) else (bif Nat.beq pc 158 then some (.invokestatic 158, 161, [68], 0, 0) else none))) else (bif Nat.blt pc 163 then (bif Nat.blt pc 162 then (bif Nat.beq pc 161 then some (.ireturn, 162, [0], 0, 0) else none) else (bif Nat.beq pc 162 then some (.aload_n 0, 163, [], 0, 0) else none)) else (bif Nat.blt pc 164 then (bif Nat.beq pc 163 then some (.iload_n 1, 164, [], 0, 0) else none) else (bif Nat.beq pc 164 then some (.iload_n 2, 165, [], 0, 0) else none))))) else (bif Nat.blt pc 175 then (bif Nat.blt pc 172 then (bif Nat.blt pc 168 then (bif Nat.beq pc 165 then some (.invokevirtual 69, 168, [43], 0, 0) else none) else (bif Nat.blt pc 169 then (bif Nat.beq pc 168 then some (.iconst 1, 169, [], 1, 0) else none) else (bif Nat.beq pc 169 then some (.invokestatic 158, 172, [68], 0, 0) else none))) else (bif Nat.blt pc 173 then (bif Nat.beq pc 172 then some (.ireturn, 173, [0], 0, 0) else none) else (bif Nat.blt pc 174 then (bif Nat.beq pc 173 then some (.aload_n 0, 174, [], 0, 0) else none) else (bif Nat.beq pc 174 then some (.iload_n 1, 175, [], 0, 0) else none)))) else (bif Nat.blt pc 181 then (bif Nat.blt pc 176 then (bif Nat.beq pc 175 then some (.iload_n 3, 176, [], 0, 0) else none) else (bif Nat.blt pc 179 then (bif Nat.beq pc 176 then some (.invokevirtual 69, 179, [43], 0, 0) else none) else (bif Nat.beq pc 179 then some (.bipush 8, 181, [], 8, 0) else none))) else (bif Nat.blt pc 185 then (bif Nat.blt pc 184 then (bif Nat.beq pc 181 then some (.invokestatic 161, 184, [69], 0, 0) else none) else (bif Nat.beq pc 184 then some (.ireturn, 185, [0], 0, 0) else none)) else (bif Nat.blt pc 186 then (bif Nat.beq pc 185 then some (.aload_n 0, 186, [], 0, 0) else none) else (bif Nat.beq pc 186 then some (.iload_n 1, 187, [], 0, 0) else none))))))) else (bif Nat.blt pc 230 then (bif Nat.blt pc 208 then (bif Nat.blt pc 197 then (bif Nat.blt pc 192 then (bif Nat.blt pc 188 then (bif Nat.beq pc 187 then some (.iload_n 2, 188, [], 0, 0) else none) else (bif Nat.blt pc 191 then (bif Nat.beq pc 188 then some (.invokevirtual 69, 191, [43], 0, 0) else none) else (bif Nat.beq pc 191 then some (.aload_n 0, 192, [], 0, 0) else none))) else (bif Nat.blt pc 193 then (bif Nat.beq pc 192 then some (.iload_n 1, 193, [], 0, 0) else none) else (bif Nat.blt pc 194 then (bif Nat.beq pc 193 then some (.iload_n 3, 194, [], 0, 0) else none) else (bif Nat.beq pc 194 then some (.invokevirtual 69, 197, [43], 0, 0) else none)))) else (bif Nat.blt pc 202 then (bif Nat.blt pc 200 then (bif Nat.beq pc 197 then some (.invokestatic 164, 200, [71], 0, 0) else none) else (bif Nat.blt pc 201 then (bif Nat.beq pc 200 then some (.ireturn, 201, [0], 0, 0) else none) else (bif Nat.beq pc 201 then some (.aload_n 0, 202, [], 0, 0) else none))) else (bif Nat.blt pc 204 then (bif Nat.blt pc 203 then (bif Nat.beq pc 202 then some (.iload_n 1, 203, [], 0, 0) else none) else (bif Nat.beq pc 203 then some (.iload_n 3, 204, [], 0, 0) else none)) else (bif Nat.blt pc 207 then (bif Nat.beq pc 204 then some (.invokevirtual 69, 207, [43], 0, 0) else none) else (bif Nat.beq pc 207 then some (.iconst 5, 208, [], 5, 0) else none))))) else (bif Nat.blt pc 218 then (bif Nat.blt pc 213 then (bif Nat.blt pc 211 then (bif Nat.beq pc 208 then some (.invokestatic 158, 211, [68], 0, 0) else none) else (bif Nat.blt pc 212 then (bif Nat.beq pc 211 then some (.ireturn, 212, [0], 0, 0) else none) else (bif Nat.beq pc 212 then some (.aload_n 0, 213, [], 0, 0) else none))) else (bif Nat.blt pc 214 then (bif Nat.beq pc 213 then some (.iload_n 1, 214, [], 0, 0) else none) else (bif Nat.blt pc 215 then (bif Nat.beq pc 214 then some (.iload_n 3, 215, [], 0, 0) else none) else (bif Nat.beq pc 215 then some (.invokevirtual 69, 218, [43], 0, 0) else none)))) else (bif Nat.blt pc 223 then (bif Nat.blt pc 221 then (bif Nat.beq pc 218 then some (.invokestatic 167, 221, [70], 0, 0) else none) else (bif Nat.blt pc 222 then (bif Nat.beq pc 221 then some (.ireturn, 222, [0], 0, 0) else none) else (bif Nat.beq pc 222 then some (.aload_n 0, 223, [], 0, 0) else none))) else (bif Nat.blt pc 225 then (bif Nat.blt pc 224 then (bif Nat.beq pc 223 then some (.iload_n 1, 224, [], 0, 0) else none) else (bif Nat.beq pc 224 then some (.iload_n 3, 225, [], 0, 0) else none)) else (bif Nat.blt pc 228 then (bif Nat.beq pc 225 then some (.invokevirtual 69, 228, [43], 0, 0) else none) else (bif Nat.beq pc 228 then some (.bipush 6, 230, [], 6, 0) else none)))))) else (bif Nat.blt pc 253 then (bif Nat.blt pc 240 then (bif Nat.blt pc 235 then (bif Nat.blt pc 233 then (bif Nat.beq pc 230 then some (.invokestatic 161, 233, [69], 0, 0) else none) else (bif Nat.blt pc 234 then (bif Nat.beq pc 233 then some (.ireturn, 234, [0], 0, 0) else none) else (bif Nat.beq pc 234 then some (.aload_n 0, 235, [], 0, 0) else none))) else (bif Nat.blt pc 236 then (bif Nat.beq pc 235 then some (.iload_n 1, 236, [], 0, 0) else none) else (bif Nat.blt pc 237 then (bif Nat.beq pc 236 then some (.iload_n 2, 237, [], 0, 0) else none) else (bif Nat.beq pc 237 then some (.invokevirtual 69, 240, [43], 0, 0) else none)))) else (bif Nat.blt pc 246 then (bif Nat.blt pc 242 then (bif Nat.beq pc 240 then some (.bipush 6, 242, [], 6, 0) else none) else (bif Nat.blt pc 245 then (bif Nat.beq pc 242 then some (.invokestatic 161, 245, [69], 0, 0) else none) else (bif Nat.beq pc 245 then some (.ireturn, 246, [0], 0, 0) else none))) else (bif Nat.blt pc 249 then (bif Nat.blt pc 248 then (bif Nat.beq pc 246 then some (.bipush 64, 248, [], 64, 0) else none) else (bif Nat.beq pc 248 then some (.ireturn, 249, [0], 0, 0) else none)) else (bif Nat.blt pc 252 then (bif Nat.beq pc 249 then some (.sipush 128, 252, [], 128, 0) else none) else (bif Nat.beq pc 252 then some (.ireturn, 253, [0], 0, 0) else none))))) else (bif Nat.blt pc 261 then (bif Nat.blt pc 256 then (bif Nat.blt pc 254 then (bif Nat.beq pc 253 then some (.aload_n 0, 254, [], 0, 0) else none) else (bif Nat.blt pc 255 then (bif Nat.beq pc 254 then some (.aload_n 0, 255, [], 0, 0) else none) else (bif Nat.beq pc 255 then some (.iload_n 1, 256, [], 0, 0) else none))) else (bif Nat.blt pc 257 then (bif Nat.beq pc 256 then some (.iload_n 2, 257, [], 0, 0) else none) else (bif Nat.blt pc 260 then (bif Nat.beq pc 257 then some (.invokevirtual 69, 260, [43], 0, 0) else none) else (bif Nat.beq pc 260 then some (.aload_n 0, 261, [], 0, 0) else none)))) else (bif Nat.blt pc 266 then (bif Nat.blt pc 262 then (bif Nat.beq pc 261 then some (.iload_n 1, 262, [], 0, 0) else none) else (bif Nat.blt pc 263 then (bif Nat.beq pc 262 then some (.iload_n 3, 263, [], 0, 0) else none) else (bif Nat.beq pc 263 then some (.invokevirtual 69, 266, [43], 0, 0) else none))) else (bif Nat.blt pc 270 then (bif Nat.blt pc 269 then (bif Nat.beq pc 266 then some (.invokevirtual 170, 269, [72], 0, 0) else none) else (bif Nat.beq pc 269 then some (.ireturn, 270, [0], 0, 0) else none)) else (bif Nat.blt pc 271 then (bif Nat.beq pc 270 then some (.iconst 0, 271, [], 0, 0) else none) else (bif Nat.beq pc 271 then some (.ireturn, 272, [0], 0, 0) else none))))))))
def k_X2_castFaults (pc : Nat) : Option mE := (bif Nat.blt pc 8 then (bif Nat.blt pc 5 then (bif Nat.blt pc 1 then (bif Nat.beq pc 0 then some (.iload_n 0, 1, [], 0, 0) else none) else (bif Nat.blt pc 4 then (bif Nat.beq pc 1 then some (.getstatic 73, 4, [500], 0, 0) else none) else (bif Nat.beq pc 4 then some (.iload_n 1, 5, [], 0, 0) else none))) else (bif Nat.blt pc 6 then (bif Nat.beq pc 5 then some (.iaload, 6, [], 0, 0) else none) else (bif Nat.blt pc 7 then (bif Nat.beq pc 6 then some (.iconst 1, 7, [], 1, 0) else none) else (bif Nat.beq pc 7 then some (.ior, 8, [], 0, 0) else none)))) else (bif Nat.blt pc 13 then (bif Nat.blt pc 9 then (bif Nat.beq pc 8 then some (.iconst (-1), 9, [], (-1), 0) else none) else (bif Nat.blt pc 10 then (bif Nat.beq pc 9 then some (.ixor, 10, [], 0, 0) else none) else (bif Nat.beq pc 10 then some (.invokestatic 79, 13, [106], 0, 0) else none))) else (bif Nat.blt pc 14 then (bif Nat.beq pc 13 then some (.iconst 2, 14, [], 2, 0) else none) else (bif Nat.blt pc 17 then (bif Nat.beq pc 14 then some (.invokestatic 173, 17, [107], 0, 0) else none) else (bif Nat.beq pc 17 then some (.ireturn, 18, [0], 0, 0) else none)))))
def k_X2_useFaults (pc : Nat) : Option mE := (bif Nat.blt pc 7 then (bif Nat.blt pc 2 then (bif Nat.blt pc 1 then (bif Nat.beq pc 0 then some (.iload_n 0, 1, [], 0, 0) else none) else (bif Nat.beq pc 1 then some (.iload_n 1, 2, [], 0, 0) else none)) else (bif Nat.blt pc 5 then (bif Nat.beq pc 2 then some (.invokestatic 155, 5, [67], 0, 0) else none) else (bif Nat.blt pc 6 then (bif Nat.beq pc 5 then some (.iload_n 0, 6, [], 0, 0) else none) else (bif Nat.beq pc 6 then some (.iconst 1, 7, [], 1, 0) else none)))) else (bif Nat.blt pc 11 then (bif Nat.blt pc 10 then (bif Nat.beq pc 7 then some (.invokestatic 79, 10, [106], 0, 0) else none) else (bif Nat.beq pc 10 then some (.iconst 1, 11, [], 1, 0) else none)) else (bif Nat.blt pc 14 then (bif Nat.beq pc 11 then some (.invokestatic 173, 14, [107], 0, 0) else none) else (bif Nat.blt pc 15 then (bif Nat.beq pc 14 then some (.ior, 15, [], 0, 0) else none) else (bif Nat.beq pc 15 then some (.ireturn, 16, [0], 0, 0) else none)))))
def k_X2_cellFaults (pc : Nat) : Option mE := (bif Nat.blt pc 15 then (bif Nat.blt pc 6 then (bif Nat.blt pc 2 then (bif Nat.blt pc 1 then (bif Nat.beq pc 0 then some (.iload_n 0, 1, [], 0, 0) else none) else (bif Nat.beq pc 1 then some (.iload_n 1, 2, [], 0, 0) else none)) else (bif Nat.blt pc 5 then (bif Nat.beq pc 2 then some (.invokestatic 155, 5, [67], 0, 0) else none) else (bif Nat.beq pc 5 then some (.iload_n 0, 6, [], 0, 0) else none))) else (bif Nat.blt pc 10 then (bif Nat.blt pc 7 then (bif Nat.beq pc 6 then some (.iconst 1, 7, [], 1, 0) else none) else (bif Nat.beq pc 7 then some (.invokestatic 79, 10, [106], 0, 0) else none)) else (bif Nat.blt pc 11 then (bif Nat.beq pc 10 then some (.iconst 1, 11, [], 1, 0) else none) else (bif Nat.blt pc 14 then (bif Nat.beq pc 11 then some (.invokestatic 173, 14, [107], 0, 0) else none) else (bif Nat.beq pc 14 then some (.ior, 15, [], 0, 0) else none))))) else (bif Nat.blt pc 21 then (bif Nat.blt pc 19 then (bif Nat.blt pc 16 then (bif Nat.beq pc 15 then some (.iload_n 0, 16, [], 0, 0) else none) else (bif Nat.beq pc 16 then some (.getstatic 73, 19, [500], 0, 0) else none)) else (bif Nat.blt pc 20 then (bif Nat.beq pc 19 then some (.iload_n 1, 20, [], 0, 0) else none) else (bif Nat.beq pc 20 then some (.iaload, 21, [], 0, 0) else none))) else (bif Nat.blt pc 25 then (bif Nat.blt pc 24 then (bif Nat.beq pc 21 then some (.invokestatic 79, 24, [106], 0, 0) else none) else (bif Nat.beq pc 24 then some (.iconst 3, 25, [], 3, 0) else none)) else (bif Nat.blt pc 28 then (bif Nat.beq pc 25 then some (.invokestatic 173, 28, [107], 0, 0) else none) else (bif Nat.blt pc 29 then (bif Nat.beq pc 28 then some (.ior, 29, [], 0, 0) else none) else (bif Nat.beq pc 29 then some (.ireturn, 30, [0], 0, 0) else none))))))
def k_X2_lengthFaults (pc : Nat) : Option mE := (bif Nat.blt pc 10 then (bif Nat.blt pc 5 then (bif Nat.blt pc 1 then (bif Nat.beq pc 0 then some (.iload_n 0, 1, [], 0, 0) else none) else (bif Nat.blt pc 2 then (bif Nat.beq pc 1 then some (.iconst 1, 2, [], 1, 0) else none) else (bif Nat.beq pc 2 then some (.invokestatic 79, 5, [106], 0, 0) else none))) else (bif Nat.blt pc 6 then (bif Nat.beq pc 5 then some (.iconst 1, 6, [], 1, 0) else none) else (bif Nat.blt pc 9 then (bif Nat.beq pc 6 then some (.invokestatic 173, 9, [107], 0, 0) else none) else (bif Nat.beq pc 9 then some (.iload_n 0, 10, [], 0, 0) else none)))) else (bif Nat.blt pc 16 then (bif Nat.blt pc 12 then (bif Nat.beq pc 10 then some (.bipush 30, 12, [], 30, 0) else none) else (bif Nat.blt pc 15 then (bif Nat.beq pc 12 then some (.invokestatic 79, 15, [106], 0, 0) else none) else (bif Nat.beq pc 15 then some (.iconst 2, 16, [], 2, 0) else none))) else (bif Nat.blt pc 19 then (bif Nat.beq pc 16 then some (.invokestatic 173, 19, [107], 0, 0) else none) else (bif Nat.blt pc 20 then (bif Nat.beq pc 19 then some (.ior, 20, [], 0, 0) else none) else (bif Nat.beq pc 20 then some (.ireturn, 21, [0], 0, 0) else none)))))
def k_X2_setCellFaults (pc : Nat) : Option mE := (bif Nat.blt pc 38 then (bif Nat.blt pc 19 then (bif Nat.blt pc 8 then (bif Nat.blt pc 3 then (bif Nat.blt pc 1 then (bif Nat.beq pc 0 then some (.iload_n 0, 1, [], 0, 0) else none) else (bif Nat.beq pc 1 then some (.bipush 8, 3, [], 8, 0) else none)) else (bif Nat.blt pc 6 then (bif Nat.beq pc 3 then some (.invokestatic 155, 6, [67], 0, 0) else none) else (bif Nat.blt pc 7 then (bif Nat.beq pc 6 then some (.iload_n 1, 7, [], 0, 0) else none) else (bif Nat.beq pc 7 then some (.iconst 1, 8, [], 1, 0) else none)))) else (bif Nat.blt pc 13 then (bif Nat.blt pc 11 then (bif Nat.beq pc 8 then some (.invokestatic 155, 11, [67], 0, 0) else none) else (bif Nat.blt pc 12 then (bif Nat.beq pc 11 then some (.ior, 12, [], 0, 0) else none) else (bif Nat.beq pc 12 then some (.istore_n 2, 13, [], 0, 0) else none))) else (bif Nat.blt pc 14 then (bif Nat.beq pc 13 then some (.iload_n 1, 14, [], 0, 0) else none) else (bif Nat.blt pc 17 then (bif Nat.beq pc 14 then some (.getstatic 112, 17, [501], 0, 0) else none) else (bif Nat.beq pc 17 then some (.bipush 7, 19, [], 7, 0) else none))))) else (bif Nat.blt pc 26 then (bif Nat.blt pc 21 then (bif Nat.blt pc 20 then (bif Nat.beq pc 19 then some (.iaload, 20, [], 0, 0) else none) else (bif Nat.beq pc 20 then some (.iand, 21, [], 0, 0) else none)) else (bif Nat.blt pc 22 then (bif Nat.beq pc 21 then some (.istore_n 3, 22, [], 0, 0) else none) else (bif Nat.blt pc 23 then (bif Nat.beq pc 22 then some (.iload_n 3, 23, [], 0, 0) else none) else (bif Nat.beq pc 23 then some (.ifCond .ne 5, 26, [28], 0, 0) else none)))) else (bif Nat.blt pc 29 then (bif Nat.blt pc 27 then (bif Nat.beq pc 26 then some (.iload_n 2, 27, [], 0, 0) else none) else (bif Nat.blt pc 28 then (bif Nat.beq pc 27 then some (.ireturn, 28, [0], 0, 0) else none) else (bif Nat.beq pc 28 then some (.iload_n 0, 29, [], 0, 0) else none))) else (bif Nat.blt pc 32 then (bif Nat.beq pc 29 then some (.sipush 256, 32, [], 256, 0) else none) else (bif Nat.blt pc 35 then (bif Nat.beq pc 32 then some (.invokestatic 79, 35, [106], 0, 0) else none) else (bif Nat.beq pc 35 then some (.ifCond .eq 22, 38, [57], 0, 0) else none)))))) else (bif Nat.blt pc 58 then (bif Nat.blt pc 46 then (bif Nat.blt pc 42 then (bif Nat.blt pc 39 then (bif Nat.beq pc 38 then some (.iload_n 3, 39, [], 0, 0) else none) else (bif Nat.beq pc 39 then some (.getstatic 112, 42, [501], 0, 0) else none)) else (bif Nat.blt pc 44 then (bif Nat.beq pc 42 then some (.bipush 8, 44, [], 8, 0) else none) else (bif Nat.blt pc 45 then (bif Nat.beq pc 44 then some (.iaload, 45, [], 0, 0) else none) else (bif Nat.beq pc 45 then some (.iconst (-1), 46, [], (-1), 0) else none)))) else (bif Nat.blt pc 53 then (bif Nat.blt pc 47 then (bif Nat.beq pc 46 then some (.ixor, 47, [], 0, 0) else none) else (bif Nat.blt pc 50 then (bif Nat.beq pc 47 then some (.invokestatic 79, 50, [106], 0, 0) else none) else (bif Nat.beq pc 50 then some (.ifCond .eq 7, 53, [57], 0, 0) else none))) else (bif Nat.blt pc 54 then (bif Nat.beq pc 53 then some (.iconst 1, 54, [], 1, 0) else none) else (bif Nat.blt pc 57 then (bif Nat.beq pc 54 then some (.goto 4, 57, [58], 0, 0) else none) else (bif Nat.beq pc 57 then some (.iconst 0, 58, [], 0, 0) else none))))) else (bif Nat.blt pc 67 then (bif Nat.blt pc 61 then (bif Nat.blt pc 60 then (bif Nat.beq pc 58 then some (.istore 4, 60, [], 0, 0) else none) else (bif Nat.beq pc 60 then some (.iload_n 2, 61, [], 0, 0) else none)) else (bif Nat.blt pc 62 then (bif Nat.beq pc 61 then some (.iload_n 0, 62, [], 0, 0) else none) else (bif Nat.blt pc 64 then (bif Nat.beq pc 62 then some (.bipush 8, 64, [], 8, 0) else none) else (bif Nat.beq pc 64 then some (.invokestatic 161, 67, [69], 0, 0) else none)))) else (bif Nat.blt pc 71 then (bif Nat.blt pc 68 then (bif Nat.beq pc 67 then some (.ior, 68, [], 0, 0) else none) else (bif Nat.blt pc 70 then (bif Nat.beq pc 68 then some (.iload 4, 70, [], 0, 0) else none) else (bif Nat.beq pc 70 then some (.iconst 4, 71, [], 4, 0) else none))) else (bif Nat.blt pc 74 then (bif Nat.beq pc 71 then some (.invokestatic 173, 74, [107], 0, 0) else none) else (bif Nat.blt pc 75 then (bif Nat.beq pc 74 then some (.ior, 75, [], 0, 0) else none) else (bif Nat.beq pc 75 then some (.ireturn, 76, [0], 0, 0) else none)))))))
def k_X2_moveFaults (pc : Nat) : Option mE := (bif Nat.blt pc 25 then (bif Nat.blt pc 11 then (bif Nat.blt pc 3 then (bif Nat.blt pc 1 then (bif Nat.beq pc 0 then some (.iload_n 1, 1, [], 0, 0) else none) else (bif Nat.blt pc 2 then (bif Nat.beq pc 1 then some (.iload_n 2, 2, [], 0, 0) else none) else (bif Nat.beq pc 2 then some (.ior, 3, [], 0, 0) else none))) else (bif Nat.blt pc 7 then (bif Nat.blt pc 4 then (bif Nat.beq pc 3 then some (.iconst 1, 4, [], 1, 0) else none) else (bif Nat.beq pc 4 then some (.invokestatic 79, 7, [106], 0, 0) else none)) else (bif Nat.blt pc 8 then (bif Nat.beq pc 7 then some (.iconst 1, 8, [], 1, 0) else none) else (bif Nat.beq pc 8 then some (.invokestatic 173, 11, [107], 0, 0) else none)))) else (bif Nat.blt pc 17 then (bif Nat.blt pc 13 then (bif Nat.blt pc 12 then (bif Nat.beq pc 11 then some (.istore_n 3, 12, [], 0, 0) else none) else (bif Nat.beq pc 12 then some (.iconst 1, 13, [], 1, 0) else none)) else (bif Nat.blt pc 15 then (bif Nat.beq pc 13 then some (.istore 4, 15, [], 0, 0) else none) else (bif Nat.beq pc 15 then some (.iload 4, 17, [], 0, 0) else none))) else (bif Nat.blt pc 22 then (bif Nat.blt pc 19 then (bif Nat.beq pc 17 then some (.bipush 10, 19, [], 10, 0) else none) else (bif Nat.beq pc 19 then some (.if_icmp .ge 31, 22, [50], 0, 0) else none)) else (bif Nat.blt pc 23 then (bif Nat.beq pc 22 then some (.iload_n 1, 23, [], 0, 0) else none) else (bif Nat.beq pc 23 then some (.iload 4, 25, [], 0, 0) else none))))) else (bif Nat.blt pc 38 then (bif Nat.blt pc 32 then (bif Nat.blt pc 28 then (bif Nat.beq pc 25 then some (.invokestatic 152, 28, [105], 0, 0) else none) else (bif Nat.blt pc 31 then (bif Nat.beq pc 28 then some (.ifCond .eq 16, 31, [44], 0, 0) else none) else (bif Nat.beq pc 31 then some (.iload_n 3, 32, [], 0, 0) else none))) else (bif Nat.blt pc 35 then (bif Nat.blt pc 33 then (bif Nat.beq pc 32 then some (.aload_n 0, 33, [], 0, 0) else none) else (bif Nat.beq pc 33 then some (.iload 4, 35, [], 0, 0) else none)) else (bif Nat.blt pc 36 then (bif Nat.beq pc 35 then some (.iload_n 2, 36, [], 0, 0) else none) else (bif Nat.beq pc 36 then some (.bipush (-2), 38, [], (-2), 0) else none)))) else (bif Nat.blt pc 44 then (bif Nat.blt pc 42 then (bif Nat.blt pc 39 then (bif Nat.beq pc 38 then some (.iand, 39, [], 0, 0) else none) else (bif Nat.beq pc 39 then some (.invokevirtual 177, 42, [73], 0, 0) else none)) else (bif Nat.blt pc 43 then (bif Nat.beq pc 42 then some (.ior, 43, [], 0, 0) else none) else (bif Nat.beq pc 43 then some (.istore_n 3, 44, [], 0, 0) else none))) else (bif Nat.blt pc 50 then (bif Nat.blt pc 47 then (bif Nat.beq pc 44 then some (.iinc 4 1, 47, [], 1, 0) else none) else (bif Nat.beq pc 47 then some (.goto (-32), 50, [15], 0, 0) else none)) else (bif Nat.blt pc 51 then (bif Nat.beq pc 50 then some (.iload_n 3, 51, [], 0, 0) else none) else (bif Nat.beq pc 51 then some (.ireturn, 52, [0], 0, 0) else none))))))
def k_X2_moveFaultsOf (pc : Nat) : Option mE := (bif Nat.blt pc 47 then (bif Nat.blt pc 20 then (bif Nat.blt pc 8 then (bif Nat.blt pc 5 then (bif Nat.blt pc 1 then (bif Nat.beq pc 0 then some (.iload_n 2, 1, [], 0, 0) else none) else (bif Nat.blt pc 4 then (bif Nat.beq pc 1 then some (.getstatic 149, 4, [502], 0, 0) else none) else (bif Nat.beq pc 4 then some (.iload_n 1, 5, [], 0, 0) else none))) else (bif Nat.blt pc 6 then (bif Nat.beq pc 5 then some (.iaload, 6, [], 0, 0) else none) else (bif Nat.blt pc 7 then (bif Nat.beq pc 6 then some (.iand, 7, [], 0, 0) else none) else (bif Nat.beq pc 7 then some (.istore_n 3, 8, [], 0, 0) else none)))) else (bif Nat.blt pc 13 then (bif Nat.blt pc 9 then (bif Nat.beq pc 8 then some (.iload_n 3, 9, [], 0, 0) else none) else (bif Nat.blt pc 10 then (bif Nat.beq pc 9 then some (.iload_n 2, 10, [], 0, 0) else none) else (bif Nat.beq pc 10 then some (.if_icmp .eq 7, 13, [17], 0, 0) else none))) else (bif Nat.blt pc 17 then (bif Nat.blt pc 14 then (bif Nat.beq pc 13 then some (.iconst 1, 14, [], 1, 0) else none) else (bif Nat.beq pc 14 then some (.goto 4, 17, [18], 0, 0) else none)) else (bif Nat.blt pc 18 then (bif Nat.beq pc 17 then some (.iconst 0, 18, [], 0, 0) else none) else (bif Nat.beq pc 18 then some (.istore 4, 20, [], 0, 0) else none))))) else (bif Nat.blt pc 33 then (bif Nat.blt pc 26 then (bif Nat.blt pc 22 then (bif Nat.beq pc 20 then some (.bipush 7, 22, [], 7, 0) else none) else (bif Nat.blt pc 24 then (bif Nat.beq pc 22 then some (.istore 5, 24, [], 0, 0) else none) else (bif Nat.beq pc 24 then some (.iload 5, 26, [], 0, 0) else none))) else (bif Nat.blt pc 28 then (bif Nat.beq pc 26 then some (.bipush 10, 28, [], 10, 0) else none) else (bif Nat.blt pc 31 then (bif Nat.beq pc 28 then some (.if_icmp .ge 49, 31, [77], 0, 0) else none) else (bif Nat.beq pc 31 then some (.iload 4, 33, [], 0, 0) else none)))) else (bif Nat.blt pc 39 then (bif Nat.blt pc 36 then (bif Nat.beq pc 33 then some (.ifCond .ne 31, 36, [64], 0, 0) else none) else (bif Nat.blt pc 37 then (bif Nat.beq pc 36 then some (.iload_n 3, 37, [], 0, 0) else none) else (bif Nat.beq pc 37 then some (.iload 5, 39, [], 0, 0) else none))) else (bif Nat.blt pc 45 then (bif Nat.blt pc 42 then (bif Nat.beq pc 39 then some (.invokestatic 152, 42, [105], 0, 0) else none) else (bif Nat.beq pc 42 then some (.ifCond .eq 26, 45, [68], 0, 0) else none)) else (bif Nat.blt pc 46 then (bif Nat.beq pc 45 then some (.aload_n 0, 46, [], 0, 0) else none) else (bif Nat.beq pc 46 then some (.iload_n 1, 47, [], 0, 0) else none)))))) else (bif Nat.blt pc 74 then (bif Nat.blt pc 58 then (bif Nat.blt pc 55 then (bif Nat.blt pc 50 then (bif Nat.beq pc 47 then some (.invokevirtual 180, 50, [74], 0, 0) else none) else (bif Nat.blt pc 53 then (bif Nat.beq pc 50 then some (.getstatic 112, 53, [501], 0, 0) else none) else (bif Nat.beq pc 53 then some (.iload 5, 55, [], 0, 0) else none))) else (bif Nat.blt pc 56 then (bif Nat.beq pc 55 then some (.iaload, 56, [], 0, 0) else none) else (bif Nat.blt pc 57 then (bif Nat.beq pc 56 then some (.iconst (-1), 57, [], (-1), 0) else none) else (bif Nat.beq pc 57 then some (.ixor, 58, [], 0, 0) else none)))) else (bif Nat.blt pc 65 then (bif Nat.blt pc 61 then (bif Nat.beq pc 58 then some (.invokestatic 79, 61, [106], 0, 0) else none) else (bif Nat.blt pc 64 then (bif Nat.beq pc 61 then some (.ifCond .eq 7, 64, [68], 0, 0) else none) else (bif Nat.beq pc 64 then some (.iconst 1, 65, [], 1, 0) else none))) else (bif Nat.blt pc 69 then (bif Nat.blt pc 68 then (bif Nat.beq pc 65 then some (.goto 4, 68, [69], 0, 0) else none) else (bif Nat.beq pc 68 then some (.iconst 0, 69, [], 0, 0) else none)) else (bif Nat.blt pc 71 then (bif Nat.beq pc 69 then some (.istore 4, 71, [], 0, 0) else none) else (bif Nat.beq pc 71 then some (.iinc 5 1, 74, [], 1, 0) else none))))) else (bif Nat.blt pc 87 then (bif Nat.blt pc 80 then (bif Nat.blt pc 77 then (bif Nat.beq pc 74 then some (.goto (-50), 77, [24], 0, 0) else none) else (bif Nat.blt pc 79 then (bif Nat.beq pc 77 then some (.iload 4, 79, [], 0, 0) else none) else (bif Nat.beq pc 79 then some (.iconst 4, 80, [], 4, 0) else none))) else (bif Nat.blt pc 83 then (bif Nat.beq pc 80 then some (.invokestatic 173, 83, [107], 0, 0) else none) else (bif Nat.blt pc 84 then (bif Nat.beq pc 83 then some (.iload_n 3, 84, [], 0, 0) else none) else (bif Nat.beq pc 84 then some (.ifCond .eq 7, 87, [91], 0, 0) else none)))) else (bif Nat.blt pc 92 then (bif Nat.blt pc 88 then (bif Nat.beq pc 87 then some (.iconst 1, 88, [], 1, 0) else none) else (bif Nat.blt pc 91 then (bif Nat.beq pc 88 then some (.goto 4, 91, [92], 0, 0) else none) else (bif Nat.beq pc 91 then some (.iconst 0, 92, [], 0, 0) else none))) else (bif Nat.blt pc 96 then (bif Nat.blt pc 93 then (bif Nat.beq pc 92 then some (.iconst 3, 93, [], 3, 0) else none) else (bif Nat.beq pc 93 then some (.invokestatic 173, 96, [107], 0, 0) else none)) else (bif Nat.blt pc 97 then (bif Nat.beq pc 96 then some (.ior, 97, [], 0, 0) else none) else (bif Nat.beq pc 97 then some (.ireturn, 98, [0], 0, 0) else none)))))))
def k_X2_cellsIn (pc : Nat) : Option mE := (bif Nat.blt pc 36 then (bif Nat.blt pc 32 then (bif Nat.blt pc 28 then (bif Nat.blt pc 1 then (bif Nat.beq pc 0 then some (.iload_n 1, 1, [], 0, 0) else none) else (bif Nat.beq pc 1 then some (.lookupswitch 41 #[(7, 27), (8, 34)], 28, [42, 28, 35], 0, 0) else none)) else (bif Nat.blt pc 29 then (bif Nat.beq pc 28 then some (.aload_n 0, 29, [], 0, 0) else none) else (bif Nat.beq pc 29 then some (.getfield 15, 32, [2, 2, 82, 1, 182], 0, 0) else none))) else (bif Nat.blt pc 34 then (bif Nat.blt pc 33 then (bif Nat.beq pc 32 then some (.iconst 1, 33, [], 1, 0) else none) else (bif Nat.beq pc 33 then some (.iaload, 34, [], 0, 0) else none)) else (bif Nat.blt pc 35 then (bif Nat.beq pc 34 then some (.ireturn, 35, [0], 0, 0) else none) else (bif Nat.beq pc 35 then some (.aload_n 0, 36, [], 0, 0) else none)))) else (bif Nat.blt pc 42 then (bif Nat.blt pc 40 then (bif Nat.blt pc 39 then (bif Nat.beq pc 36 then some (.getfield 15, 39, [2, 2, 82, 1, 182], 0, 0) else none) else (bif Nat.beq pc 39 then some (.iconst 2, 40, [], 2, 0) else none)) else (bif Nat.blt pc 41 then (bif Nat.beq pc 40 then some (.iaload, 41, [], 0, 0) else none) else (bif Nat.beq pc 41 then some (.ireturn, 42, [0], 0, 0) else none))) else (bif Nat.blt pc 46 then (bif Nat.blt pc 45 then (bif Nat.beq pc 42 then some (.getstatic 112, 45, [501], 0, 0) else none) else (bif Nat.beq pc 45 then some (.iload_n 1, 46, [], 0, 0) else none)) else (bif Nat.blt pc 47 then (bif Nat.beq pc 46 then some (.iaload, 47, [], 0, 0) else none) else (bif Nat.beq pc 47 then some (.ireturn, 48, [0], 0, 0) else none)))))
def k_X3_isInBounds (pc : Nat) : Option mE := (bif Nat.blt pc 33 then (bif Nat.blt pc 16 then (bif Nat.blt pc 7 then (bif Nat.blt pc 4 then (bif Nat.blt pc 1 then (bif Nat.beq pc 0 then some (.iload_n 0, 1, [], 0, 0) else none) else (bif Nat.beq pc 1 then some (.ifCond .lt 65, 4, [66], 0, 0) else none)) else (bif Nat.blt pc 5 then (bif Nat.beq pc 4 then some (.iload_n 0, 5, [], 0, 0) else none) else (bif Nat.beq pc 5 then some (.bipush 24, 7, [], 24, 0) else none))) else (bif Nat.blt pc 12 then (bif Nat.blt pc 10 then (bif Nat.beq pc 7 then some (.if_icmp .ge 59, 10, [66], 0, 0) else none) else (bif Nat.beq pc 10 then some (.ldc 31, 12, [600], 0, 0) else none)) else (bif Nat.blt pc 13 then (bif Nat.beq pc 12 then some (.iload_n 0, 13, [], 0, 0) else none) else (bif Nat.beq pc 13 then some (.invokevirtual 33, 16, [9999], 0, 0) else none)))) else (bif Nat.blt pc 25 then (bif Nat.blt pc 20 then (bif Nat.blt pc 17 then (bif Nat.beq pc 16 then some (.iload_n 1, 17, [], 0, 0) else none) else (bif Nat.beq pc 17 then some (.invokestatic 39, 20, [76], 0, 0) else none)) else (bif Nat.blt pc 23 then (bif Nat.beq pc 20 then some (.ifCond .eq 46, 23, [66], 0, 0) else none) else (bif Nat.beq pc 23 then some (.ldc 43, 25, [601], 0, 0) else none))) else (bif Nat.blt pc 29 then (bif Nat.blt pc 26 then (bif Nat.beq pc 25 then some (.iload_n 0, 26, [], 0, 0) else none) else (bif Nat.beq pc 26 then some (.invokevirtual 33, 29, [9999], 0, 0) else none)) else (bif Nat.blt pc 30 then (bif Nat.beq pc 29 then some (.iload_n 2, 30, [], 0, 0) else none) else (bif Nat.beq pc 30 then some (.invokestatic 39, 33, [76], 0, 0) else none))))) else (bif Nat.blt pc 51 then (bif Nat.blt pc 42 then (bif Nat.blt pc 38 then (bif Nat.blt pc 36 then (bif Nat.beq pc 33 then some (.ifCond .eq 33, 36, [66], 0, 0) else none) else (bif Nat.beq pc 36 then some (.ldc 45, 38, [602], 0, 0) else none)) else (bif Nat.blt pc 39 then (bif Nat.beq pc 38 then some (.iload_n 0, 39, [], 0, 0) else none) else (bif Nat.beq pc 39 then some (.invokevirtual 33, 42, [9999], 0, 0) else none))) else (bif Nat.blt pc 46 then (bif Nat.blt pc 43 then (bif Nat.beq pc 42 then some (.iload_n 3, 43, [], 0, 0) else none) else (bif Nat.beq pc 43 then some (.invokestatic 39, 46, [76], 0, 0) else none)) else (bif Nat.blt pc 49 then (bif Nat.beq pc 46 then some (.ifCond .eq 20, 49, [66], 0, 0) else none) else (bif Nat.beq pc 49 then some (.iload 4, 51, [], 0, 0) else none)))) else (bif Nat.blt pc 59 then (bif Nat.blt pc 55 then (bif Nat.blt pc 52 then (bif Nat.beq pc 51 then some (.iconst (-1), 52, [], (-1), 0) else none) else (bif Nat.beq pc 52 then some (.if_icmp .lt 14, 55, [66], 0, 0) else none)) else (bif Nat.blt pc 57 then (bif Nat.beq pc 55 then some (.iload 4, 57, [], 0, 0) else none) else (bif Nat.beq pc 57 then some (.bipush 32, 59, [], 32, 0) else none))) else (bif Nat.blt pc 63 then (bif Nat.blt pc 62 then (bif Nat.beq pc 59 then some (.if_icmp .gt 7, 62, [66], 0, 0) else none) else (bif Nat.beq pc 62 then some (.iconst 1, 63, [], 1, 0) else none)) else (bif Nat.blt pc 66 then (bif Nat.beq pc 63 then some (.goto 4, 66, [67], 0, 0) else none) else (bif Nat.blt pc 67 then (bif Nat.beq pc 66 then some (.iconst 0, 67, [], 0, 0) else none) else (bif Nat.beq pc 67 then some (.ireturn, 68, [1], 0, 0) else none)))))))
def k_X3_fits (pc : Nat) : Option mE := (bif Nat.blt pc 97 then (bif Nat.blt pc 76 then (bif Nat.blt pc 66 then (bif Nat.blt pc 61 then (bif Nat.blt pc 1 then (bif Nat.beq pc 0 then some (.iload_n 0, 1, [], 0, 0) else none) else (bif Nat.blt pc 60 then (bif Nat.beq pc 1 then some (.lookupswitch 134 #[(65, 85), (75, 69), (78, 64), (83, 118), (84, 102), (86, 59)], 60, [135, 86, 70, 65, 119, 103, 60], 0, 0) else none) else (bif Nat.beq pc 60 then some (.iload_n 1, 61, [], 0, 0) else none))) else (bif Nat.blt pc 64 then (bif Nat.beq pc 61 then some (.invokestatic 47, 64, [102], 0, 0) else none) else (bif Nat.blt pc 65 then (bif Nat.beq pc 64 then some (.ireturn, 65, [1], 0, 0) else none) else (bif Nat.beq pc 65 then some (.iload_n 1, 66, [], 0, 0) else none)))) else (bif Nat.blt pc 71 then (bif Nat.blt pc 69 then (bif Nat.beq pc 66 then some (.invokestatic 51, 69, [103], 0, 0) else none) else (bif Nat.blt pc 70 then (bif Nat.beq pc 69 then some (.ireturn, 70, [1], 0, 0) else none) else (bif Nat.beq pc 70 then some (.iload_n 1, 71, [], 0, 0) else none))) else (bif Nat.blt pc 72 then (bif Nat.beq pc 71 then some (.iconst 1, 72, [], 1, 0) else none) else (bif Nat.blt pc 75 then (bif Nat.beq pc 72 then some (.if_icmp .lt 12, 75, [84], 0, 0) else none) else (bif Nat.beq pc 75 then some (.iload_n 1, 76, [], 0, 0) else none))))) else (bif Nat.blt pc 86 then (bif Nat.blt pc 81 then (bif Nat.blt pc 77 then (bif Nat.beq pc 76 then some (.iconst 4, 77, [], 4, 0) else none) else (bif Nat.blt pc 80 then (bif Nat.beq pc 77 then some (.if_icmp .gt 7, 80, [84], 0, 0) else none) else (bif Nat.beq pc 80 then some (.iconst 1, 81, [], 1, 0) else none))) else (bif Nat.blt pc 84 then (bif Nat.beq pc 81 then some (.goto 4, 84, [85], 0, 0) else none) else (bif Nat.blt pc 85 then (bif Nat.beq pc 84 then some (.iconst 0, 85, [], 0, 0) else none) else (bif Nat.beq pc 85 then some (.ireturn, 86, [1], 0, 0) else none)))) else (bif Nat.blt pc 91 then (bif Nat.blt pc 87 then (bif Nat.beq pc 86 then some (.iload_n 1, 87, [], 0, 0) else none) else (bif Nat.blt pc 88 then (bif Nat.beq pc 87 then some (.iconst 5, 88, [], 5, 0) else none) else (bif Nat.beq pc 88 then some (.if_icmp .lt 13, 91, [101], 0, 0) else none))) else (bif Nat.blt pc 92 then (bif Nat.beq pc 91 then some (.iload_n 1, 92, [], 0, 0) else none) else (bif Nat.blt pc 94 then (bif Nat.beq pc 92 then some (.bipush 9, 94, [], 9, 0) else none) else (bif Nat.beq pc 94 then some (.if_icmp .gt 7, 97, [101], 0, 0) else none)))))) else (bif Nat.blt pc 118 then (bif Nat.blt pc 107 then (bif Nat.blt pc 102 then (bif Nat.blt pc 98 then (bif Nat.beq pc 97 then some (.iconst 1, 98, [], 1, 0) else none) else (bif Nat.blt pc 101 then (bif Nat.beq pc 98 then some (.goto 4, 101, [102], 0, 0) else none) else (bif Nat.beq pc 101 then some (.iconst 0, 102, [], 0, 0) else none))) else (bif Nat.blt pc 103 then (bif Nat.beq pc 102 then some (.ireturn, 103, [1], 0, 0) else none) else (bif Nat.blt pc 104 then (bif Nat.beq pc 103 then some (.iload_n 1, 104, [], 0, 0) else none) else (bif Nat.beq pc 104 then some (.ifCond .lt 13, 107, [117], 0, 0) else none)))) else (bif Nat.blt pc 113 then (bif Nat.blt pc 108 then (bif Nat.beq pc 107 then some (.iload_n 1, 108, [], 0, 0) else none) else (bif Nat.blt pc 110 then (bif Nat.beq pc 108 then some (.bipush 11, 110, [], 11, 0) else none) else (bif Nat.beq pc 110 then some (.if_icmp .ge 7, 113, [117], 0, 0) else none))) else (bif Nat.blt pc 114 then (bif Nat.beq pc 113 then some (.iconst 1, 114, [], 1, 0) else none) else (bif Nat.blt pc 117 then (bif Nat.beq pc 114 then some (.goto 4, 117, [118], 0, 0) else none) else (bif Nat.beq pc 117 then some (.iconst 0, 118, [], 0, 0) else none))))) else (bif Nat.blt pc 129 then (bif Nat.blt pc 123 then (bif Nat.blt pc 119 then (bif Nat.beq pc 118 then some (.ireturn, 119, [1], 0, 0) else none) else (bif Nat.blt pc 120 then (bif Nat.beq pc 119 then some (.iload_n 1, 120, [], 0, 0) else none) else (bif Nat.beq pc 120 then some (.ifCond .lt 13, 123, [133], 0, 0) else none))) else (bif Nat.blt pc 124 then (bif Nat.beq pc 123 then some (.iload_n 1, 124, [], 0, 0) else none) else (bif Nat.blt pc 126 then (bif Nat.beq pc 124 then some (.bipush 32, 126, [], 32, 0) else none) else (bif Nat.beq pc 126 then some (.if_icmp .gt 7, 129, [133], 0, 0) else none)))) else (bif Nat.blt pc 134 then (bif Nat.blt pc 130 then (bif Nat.beq pc 129 then some (.iconst 1, 130, [], 1, 0) else none) else (bif Nat.blt pc 133 then (bif Nat.beq pc 130 then some (.goto 4, 133, [134], 0, 0) else none) else (bif Nat.beq pc 133 then some (.iconst 0, 134, [], 0, 0) else none))) else (bif Nat.blt pc 135 then (bif Nat.beq pc 134 then some (.ireturn, 135, [1], 0, 0) else none) else (bif Nat.blt pc 136 then (bif Nat.beq pc 135 then some (.iconst 1, 136, [], 1, 0) else none) else (bif Nat.beq pc 136 then some (.ireturn, 137, [1], 0, 0) else none)))))))
def k_X3_add (pc : Nat) : Option mE := (bif Nat.blt pc 30 then (bif Nat.blt pc 15 then (bif Nat.blt pc 7 then (bif Nat.blt pc 4 then (bif Nat.blt pc 1 then (bif Nat.beq pc 0 then some (.aload_n 0, 1, [], 0, 0) else none) else (bif Nat.beq pc 1 then some (.getfield 27, 4, [3, 5, 125, 0, 0], 0, 0) else none)) else (bif Nat.blt pc 6 then (bif Nat.beq pc 4 then some (.istore 6, 6, [], 0, 0) else none) else (bif Nat.beq pc 6 then some (.aload_n 0, 7, [], 0, 0) else none))) else (bif Nat.blt pc 12 then (bif Nat.blt pc 10 then (bif Nat.beq pc 7 then some (.getfield 9, 10, [3, 0, 120, 1, 220], 0, 0) else none) else (bif Nat.beq pc 10 then some (.iload 6, 12, [], 0, 0) else none)) else (bif Nat.blt pc 13 then (bif Nat.beq pc 12 then some (.iload_n 1, 13, [], 0, 0) else none) else (bif Nat.blt pc 14 then (bif Nat.beq pc 13 then some (.iastore, 14, [], 0, 0) else none) else (bif Nat.beq pc 14 then some (.aload_n 0, 15, [], 0, 0) else none))))) else (bif Nat.blt pc 22 then (bif Nat.blt pc 20 then (bif Nat.blt pc 18 then (bif Nat.beq pc 15 then some (.getfield 15, 18, [3, 1, 121, 1, 221], 0, 0) else none) else (bif Nat.beq pc 18 then some (.iload 6, 20, [], 0, 0) else none)) else (bif Nat.blt pc 21 then (bif Nat.beq pc 20 then some (.iload_n 2, 21, [], 0, 0) else none) else (bif Nat.beq pc 21 then some (.iastore, 22, [], 0, 0) else none))) else (bif Nat.blt pc 26 then (bif Nat.blt pc 23 then (bif Nat.beq pc 22 then some (.aload_n 0, 23, [], 0, 0) else none) else (bif Nat.beq pc 23 then some (.getfield 18, 26, [3, 2, 122, 1, 222], 0, 0) else none)) else (bif Nat.blt pc 28 then (bif Nat.beq pc 26 then some (.iload 6, 28, [], 0, 0) else none) else (bif Nat.blt pc 29 then (bif Nat.beq pc 28 then some (.iload_n 3, 29, [], 0, 0) else none) else (bif Nat.beq pc 29 then some (.iastore, 30, [], 0, 0) else none)))))) else (bif Nat.blt pc 47 then (bif Nat.blt pc 38 then (bif Nat.blt pc 34 then (bif Nat.blt pc 31 then (bif Nat.beq pc 30 then some (.aload_n 0, 31, [], 0, 0) else none) else (bif Nat.beq pc 31 then some (.getfield 21, 34, [3, 3, 123, 1, 223], 0, 0) else none)) else (bif Nat.blt pc 36 then (bif Nat.beq pc 34 then some (.iload 6, 36, [], 0, 0) else none) else (bif Nat.beq pc 36 then some (.iload 4, 38, [], 0, 0) else none))) else (bif Nat.blt pc 40 then (bif Nat.blt pc 39 then (bif Nat.beq pc 38 then some (.iastore, 39, [], 0, 0) else none) else (bif Nat.beq pc 39 then some (.aload_n 0, 40, [], 0, 0) else none)) else (bif Nat.blt pc 43 then (bif Nat.beq pc 40 then some (.getfield 24, 43, [3, 4, 124, 1, 224], 0, 0) else none) else (bif Nat.blt pc 45 then (bif Nat.beq pc 43 then some (.iload 6, 45, [], 0, 0) else none) else (bif Nat.beq pc 45 then some (.iload 5, 47, [], 0, 0) else none))))) else (bif Nat.blt pc 53 then (bif Nat.blt pc 49 then (bif Nat.blt pc 48 then (bif Nat.beq pc 47 then some (.iastore, 48, [], 0, 0) else none) else (bif Nat.beq pc 48 then some (.aload_n 0, 49, [], 0, 0) else none)) else (bif Nat.blt pc 50 then (bif Nat.beq pc 49 then some (.dup, 50, [], 0, 0) else none) else (bif Nat.beq pc 50 then some (.getfield 27, 53, [3, 5, 125, 0, 0], 0, 0) else none))) else (bif Nat.blt pc 55 then (bif Nat.blt pc 54 then (bif Nat.beq pc 53 then some (.iconst 1, 54, [], 1, 0) else none) else (bif Nat.beq pc 54 then some (.iadd, 55, [], 0, 0) else none)) else (bif Nat.blt pc 58 then (bif Nat.beq pc 55 then some (.putfield 27, 58, [3, 5, 125, 0, 0], 0, 0) else none) else (bif Nat.blt pc 60 then (bif Nat.beq pc 58 then some (.iload 6, 60, [], 0, 0) else none) else (bif Nat.beq pc 60 then some (.ireturn, 61, [0], 0, 0) else none)))))))
def k_X3_empty (pc : Nat) : Option mE := (bif Nat.blt pc 2 then (bif Nat.blt pc 1 then (bif Nat.beq pc 0 then some (.aload_n 0, 1, [], 0, 0) else none) else (bif Nat.beq pc 1 then some (.iconst 0, 2, [], 0, 0) else none)) else (bif Nat.blt pc 5 then (bif Nat.beq pc 2 then some (.putfield 27, 5, [3, 5, 125, 0, 0], 0, 0) else none) else (bif Nat.beq pc 5 then some (.return_, 6, [], 0, 0) else none)))
def k_X3_size (pc : Nat) : Option mE := (bif Nat.blt pc 1 then (bif Nat.beq pc 0 then some (.aload_n 0, 1, [], 0, 0) else none) else (bif Nat.blt pc 4 then (bif Nat.beq pc 1 then some (.getfield 27, 4, [3, 5, 125, 0, 0], 0, 0) else none) else (bif Nat.beq pc 4 then some (.ireturn, 5, [0], 0, 0) else none)))
def k_X3_has (pc : Nat) : Option mE := (bif Nat.blt pc 9 then (bif Nat.blt pc 4 then (bif Nat.blt pc 1 then (bif Nat.beq pc 0 then some (.iload_n 1, 1, [], 0, 0) else none) else (bif Nat.beq pc 1 then some (.ifCond .lt 15, 4, [16], 0, 0) else none)) else (bif Nat.blt pc 5 then (bif Nat.beq pc 4 then some (.iload_n 1, 5, [], 0, 0) else none) else (bif Nat.blt pc 6 then (bif Nat.beq pc 5 then some (.aload_n 0, 6, [], 0, 0) else none) else (bif Nat.beq pc 6 then some (.getfield 27, 9, [3, 5, 125, 0, 0], 0, 0) else none)))) else (bif Nat.blt pc 13 then (bif Nat.blt pc 12 then (bif Nat.beq pc 9 then some (.if_icmp .ge 7, 12, [16], 0, 0) else none) else (bif Nat.beq pc 12 then some (.iconst 1, 13, [], 1, 0) else none)) else (bif Nat.blt pc 16 then (bif Nat.beq pc 13 then some (.goto 4, 16, [17], 0, 0) else none) else (bif Nat.blt pc 17 then (bif Nat.beq pc 16 then some (.iconst 0, 17, [], 0, 0) else none) else (bif Nat.beq pc 17 then some (.ireturn, 18, [1], 0, 0) else none)))))
def k_X4_forget (pc : Nat) : Option mE := (bif Nat.blt pc 13 then (bif Nat.blt pc 5 then (bif Nat.blt pc 1 then (bif Nat.beq pc 0 then some (.aload_n 0, 1, [], 0, 0) else none) else (bif Nat.blt pc 4 then (bif Nat.beq pc 1 then some (.getfield 9, 4, [4, 0, 160, 1, 260], 0, 0) else none) else (bif Nat.beq pc 4 then some (.iconst 0, 5, [], 0, 0) else none))) else (bif Nat.blt pc 9 then (bif Nat.blt pc 8 then (bif Nat.beq pc 5 then some (.invokestatic 25, 8, [149], 0, 0) else none) else (bif Nat.beq pc 8 then some (.aload_n 0, 9, [], 0, 0) else none)) else (bif Nat.blt pc 12 then (bif Nat.beq pc 9 then some (.getfield 15, 12, [4, 1, 161, 1, 261], 0, 0) else none) else (bif Nat.beq pc 12 then some (.iconst 0, 13, [], 0, 0) else none)))) else (bif Nat.blt pc 21 then (bif Nat.blt pc 17 then (bif Nat.blt pc 16 then (bif Nat.beq pc 13 then some (.invokestatic 25, 16, [149], 0, 0) else none) else (bif Nat.beq pc 16 then some (.aload_n 0, 17, [], 0, 0) else none)) else (bif Nat.blt pc 18 then (bif Nat.beq pc 17 then some (.iconst 0, 18, [], 0, 0) else none) else (bif Nat.beq pc 18 then some (.putfield 18, 21, [4, 2, 162, 0, 0], 0, 0) else none))) else (bif Nat.blt pc 23 then (bif Nat.blt pc 22 then (bif Nat.beq pc 21 then some (.aload_n 0, 22, [], 0, 0) else none) else (bif Nat.beq pc 22 then some (.iconst 0, 23, [], 0, 0) else none)) else (bif Nat.blt pc 26 then (bif Nat.beq pc 23 then some (.putfield 22, 26, [4, 3, 163, 0, 0], 0, 0) else none) else (bif Nat.beq pc 26 then some (.return_, 27, [], 0, 0) else none)))))
def k_X4_noteRun (pc : Nat) : Option mE := (bif Nat.blt pc 5 then (bif Nat.blt pc 1 then (bif Nat.beq pc 0 then some (.aload_n 0, 1, [], 0, 0) else none) else (bif Nat.blt pc 2 then (bif Nat.beq pc 1 then some (.dup, 2, [], 0, 0) else none) else (bif Nat.beq pc 2 then some (.getfield 22, 5, [4, 3, 163, 0, 0], 0, 0) else none))) else (bif Nat.blt pc 7 then (bif Nat.blt pc 6 then (bif Nat.beq pc 5 then some (.iconst 1, 6, [], 1, 0) else none) else (bif Nat.beq pc 6 then some (.iadd, 7, [], 0, 0) else none)) else (bif Nat.blt pc 10 then (bif Nat.beq pc 7 then some (.putfield 22, 10, [4, 3, 163, 0, 0], 0, 0) else none) else (bif Nat.beq pc 10 then some (.return_, 11, [], 0, 0) else none))))
def k_X4_noteStep (pc : Nat) : Option mE := (bif Nat.blt pc 5 then (bif Nat.blt pc 1 then (bif Nat.beq pc 0 then some (.aload_n 0, 1, [], 0, 0) else none) else (bif Nat.blt pc 2 then (bif Nat.beq pc 1 then some (.dup, 2, [], 0, 0) else none) else (bif Nat.beq pc 2 then some (.getfield 18, 5, [4, 2, 162, 0, 0], 0, 0) else none))) else (bif Nat.blt pc 7 then (bif Nat.blt pc 6 then (bif Nat.beq pc 5 then some (.iconst 1, 6, [], 1, 0) else none) else (bif Nat.beq pc 6 then some (.iadd, 7, [], 0, 0) else none)) else (bif Nat.blt pc 10 then (bif Nat.beq pc 7 then some (.putfield 18, 10, [4, 2, 162, 0, 0], 0, 0) else none) else (bif Nat.beq pc 10 then some (.return_, 11, [], 0, 0) else none))))
def k_X4_noteKind (pc : Nat) : Option mE := (bif Nat.blt pc 10 then (bif Nat.blt pc 5 then (bif Nat.blt pc 1 then (bif Nat.beq pc 0 then some (.aload_n 0, 1, [], 0, 0) else none) else (bif Nat.blt pc 4 then (bif Nat.beq pc 1 then some (.getfield 9, 4, [4, 0, 160, 1, 260], 0, 0) else none) else (bif Nat.beq pc 4 then some (.iload_n 1, 5, [], 0, 0) else none))) else (bif Nat.blt pc 8 then (bif Nat.blt pc 7 then (bif Nat.beq pc 5 then some (.bipush 6, 7, [], 6, 0) else none) else (bif Nat.beq pc 7 then some (.imul, 8, [], 0, 0) else none)) else (bif Nat.blt pc 9 then (bif Nat.beq pc 8 then some (.iload_n 2, 9, [], 0, 0) else none) else (bif Nat.beq pc 9 then some (.iadd, 10, [], 0, 0) else none)))) else (bif Nat.blt pc 13 then (bif Nat.blt pc 11 then (bif Nat.beq pc 10 then some (.dup2, 11, [], 0, 0) else none) else (bif Nat.blt pc 12 then (bif Nat.beq pc 11 then some (.iaload, 12, [], 0, 0) else none) else (bif Nat.beq pc 12 then some (.iload_n 3, 13, [], 0, 0) else none))) else (bif Nat.blt pc 17 then (bif Nat.blt pc 16 then (bif Nat.beq pc 13 then some (.invokestatic 31, 16, [104], 0, 0) else none) else (bif Nat.beq pc 16 then some (.ior, 17, [], 0, 0) else none)) else (bif Nat.blt pc 18 then (bif Nat.beq pc 17 then some (.iastore, 18, [], 0, 0) else none) else (bif Nat.beq pc 18 then some (.return_, 19, [], 0, 0) else none)))))
def k_X4_noteFault (pc : Nat) : Option mE := (bif Nat.blt pc 7 then (bif Nat.blt pc 4 then (bif Nat.blt pc 1 then (bif Nat.beq pc 0 then some (.aload_n 0, 1, [], 0, 0) else none) else (bif Nat.beq pc 1 then some (.getfield 15, 4, [4, 1, 161, 1, 261], 0, 0) else none)) else (bif Nat.blt pc 5 then (bif Nat.beq pc 4 then some (.iload_n 1, 5, [], 0, 0) else none) else (bif Nat.blt pc 6 then (bif Nat.beq pc 5 then some (.dup2, 6, [], 0, 0) else none) else (bif Nat.beq pc 6 then some (.iaload, 7, [], 0, 0) else none)))) else (bif Nat.blt pc 10 then (bif Nat.blt pc 8 then (bif Nat.beq pc 7 then some (.iconst 1, 8, [], 1, 0) else none) else (bif Nat.blt pc 9 then (bif Nat.beq pc 8 then some (.iload_n 2, 9, [], 0, 0) else none) else (bif Nat.beq pc 9 then some (.ishl, 10, [], 0, 0) else none))) else (bif Nat.blt pc 11 then (bif Nat.beq pc 10 then some (.ior, 11, [], 0, 0) else none) else (bif Nat.blt pc 12 then (bif Nat.beq pc 11 then some (.iastore, 12, [], 0, 0) else none) else (bif Nat.beq pc 12 then some (.return_, 13, [], 0, 0) else none)))))
def k_X4_kindsAt (pc : Nat) : Option mE := (bif Nat.blt pc 7 then (bif Nat.blt pc 4 then (bif Nat.blt pc 1 then (bif Nat.beq pc 0 then some (.aload_n 0, 1, [], 0, 0) else none) else (bif Nat.beq pc 1 then some (.getfield 9, 4, [4, 0, 160, 1, 260], 0, 0) else none)) else (bif Nat.blt pc 5 then (bif Nat.beq pc 4 then some (.iload_n 1, 5, [], 0, 0) else none) else (bif Nat.beq pc 5 then some (.bipush 6, 7, [], 6, 0) else none))) else (bif Nat.blt pc 9 then (bif Nat.blt pc 8 then (bif Nat.beq pc 7 then some (.imul, 8, [], 0, 0) else none) else (bif Nat.beq pc 8 then some (.iload_n 2, 9, [], 0, 0) else none)) else (bif Nat.blt pc 10 then (bif Nat.beq pc 9 then some (.iadd, 10, [], 0, 0) else none) else (bif Nat.blt pc 11 then (bif Nat.beq pc 10 then some (.iaload, 11, [], 0, 0) else none) else (bif Nat.beq pc 11 then some (.ireturn, 12, [0], 0, 0) else none)))))
def k_X4_faultsAt (pc : Nat) : Option mE := (bif Nat.blt pc 4 then (bif Nat.blt pc 1 then (bif Nat.beq pc 0 then some (.aload_n 0, 1, [], 0, 0) else none) else (bif Nat.beq pc 1 then some (.getfield 15, 4, [4, 1, 161, 1, 261], 0, 0) else none)) else (bif Nat.blt pc 5 then (bif Nat.beq pc 4 then some (.iload_n 1, 5, [], 0, 0) else none) else (bif Nat.blt pc 6 then (bif Nat.beq pc 5 then some (.iaload, 6, [], 0, 0) else none) else (bif Nat.beq pc 6 then some (.ireturn, 7, [0], 0, 0) else none))))
def k_X4_stepsDone (pc : Nat) : Option mE := (bif Nat.blt pc 1 then (bif Nat.beq pc 0 then some (.aload_n 0, 1, [], 0, 0) else none) else (bif Nat.blt pc 4 then (bif Nat.beq pc 1 then some (.getfield 18, 4, [4, 2, 162, 0, 0], 0, 0) else none) else (bif Nat.beq pc 4 then some (.ireturn, 5, [0], 0, 0) else none)))
def k_X4_runs (pc : Nat) : Option mE := (bif Nat.blt pc 1 then (bif Nat.beq pc 0 then some (.aload_n 0, 1, [], 0, 0) else none) else (bif Nat.blt pc 4 then (bif Nat.beq pc 1 then some (.getfield 22, 4, [4, 3, 163, 0, 0], 0, 0) else none) else (bif Nat.beq pc 4 then some (.ireturn, 5, [0], 0, 0) else none)))
def k_X5_step (pc : Nat) : Option mE := (bif Nat.blt pc 30 then (bif Nat.blt pc 13 then (bif Nat.blt pc 3 then (bif Nat.blt pc 1 then (bif Nat.beq pc 0 then some (.iload_n 1, 1, [], 0, 0) else none) else (bif Nat.blt pc 2 then (bif Nat.beq pc 1 then some (.iload_n 2, 2, [], 0, 0) else none) else (bif Nat.beq pc 2 then some (.iload_n 3, 3, [], 0, 0) else none))) else (bif Nat.blt pc 7 then (bif Nat.blt pc 5 then (bif Nat.beq pc 3 then some (.iload 4, 5, [], 0, 0) else none) else (bif Nat.beq pc 5 then some (.iload 5, 7, [], 0, 0) else none)) else (bif Nat.blt pc 10 then (bif Nat.beq pc 7 then some (.invokestatic 43, 10, [75], 0, 0) else none) else (bif Nat.beq pc 10 then some (.ifCond .ne 6, 13, [16], 0, 0) else none)))) else (bif Nat.blt pc 20 then (bif Nat.blt pc 16 then (bif Nat.blt pc 15 then (bif Nat.beq pc 13 then some (.bipush (-2), 15, [], (-2), 0) else none) else (bif Nat.beq pc 15 then some (.ireturn, 16, [0], 0, 0) else none)) else (bif Nat.blt pc 17 then (bif Nat.beq pc 16 then some (.aload_n 0, 17, [], 0, 0) else none) else (bif Nat.beq pc 17 then some (.getfield 12, 20, [5, 0, 200, 1, 3], 0, 0) else none))) else (bif Nat.blt pc 25 then (bif Nat.blt pc 23 then (bif Nat.beq pc 20 then some (.invokevirtual 47, 23, [79], 0, 0) else none) else (bif Nat.beq pc 23 then some (.bipush 32, 25, [], 32, 0) else none)) else (bif Nat.blt pc 28 then (bif Nat.beq pc 25 then some (.if_icmp .lt 6, 28, [31], 0, 0) else none) else (bif Nat.beq pc 28 then some (.bipush (-4), 30, [], (-4), 0) else none))))) else (bif Nat.blt pc 46 then (bif Nat.blt pc 38 then (bif Nat.blt pc 32 then (bif Nat.blt pc 31 then (bif Nat.beq pc 30 then some (.ireturn, 31, [0], 0, 0) else none) else (bif Nat.beq pc 31 then some (.aload_n 0, 32, [], 0, 0) else none)) else (bif Nat.blt pc 35 then (bif Nat.beq pc 32 then some (.getfield 21, 35, [5, 1, 201, 1, 4], 0, 0) else none) else (bif Nat.beq pc 35 then some (.invokevirtual 51, 38, [81], 0, 0) else none))) else (bif Nat.blt pc 42 then (bif Nat.blt pc 39 then (bif Nat.beq pc 38 then some (.aload_n 0, 39, [], 0, 0) else none) else (bif Nat.beq pc 39 then some (.getfield 39, 42, [5, 3, 203, 1, 2], 0, 0) else none)) else (bif Nat.blt pc 45 then (bif Nat.beq pc 42 then some (.invokevirtual 54, 45, [41], 0, 0) else none) else (bif Nat.beq pc 45 then some (.aload_n 0, 46, [], 0, 0) else none)))) else (bif Nat.blt pc 52 then (bif Nat.blt pc 50 then (bif Nat.blt pc 49 then (bif Nat.beq pc 46 then some (.getfield 12, 49, [5, 0, 200, 1, 3], 0, 0) else none) else (bif Nat.beq pc 49 then some (.iload_n 1, 50, [], 0, 0) else none)) else (bif Nat.blt pc 51 then (bif Nat.beq pc 50 then some (.iload_n 2, 51, [], 0, 0) else none) else (bif Nat.beq pc 51 then some (.iload_n 3, 52, [], 0, 0) else none))) else (bif Nat.blt pc 56 then (bif Nat.blt pc 54 then (bif Nat.beq pc 52 then some (.iload 4, 54, [], 0, 0) else none) else (bif Nat.beq pc 54 then some (.iload 5, 56, [], 0, 0) else none)) else (bif Nat.blt pc 59 then (bif Nat.beq pc 56 then some (.invokevirtual 55, 59, [77], 0, 0) else none) else (bif Nat.beq pc 59 then some (.ireturn, 60, [0], 0, 0) else none))))))
def k_X5_clear (pc : Nat) : Option mE := (bif Nat.blt pc 19 then (bif Nat.blt pc 8 then (bif Nat.blt pc 4 then (bif Nat.blt pc 1 then (bif Nat.beq pc 0 then some (.aload_n 0, 1, [], 0, 0) else none) else (bif Nat.beq pc 1 then some (.getfield 12, 4, [5, 0, 200, 1, 3], 0, 0) else none)) else (bif Nat.blt pc 7 then (bif Nat.beq pc 4 then some (.invokevirtual 47, 7, [79], 0, 0) else none) else (bif Nat.beq pc 7 then some (.istore_n 1, 8, [], 0, 0) else none))) else (bif Nat.blt pc 12 then (bif Nat.blt pc 9 then (bif Nat.beq pc 8 then some (.aload_n 0, 9, [], 0, 0) else none) else (bif Nat.beq pc 9 then some (.getfield 12, 12, [5, 0, 200, 1, 3], 0, 0) else none)) else (bif Nat.blt pc 15 then (bif Nat.beq pc 12 then some (.invokevirtual 59, 15, [78], 0, 0) else none) else (bif Nat.blt pc 16 then (bif Nat.beq pc 15 then some (.aload_n 0, 16, [], 0, 0) else none) else (bif Nat.beq pc 16 then some (.getfield 21, 19, [5, 1, 201, 1, 4], 0, 0) else none))))) else (bif Nat.blt pc 29 then (bif Nat.blt pc 23 then (bif Nat.blt pc 22 then (bif Nat.beq pc 19 then some (.invokevirtual 51, 22, [81], 0, 0) else none) else (bif Nat.beq pc 22 then some (.aload_n 0, 23, [], 0, 0) else none)) else (bif Nat.blt pc 26 then (bif Nat.beq pc 23 then some (.getfield 30, 26, [5, 2, 202, 1, 1], 0, 0) else none) else (bif Nat.beq pc 26 then some (.invokevirtual 62, 29, [13], 0, 0) else none))) else (bif Nat.blt pc 33 then (bif Nat.blt pc 30 then (bif Nat.beq pc 29 then some (.aload_n 0, 30, [], 0, 0) else none) else (bif Nat.beq pc 30 then some (.getfield 39, 33, [5, 3, 203, 1, 2], 0, 0) else none)) else (bif Nat.blt pc 36 then (bif Nat.beq pc 33 then some (.invokevirtual 54, 36, [41], 0, 0) else none) else (bif Nat.blt pc 37 then (bif Nat.beq pc 36 then some (.iload_n 1, 37, [], 0, 0) else none) else (bif Nat.beq pc 37 then some (.ireturn, 38, [0], 0, 0) else none))))))
def k_X5_run (pc : Nat) : Option mE := (bif Nat.blt pc 5 then (bif Nat.blt pc 1 then (bif Nat.beq pc 0 then some (.aload_n 0, 1, [], 0, 0) else none) else (bif Nat.blt pc 4 then (bif Nat.beq pc 1 then some (.getfield 30, 4, [5, 2, 202, 1, 1], 0, 0) else none) else (bif Nat.beq pc 4 then some (.iload_n 1, 5, [], 0, 0) else none))) else (bif Nat.blt pc 6 then (bif Nat.beq pc 5 then some (.iload_n 2, 6, [], 0, 0) else none) else (bif Nat.blt pc 9 then (bif Nat.beq pc 6 then some (.invokevirtual 63, 9, [15], 0, 0) else none) else (bif Nat.beq pc 9 then some (.ireturn, 10, [0], 0, 0) else none))))
def k_X5_ran (pc : Nat) : Option mE := (bif Nat.blt pc 11 then (bif Nat.blt pc 4 then (bif Nat.blt pc 1 then (bif Nat.beq pc 0 then some (.aload_n 0, 1, [], 0, 0) else none) else (bif Nat.beq pc 1 then some (.getfield 30, 4, [5, 2, 202, 1, 1], 0, 0) else none)) else (bif Nat.blt pc 7 then (bif Nat.beq pc 4 then some (.invokevirtual 67, 7, [14], 0, 0) else none) else (bif Nat.blt pc 10 then (bif Nat.beq pc 7 then some (.ifCond .eq 14, 10, [21], 0, 0) else none) else (bif Nat.beq pc 10 then some (.aload_n 0, 11, [], 0, 0) else none)))) else (bif Nat.blt pc 18 then (bif Nat.blt pc 14 then (bif Nat.beq pc 11 then some (.getfield 30, 14, [5, 2, 202, 1, 1], 0, 0) else none) else (bif Nat.blt pc 15 then (bif Nat.beq pc 14 then some (.iload_n 1, 15, [], 0, 0) else none) else (bif Nat.beq pc 15 then some (.invokevirtual 71, 18, [38], 0, 0) else none))) else (bif Nat.blt pc 21 then (bif Nat.beq pc 18 then some (.goto 6, 21, [24], 0, 0) else none) else (bif Nat.blt pc 24 then (bif Nat.beq pc 21 then some (.ldc2_w 75, 24, [], 0, (-9223372036854775808)) else none) else (bif Nat.beq pc 24 then some (.lreturn, 25, [], 0, 0) else none)))))
def k_X5_variable (pc : Nat) : Option mE := (bif Nat.blt pc 21 then (bif Nat.blt pc 10 then (bif Nat.blt pc 7 then (bif Nat.blt pc 1 then (bif Nat.beq pc 0 then some (.iload_n 1, 1, [], 0, 0) else none) else (bif Nat.blt pc 4 then (bif Nat.beq pc 1 then some (.invokestatic 77, 4, [102], 0, 0) else none) else (bif Nat.beq pc 4 then some (.ifCond .ne 5, 7, [9], 0, 0) else none))) else (bif Nat.blt pc 8 then (bif Nat.beq pc 7 then some (.iconst (-1), 8, [], (-1), 0) else none) else (bif Nat.blt pc 9 then (bif Nat.beq pc 8 then some (.ireturn, 9, [0], 0, 0) else none) else (bif Nat.beq pc 9 then some (.iload_n 2, 10, [], 0, 0) else none)))) else (bif Nat.blt pc 15 then (bif Nat.blt pc 13 then (bif Nat.beq pc 10 then some (.ifCond .lt 8, 13, [18], 0, 0) else none) else (bif Nat.blt pc 14 then (bif Nat.beq pc 13 then some (.iload_n 2, 14, [], 0, 0) else none) else (bif Nat.beq pc 14 then some (.iconst 3, 15, [], 3, 0) else none))) else (bif Nat.blt pc 18 then (bif Nat.beq pc 15 then some (.if_icmp .le 6, 18, [21], 0, 0) else none) else (bif Nat.blt pc 20 then (bif Nat.beq pc 18 then some (.bipush (-2), 20, [], (-2), 0) else none) else (bif Nat.beq pc 20 then some (.ireturn, 21, [0], 0, 0) else none))))) else (bif Nat.blt pc 35 then (bif Nat.blt pc 28 then (bif Nat.blt pc 22 then (bif Nat.beq pc 21 then some (.aload_n 0, 22, [], 0, 0) else none) else (bif Nat.blt pc 25 then (bif Nat.beq pc 22 then some (.getfield 30, 25, [5, 2, 202, 1, 1], 0, 0) else none) else (bif Nat.beq pc 25 then some (.invokevirtual 67, 28, [14], 0, 0) else none))) else (bif Nat.blt pc 31 then (bif Nat.beq pc 28 then some (.ifCond .eq 15, 31, [43], 0, 0) else none) else (bif Nat.blt pc 32 then (bif Nat.beq pc 31 then some (.aload_n 0, 32, [], 0, 0) else none) else (bif Nat.beq pc 32 then some (.getfield 30, 35, [5, 2, 202, 1, 1], 0, 0) else none)))) else (bif Nat.blt pc 40 then (bif Nat.blt pc 36 then (bif Nat.beq pc 35 then some (.iload_n 1, 36, [], 0, 0) else none) else (bif Nat.blt pc 37 then (bif Nat.beq pc 36 then some (.iload_n 2, 37, [], 0, 0) else none) else (bif Nat.beq pc 37 then some (.invokevirtual 81, 40, [39], 0, 0) else none))) else (bif Nat.blt pc 43 then (bif Nat.beq pc 40 then some (.goto 5, 43, [45], 0, 0) else none) else (bif Nat.blt pc 45 then (bif Nat.beq pc 43 then some (.bipush (-3), 45, [], (-3), 0) else none) else (bif Nat.beq pc 45 then some (.ireturn, 46, [0], 0, 0) else none))))))
def k_X5_number (pc : Nat) : Option mE := (bif Nat.blt pc 17 then (bif Nat.blt pc 7 then (bif Nat.blt pc 1 then (bif Nat.beq pc 0 then some (.iload_n 1, 1, [], 0, 0) else none) else (bif Nat.blt pc 4 then (bif Nat.beq pc 1 then some (.invokestatic 84, 4, [103], 0, 0) else none) else (bif Nat.beq pc 4 then some (.ifCond .eq 25, 7, [29], 0, 0) else none))) else (bif Nat.blt pc 11 then (bif Nat.blt pc 8 then (bif Nat.beq pc 7 then some (.aload_n 0, 8, [], 0, 0) else none) else (bif Nat.beq pc 8 then some (.getfield 30, 11, [5, 2, 202, 1, 1], 0, 0) else none)) else (bif Nat.blt pc 14 then (bif Nat.beq pc 11 then some (.invokevirtual 67, 14, [14], 0, 0) else none) else (bif Nat.beq pc 14 then some (.ifCond .eq 15, 17, [29], 0, 0) else none)))) else (bif Nat.blt pc 25 then (bif Nat.blt pc 21 then (bif Nat.blt pc 18 then (bif Nat.beq pc 17 then some (.aload_n 0, 18, [], 0, 0) else none) else (bif Nat.beq pc 18 then some (.getfield 30, 21, [5, 2, 202, 1, 1], 0, 0) else none)) else (bif Nat.blt pc 22 then (bif Nat.beq pc 21 then some (.iload_n 1, 22, [], 0, 0) else none) else (bif Nat.beq pc 22 then some (.invokevirtual 87, 25, [40], 0, 0) else none))) else (bif Nat.blt pc 29 then (bif Nat.blt pc 26 then (bif Nat.beq pc 25 then some (.i2l, 26, [], 0, 0) else none) else (bif Nat.beq pc 26 then some (.goto 6, 29, [32], 0, 0) else none)) else (bif Nat.blt pc 32 then (bif Nat.beq pc 29 then some (.ldc2_w 75, 32, [], 0, (-9223372036854775808)) else none) else (bif Nat.beq pc 32 then some (.lreturn, 33, [], 0, 0) else none)))))
def k_X5_seen (pc : Nat) : Option mE := (bif Nat.blt pc 18 then (bif Nat.blt pc 8 then (bif Nat.blt pc 4 then (bif Nat.blt pc 1 then (bif Nat.beq pc 0 then some (.aload_n 0, 1, [], 0, 0) else none) else (bif Nat.beq pc 1 then some (.getfield 12, 4, [5, 0, 200, 1, 3], 0, 0) else none)) else (bif Nat.blt pc 5 then (bif Nat.beq pc 4 then some (.iload_n 1, 5, [], 0, 0) else none) else (bif Nat.beq pc 5 then some (.invokevirtual 91, 8, [80], 0, 0) else none))) else (bif Nat.blt pc 12 then (bif Nat.blt pc 11 then (bif Nat.beq pc 8 then some (.ifCond .eq 22, 11, [30], 0, 0) else none) else (bif Nat.beq pc 11 then some (.iload_n 2, 12, [], 0, 0) else none)) else (bif Nat.blt pc 15 then (bif Nat.beq pc 12 then some (.invokestatic 77, 15, [102], 0, 0) else none) else (bif Nat.beq pc 15 then some (.ifCond .eq 15, 18, [30], 0, 0) else none)))) else (bif Nat.blt pc 24 then (bif Nat.blt pc 22 then (bif Nat.blt pc 19 then (bif Nat.beq pc 18 then some (.aload_n 0, 19, [], 0, 0) else none) else (bif Nat.beq pc 19 then some (.getfield 21, 22, [5, 1, 201, 1, 4], 0, 0) else none)) else (bif Nat.blt pc 23 then (bif Nat.beq pc 22 then some (.iload_n 1, 23, [], 0, 0) else none) else (bif Nat.beq pc 23 then some (.iload_n 2, 24, [], 0, 0) else none))) else (bif Nat.blt pc 30 then (bif Nat.blt pc 27 then (bif Nat.beq pc 24 then some (.invokevirtual 94, 27, [86], 0, 0) else none) else (bif Nat.beq pc 27 then some (.goto 4, 30, [31], 0, 0) else none)) else (bif Nat.blt pc 31 then (bif Nat.beq pc 30 then some (.iconst (-1), 31, [], (-1), 0) else none) else (bif Nat.beq pc 31 then some (.ireturn, 32, [0], 0, 0) else none)))))
def k_X5_had (pc : Nat) : Option mE := (bif Nat.blt pc 12 then (bif Nat.blt pc 5 then (bif Nat.blt pc 1 then (bif Nat.beq pc 0 then some (.aload_n 0, 1, [], 0, 0) else none) else (bif Nat.blt pc 4 then (bif Nat.beq pc 1 then some (.getfield 12, 4, [5, 0, 200, 1, 3], 0, 0) else none) else (bif Nat.beq pc 4 then some (.iload_n 1, 5, [], 0, 0) else none))) else (bif Nat.blt pc 8 then (bif Nat.beq pc 5 then some (.invokevirtual 91, 8, [80], 0, 0) else none) else (bif Nat.blt pc 11 then (bif Nat.beq pc 8 then some (.ifCond .eq 14, 11, [22], 0, 0) else none) else (bif Nat.beq pc 11 then some (.aload_n 0, 12, [], 0, 0) else none)))) else (bif Nat.blt pc 19 then (bif Nat.blt pc 15 then (bif Nat.beq pc 12 then some (.getfield 21, 15, [5, 1, 201, 1, 4], 0, 0) else none) else (bif Nat.blt pc 16 then (bif Nat.beq pc 15 then some (.iload_n 1, 16, [], 0, 0) else none) else (bif Nat.beq pc 16 then some (.invokevirtual 97, 19, [87], 0, 0) else none))) else (bif Nat.blt pc 22 then (bif Nat.beq pc 19 then some (.goto 4, 22, [23], 0, 0) else none) else (bif Nat.blt pc 23 then (bif Nat.beq pc 22 then some (.iconst (-1), 23, [], (-1), 0) else none) else (bif Nat.beq pc 23 then some (.ireturn, 24, [0], 0, 0) else none)))))
def k_X5_may (pc : Nat) : Option mE := (bif Nat.blt pc 19 then (bif Nat.blt pc 8 then (bif Nat.blt pc 4 then (bif Nat.blt pc 1 then (bif Nat.beq pc 0 then some (.aload_n 0, 1, [], 0, 0) else none) else (bif Nat.beq pc 1 then some (.getfield 39, 4, [5, 3, 203, 1, 2], 0, 0) else none)) else (bif Nat.blt pc 7 then (bif Nat.beq pc 4 then some (.invokevirtual 100, 7, [42], 0, 0) else none) else (bif Nat.beq pc 7 then some (.aload_n 0, 8, [], 0, 0) else none))) else (bif Nat.blt pc 12 then (bif Nat.blt pc 11 then (bif Nat.beq pc 8 then some (.getfield 12, 11, [5, 0, 200, 1, 3], 0, 0) else none) else (bif Nat.beq pc 11 then some (.iload_n 1, 12, [], 0, 0) else none)) else (bif Nat.blt pc 15 then (bif Nat.beq pc 12 then some (.invokevirtual 91, 15, [80], 0, 0) else none) else (bif Nat.blt pc 18 then (bif Nat.beq pc 15 then some (.ifCond .eq 22, 18, [37], 0, 0) else none) else (bif Nat.beq pc 18 then some (.iload_n 2, 19, [], 0, 0) else none))))) else (bif Nat.blt pc 30 then (bif Nat.blt pc 25 then (bif Nat.blt pc 22 then (bif Nat.beq pc 19 then some (.invokestatic 77, 22, [102], 0, 0) else none) else (bif Nat.beq pc 22 then some (.ifCond .eq 15, 25, [37], 0, 0) else none)) else (bif Nat.blt pc 26 then (bif Nat.beq pc 25 then some (.aload_n 0, 26, [], 0, 0) else none) else (bif Nat.blt pc 29 then (bif Nat.beq pc 26 then some (.getfield 39, 29, [5, 3, 203, 1, 2], 0, 0) else none) else (bif Nat.beq pc 29 then some (.iload_n 1, 30, [], 0, 0) else none)))) else (bif Nat.blt pc 34 then (bif Nat.blt pc 31 then (bif Nat.beq pc 30 then some (.iload_n 2, 31, [], 0, 0) else none) else (bif Nat.beq pc 31 then some (.invokevirtual 103, 34, [43], 0, 0) else none)) else (bif Nat.blt pc 37 then (bif Nat.beq pc 34 then some (.goto 4, 37, [38], 0, 0) else none) else (bif Nat.blt pc 38 then (bif Nat.beq pc 37 then some (.iconst (-1), 38, [], (-1), 0) else none) else (bif Nat.beq pc 38 then some (.ireturn, 39, [0], 0, 0) else none))))))
def k_X5_faults (pc : Nat) : Option mE := (bif Nat.blt pc 15 then (bif Nat.blt pc 7 then (bif Nat.blt pc 1 then (bif Nat.beq pc 0 then some (.aload_n 0, 1, [], 0, 0) else none) else (bif Nat.blt pc 4 then (bif Nat.beq pc 1 then some (.getfield 39, 4, [5, 3, 203, 1, 2], 0, 0) else none) else (bif Nat.beq pc 4 then some (.invokevirtual 100, 7, [42], 0, 0) else none))) else (bif Nat.blt pc 11 then (bif Nat.blt pc 8 then (bif Nat.beq pc 7 then some (.aload_n 0, 8, [], 0, 0) else none) else (bif Nat.beq pc 8 then some (.getfield 12, 11, [5, 0, 200, 1, 3], 0, 0) else none)) else (bif Nat.blt pc 12 then (bif Nat.beq pc 11 then some (.iload_n 1, 12, [], 0, 0) else none) else (bif Nat.beq pc 12 then some (.invokevirtual 91, 15, [80], 0, 0) else none)))) else (bif Nat.blt pc 23 then (bif Nat.blt pc 19 then (bif Nat.blt pc 18 then (bif Nat.beq pc 15 then some (.ifCond .eq 14, 18, [29], 0, 0) else none) else (bif Nat.beq pc 18 then some (.aload_n 0, 19, [], 0, 0) else none)) else (bif Nat.blt pc 22 then (bif Nat.beq pc 19 then some (.getfield 39, 22, [5, 3, 203, 1, 2], 0, 0) else none) else (bif Nat.beq pc 22 then some (.iload_n 1, 23, [], 0, 0) else none))) else (bif Nat.blt pc 29 then (bif Nat.blt pc 26 then (bif Nat.beq pc 23 then some (.invokevirtual 104, 26, [44], 0, 0) else none) else (bif Nat.beq pc 26 then some (.goto 4, 29, [30], 0, 0) else none)) else (bif Nat.blt pc 30 then (bif Nat.beq pc 29 then some (.iconst (-1), 30, [], (-1), 0) else none) else (bif Nat.beq pc 30 then some (.ireturn, 31, [0], 0, 0) else none)))))
def k_X5_cast (pc : Nat) : Option mE := (bif Nat.blt pc 15 then (bif Nat.blt pc 7 then (bif Nat.blt pc 1 then (bif Nat.beq pc 0 then some (.aload_n 0, 1, [], 0, 0) else none) else (bif Nat.blt pc 4 then (bif Nat.beq pc 1 then some (.getfield 39, 4, [5, 3, 203, 1, 2], 0, 0) else none) else (bif Nat.beq pc 4 then some (.invokevirtual 100, 7, [42], 0, 0) else none))) else (bif Nat.blt pc 11 then (bif Nat.blt pc 8 then (bif Nat.beq pc 7 then some (.aload_n 0, 8, [], 0, 0) else none) else (bif Nat.beq pc 8 then some (.getfield 12, 11, [5, 0, 200, 1, 3], 0, 0) else none)) else (bif Nat.blt pc 12 then (bif Nat.beq pc 11 then some (.iload_n 1, 12, [], 0, 0) else none) else (bif Nat.beq pc 12 then some (.invokevirtual 91, 15, [80], 0, 0) else none)))) else (bif Nat.blt pc 23 then (bif Nat.blt pc 19 then (bif Nat.blt pc 18 then (bif Nat.beq pc 15 then some (.ifCond .eq 14, 18, [29], 0, 0) else none) else (bif Nat.beq pc 18 then some (.aload_n 0, 19, [], 0, 0) else none)) else (bif Nat.blt pc 22 then (bif Nat.beq pc 19 then some (.getfield 39, 22, [5, 3, 203, 1, 2], 0, 0) else none) else (bif Nat.beq pc 22 then some (.iload_n 1, 23, [], 0, 0) else none))) else (bif Nat.blt pc 29 then (bif Nat.blt pc 26 then (bif Nat.beq pc 23 then some (.invokevirtual 105, 26, [45], 0, 0) else none) else (bif Nat.beq pc 26 then some (.goto 4, 29, [30], 0, 0) else none)) else (bif Nat.blt pc 30 then (bif Nat.beq pc 29 then some (.iconst (-1), 30, [], (-1), 0) else none) else (bif Nat.beq pc 30 then some (.ireturn, 31, [0], 0, 0) else none)))))
def k_X5_all (pc : Nat) : Option mE := (bif Nat.blt pc 13 then (bif Nat.blt pc 7 then (bif Nat.blt pc 1 then (bif Nat.beq pc 0 then some (.aload_n 0, 1, [], 0, 0) else none) else (bif Nat.blt pc 4 then (bif Nat.beq pc 1 then some (.getfield 39, 4, [5, 3, 203, 1, 2], 0, 0) else none) else (bif Nat.beq pc 4 then some (.invokevirtual 100, 7, [42], 0, 0) else none))) else (bif Nat.blt pc 11 then (bif Nat.blt pc 8 then (bif Nat.beq pc 7 then some (.iload_n 1, 8, [], 0, 0) else none) else (bif Nat.beq pc 8 then some (.ifCond .lt 8, 11, [16], 0, 0) else none)) else (bif Nat.blt pc 12 then (bif Nat.beq pc 11 then some (.iload_n 1, 12, [], 0, 0) else none) else (bif Nat.beq pc 12 then some (.iconst 2, 13, [], 2, 0) else none)))) else (bif Nat.blt pc 22 then (bif Nat.blt pc 18 then (bif Nat.blt pc 16 then (bif Nat.beq pc 13 then some (.if_icmp .le 8, 16, [21], 0, 0) else none) else (bif Nat.beq pc 16 then some (.bipush (-2), 18, [], (-2), 0) else none)) else (bif Nat.blt pc 21 then (bif Nat.beq pc 18 then some (.goto 11, 21, [29], 0, 0) else none) else (bif Nat.beq pc 21 then some (.aload_n 0, 22, [], 0, 0) else none))) else (bif Nat.blt pc 26 then (bif Nat.blt pc 25 then (bif Nat.beq pc 22 then some (.getfield 39, 25, [5, 3, 203, 1, 2], 0, 0) else none) else (bif Nat.beq pc 25 then some (.iload_n 1, 26, [], 0, 0) else none)) else (bif Nat.blt pc 29 then (bif Nat.beq pc 26 then some (.invokevirtual 108, 29, [46], 0, 0) else none) else (bif Nat.beq pc 29 then some (.ireturn, 30, [0], 0, 0) else none)))))
def k_X5_isVariable (pc : Nat) : Option mE := (bif Nat.blt pc 7 then (bif Nat.blt pc 4 then (bif Nat.blt pc 1 then (bif Nat.beq pc 0 then some (.iload_n 0, 1, [], 0, 0) else none) else (bif Nat.beq pc 1 then some (.ifCond .lt 13, 4, [14], 0, 0) else none)) else (bif Nat.blt pc 5 then (bif Nat.beq pc 4 then some (.iload_n 0, 5, [], 0, 0) else none) else (bif Nat.beq pc 5 then some (.bipush 6, 7, [], 6, 0) else none))) else (bif Nat.blt pc 11 then (bif Nat.blt pc 10 then (bif Nat.beq pc 7 then some (.if_icmp .ge 7, 10, [14], 0, 0) else none) else (bif Nat.beq pc 10 then some (.iconst 1, 11, [], 1, 0) else none)) else (bif Nat.blt pc 14 then (bif Nat.beq pc 11 then some (.goto 4, 14, [15], 0, 0) else none) else (bif Nat.blt pc 15 then (bif Nat.beq pc 14 then some (.iconst 0, 15, [], 0, 0) else none) else (bif Nat.beq pc 15 then some (.ireturn, 16, [1], 0, 0) else none)))))
def k_X5_isNumber (pc : Nat) : Option mE := (bif Nat.blt pc 6 then (bif Nat.blt pc 4 then (bif Nat.blt pc 1 then (bif Nat.beq pc 0 then some (.iload_n 0, 1, [], 0, 0) else none) else (bif Nat.beq pc 1 then some (.ifCond .lt 12, 4, [13], 0, 0) else none)) else (bif Nat.blt pc 5 then (bif Nat.beq pc 4 then some (.iload_n 0, 5, [], 0, 0) else none) else (bif Nat.beq pc 5 then some (.iconst 4, 6, [], 4, 0) else none))) else (bif Nat.blt pc 10 then (bif Nat.blt pc 9 then (bif Nat.beq pc 6 then some (.if_icmp .ge 7, 9, [13], 0, 0) else none) else (bif Nat.beq pc 9 then some (.iconst 1, 10, [], 1, 0) else none)) else (bif Nat.blt pc 13 then (bif Nat.beq pc 10 then some (.goto 4, 13, [14], 0, 0) else none) else (bif Nat.blt pc 14 then (bif Nat.beq pc 13 then some (.iconst 0, 14, [], 0, 0) else none) else (bif Nat.beq pc 14 then some (.ireturn, 15, [1], 0, 0) else none)))))
def k_X5_only (pc : Nat) : Option mE := (bif Nat.blt pc 2 then (bif Nat.blt pc 1 then (bif Nat.beq pc 0 then some (.iconst 1, 1, [], 1, 0) else none) else (bif Nat.beq pc 1 then some (.iload_n 0, 2, [], 0, 0) else none)) else (bif Nat.blt pc 3 then (bif Nat.beq pc 2 then some (.ishl, 3, [], 0, 0) else none) else (bif Nat.beq pc 3 then some (.ireturn, 4, [0], 0, 0) else none)))
def k_X5_holds (pc : Nat) : Option mE := (bif Nat.blt pc 5 then (bif Nat.blt pc 2 then (bif Nat.blt pc 1 then (bif Nat.beq pc 0 then some (.iload_n 0, 1, [], 0, 0) else none) else (bif Nat.beq pc 1 then some (.iload_n 1, 2, [], 0, 0) else none)) else (bif Nat.blt pc 3 then (bif Nat.beq pc 2 then some (.ishr, 3, [], 0, 0) else none) else (bif Nat.blt pc 4 then (bif Nat.beq pc 3 then some (.iconst 1, 4, [], 1, 0) else none) else (bif Nat.beq pc 4 then some (.iand, 5, [], 0, 0) else none)))) else (bif Nat.blt pc 9 then (bif Nat.blt pc 8 then (bif Nat.beq pc 5 then some (.ifCond .eq 7, 8, [12], 0, 0) else none) else (bif Nat.beq pc 8 then some (.iconst 1, 9, [], 1, 0) else none)) else (bif Nat.blt pc 12 then (bif Nat.beq pc 9 then some (.goto 4, 12, [13], 0, 0) else none) else (bif Nat.blt pc 13 then (bif Nat.beq pc 12 then some (.iconst 0, 13, [], 0, 0) else none) else (bif Nat.beq pc 13 then some (.ireturn, 14, [1], 0, 0) else none)))))
def k_X5_share (pc : Nat) : Option mE := (bif Nat.blt pc 6 then (bif Nat.blt pc 2 then (bif Nat.blt pc 1 then (bif Nat.beq pc 0 then some (.iload_n 0, 1, [], 0, 0) else none) else (bif Nat.beq pc 1 then some (.iload_n 1, 2, [], 0, 0) else none)) else (bif Nat.blt pc 3 then (bif Nat.beq pc 2 then some (.iand, 3, [], 0, 0) else none) else (bif Nat.beq pc 3 then some (.ifCond .eq 7, 6, [10], 0, 0) else none))) else (bif Nat.blt pc 10 then (bif Nat.blt pc 7 then (bif Nat.beq pc 6 then some (.iconst 1, 7, [], 1, 0) else none) else (bif Nat.beq pc 7 then some (.goto 4, 10, [11], 0, 0) else none)) else (bif Nat.blt pc 11 then (bif Nat.beq pc 10 then some (.iconst 0, 11, [], 0, 0) else none) else (bif Nat.beq pc 11 then some (.ireturn, 12, [1], 0, 0) else none))))
def k_X5_faultIf (pc : Nat) : Option mE := (bif Nat.blt pc 6 then (bif Nat.blt pc 4 then (bif Nat.blt pc 1 then (bif Nat.beq pc 0 then some (.iload_n 0, 1, [], 0, 0) else none) else (bif Nat.beq pc 1 then some (.ifCond .eq 9, 4, [10], 0, 0) else none)) else (bif Nat.blt pc 5 then (bif Nat.beq pc 4 then some (.iconst 1, 5, [], 1, 0) else none) else (bif Nat.beq pc 5 then some (.iload_n 1, 6, [], 0, 0) else none))) else (bif Nat.blt pc 10 then (bif Nat.blt pc 7 then (bif Nat.beq pc 6 then some (.ishl, 7, [], 0, 0) else none) else (bif Nat.beq pc 7 then some (.goto 4, 10, [11], 0, 0) else none)) else (bif Nat.blt pc 11 then (bif Nat.beq pc 10 then some (.iconst 0, 11, [], 0, 0) else none) else (bif Nat.beq pc 11 then some (.ireturn, 12, [0], 0, 0) else none))))
def k_X6_thrown (pc : Nat) : Option mE := (bif Nat.blt pc 1 then (bif Nat.beq pc 0 then some (.aload_n 0, 1, [], 0, 0) else none) else (bif Nat.blt pc 4 then (bif Nat.beq pc 1 then some (.getfield 65, 4, [6, 0, 240, 0, 0], 0, 0) else none) else (bif Nat.beq pc 4 then some (.ireturn, 5, [0], 0, 0) else none)))
def k_X6_in (pc : Nat) : Option mE := (bif Nat.blt pc 9 then (bif Nat.blt pc 3 then (bif Nat.blt pc 1 then (bif Nat.beq pc 0 then some (.lload_n 0, 1, [], 0, 0) else none) else (bif Nat.blt pc 2 then (bif Nat.beq pc 1 then some (.lload_n 2, 2, [], 0, 0) else none) else (bif Nat.beq pc 2 then some (.lcmp, 3, [], 0, 0) else none))) else (bif Nat.blt pc 6 then (bif Nat.beq pc 3 then some (.ifCond .lt 14, 6, [17], 0, 0) else none) else (bif Nat.blt pc 7 then (bif Nat.beq pc 6 then some (.lload_n 0, 7, [], 0, 0) else none) else (bif Nat.beq pc 7 then some (.lload 4, 9, [], 0, 0) else none)))) else (bif Nat.blt pc 14 then (bif Nat.blt pc 10 then (bif Nat.beq pc 9 then some (.lcmp, 10, [], 0, 0) else none) else (bif Nat.blt pc 13 then (bif Nat.beq pc 10 then some (.ifCond .gt 7, 13, [17], 0, 0) else none) else (bif Nat.beq pc 13 then some (.iconst 1, 14, [], 1, 0) else none))) else (bif Nat.blt pc 17 then (bif Nat.beq pc 14 then some (.goto 4, 17, [18], 0, 0) else none) else (bif Nat.blt pc 18 then (bif Nat.beq pc 17 then some (.iconst 0, 18, [], 0, 0) else none) else (bif Nat.beq pc 18 then some (.ireturn, 19, [1], 0, 0) else none)))))
def k_X6_sortA (pc : Nat) : Option mE := (bif Nat.blt pc 27 then (bif Nat.blt pc 13 then (bif Nat.blt pc 6 then (bif Nat.blt pc 1 then (bif Nat.beq pc 0 then some (.iload_n 0, 1, [], 0, 0) else none) else (bif Nat.blt pc 3 then (bif Nat.beq pc 1 then some (.bipush 20, 3, [], 20, 0) else none) else (bif Nat.beq pc 3 then some (.if_icmp .ne 7, 6, [10], 0, 0) else none))) else (bif Nat.blt pc 10 then (bif Nat.blt pc 7 then (bif Nat.beq pc 6 then some (.iconst 3, 7, [], 3, 0) else none) else (bif Nat.beq pc 7 then some (.goto 48, 10, [55], 0, 0) else none)) else (bif Nat.blt pc 11 then (bif Nat.beq pc 10 then some (.iload_n 0, 11, [], 0, 0) else none) else (bif Nat.beq pc 11 then some (.bipush 21, 13, [], 21, 0) else none)))) else (bif Nat.blt pc 20 then (bif Nat.blt pc 16 then (bif Nat.beq pc 13 then some (.if_icmp .ne 7, 16, [20], 0, 0) else none) else (bif Nat.blt pc 17 then (bif Nat.beq pc 16 then some (.iconst 0, 17, [], 0, 0) else none) else (bif Nat.beq pc 17 then some (.goto 38, 20, [55], 0, 0) else none))) else (bif Nat.blt pc 23 then (bif Nat.blt pc 21 then (bif Nat.beq pc 20 then some (.iload_n 0, 21, [], 0, 0) else none) else (bif Nat.beq pc 21 then some (.bipush 11, 23, [], 11, 0) else none)) else (bif Nat.blt pc 26 then (bif Nat.beq pc 23 then some (.if_icmp .lt 9, 26, [32], 0, 0) else none) else (bif Nat.beq pc 26 then some (.iload_n 0, 27, [], 0, 0) else none))))) else (bif Nat.blt pc 41 then (bif Nat.blt pc 33 then (bif Nat.blt pc 29 then (bif Nat.beq pc 27 then some (.bipush 14, 29, [], 14, 0) else none) else (bif Nat.blt pc 32 then (bif Nat.beq pc 29 then some (.if_icmp .le 21, 32, [50], 0, 0) else none) else (bif Nat.beq pc 32 then some (.iload_n 0, 33, [], 0, 0) else none))) else (bif Nat.blt pc 38 then (bif Nat.blt pc 35 then (bif Nat.beq pc 33 then some (.bipush 16, 35, [], 16, 0) else none) else (bif Nat.beq pc 35 then some (.if_icmp .lt 9, 38, [44], 0, 0) else none)) else (bif Nat.blt pc 39 then (bif Nat.beq pc 38 then some (.iload_n 0, 39, [], 0, 0) else none) else (bif Nat.beq pc 39 then some (.bipush 19, 41, [], 19, 0) else none)))) else (bif Nat.blt pc 50 then (bif Nat.blt pc 45 then (bif Nat.blt pc 44 then (bif Nat.beq pc 41 then some (.if_icmp .le 9, 44, [50], 0, 0) else none) else (bif Nat.beq pc 44 then some (.iload_n 0, 45, [], 0, 0) else none)) else (bif Nat.blt pc 47 then (bif Nat.beq pc 45 then some (.bipush 23, 47, [], 23, 0) else none) else (bif Nat.beq pc 47 then some (.if_icmp .ne 7, 50, [54], 0, 0) else none))) else (bif Nat.blt pc 54 then (bif Nat.blt pc 51 then (bif Nat.beq pc 50 then some (.iconst 2, 51, [], 2, 0) else none) else (bif Nat.beq pc 51 then some (.goto 4, 54, [55], 0, 0) else none)) else (bif Nat.blt pc 55 then (bif Nat.beq pc 54 then some (.iconst 1, 55, [], 1, 0) else none) else (bif Nat.beq pc 55 then some (.ireturn, 56, [0], 0, 0) else none))))))
def k_X6_sortB (pc : Nat) : Option mE := (bif Nat.blt pc 110 then (bif Nat.blt pc 105 then (bif Nat.blt pc 1 then (bif Nat.beq pc 0 then some (.iload_n 0, 1, [], 0, 0) else none) else (bif Nat.blt pc 104 then (bif Nat.beq pc 1 then some (.tableswitch 114 1 22 #[103, 105, 110, 107, 114, 107, 110, 110, 110, 110, 110, 110, 110, 110, 112, 114, 112, 112, 112, 114, 114, 110], 104, [115, 104, 106, 111, 108, 115, 108, 111, 111, 111, 111, 111, 111, 111, 111, 113, 115, 113, 113, 113, 115, 115, 111], 0, 0) else none) else (bif Nat.beq pc 104 then some (.iconst 4, 105, [], 4, 0) else none))) else (bif Nat.blt pc 107 then (bif Nat.blt pc 106 then (bif Nat.beq pc 105 then some (.ireturn, 106, [0], 0, 0) else none) else (bif Nat.beq pc 106 then some (.iconst 5, 107, [], 5, 0) else none)) else (bif Nat.blt pc 108 then (bif Nat.beq pc 107 then some (.ireturn, 108, [0], 0, 0) else none) else (bif Nat.beq pc 108 then some (.bipush 6, 110, [], 6, 0) else none)))) else (bif Nat.blt pc 113 then (bif Nat.blt pc 111 then (bif Nat.beq pc 110 then some (.ireturn, 111, [0], 0, 0) else none) else (bif Nat.blt pc 112 then (bif Nat.beq pc 111 then some (.iconst 1, 112, [], 1, 0) else none) else (bif Nat.beq pc 112 then some (.ireturn, 113, [0], 0, 0) else none))) else (bif Nat.blt pc 115 then (bif Nat.blt pc 114 then (bif Nat.beq pc 113 then some (.iconst 2, 114, [], 2, 0) else none) else (bif Nat.beq pc 114 then some (.ireturn, 115, [0], 0, 0) else none)) else (bif Nat.blt pc 116 then (bif Nat.beq pc 115 then some (.iconst 0, 116, [], 0, 0) else none) else (bif Nat.beq pc 116 then some (.ireturn, 117, [0], 0, 0) else none)))))
def k_X6_sortC (pc : Nat) : Option mE := (bif Nat.blt pc 103 then (bif Nat.blt pc 100 then (bif Nat.blt pc 1 then (bif Nat.beq pc 0 then some (.iload_n 0, 1, [], 0, 0) else none) else (bif Nat.beq pc 1 then some (.tableswitch 105 2 22 #[99, 105, 101, 101, 103, 105, 105, 99, 99, 105, 105, 105, 99, 99, 105, 105, 105, 101, 105, 105, 99], 100, [106, 100, 106, 102, 102, 104, 106, 106, 100, 100, 106, 106, 106, 100, 100, 106, 106, 106, 102, 106, 106, 100], 0, 0) else none)) else (bif Nat.blt pc 101 then (bif Nat.beq pc 100 then some (.iconst 2, 101, [], 2, 0) else none) else (bif Nat.blt pc 102 then (bif Nat.beq pc 101 then some (.ireturn, 102, [0], 0, 0) else none) else (bif Nat.beq pc 102 then some (.iconst 3, 103, [], 3, 0) else none)))) else (bif Nat.blt pc 105 then (bif Nat.blt pc 104 then (bif Nat.beq pc 103 then some (.ireturn, 104, [0], 0, 0) else none) else (bif Nat.beq pc 104 then some (.iconst 1, 105, [], 1, 0) else none)) else (bif Nat.blt pc 106 then (bif Nat.beq pc 105 then some (.ireturn, 106, [0], 0, 0) else none) else (bif Nat.blt pc 107 then (bif Nat.beq pc 106 then some (.iconst 0, 107, [], 0, 0) else none) else (bif Nat.beq pc 107 then some (.ireturn, 108, [0], 0, 0) else none)))))
def k_X6_isGood (pc : Nat) : Option mE := (bif Nat.blt pc 70 then (bif Nat.blt pc 52 then (bif Nat.blt pc 43 then (bif Nat.blt pc 40 then (bif Nat.blt pc 1 then (bif Nat.beq pc 0 then some (.iload_n 0, 1, [], 0, 0) else none) else (bif Nat.beq pc 1 then some (.tableswitch 101 1 6 #[39, 49, 59, 69, 79, 91], 40, [102, 40, 50, 60, 70, 80, 92], 0, 0) else none)) else (bif Nat.blt pc 41 then (bif Nat.beq pc 40 then some (.iload_n 1, 41, [], 0, 0) else none) else (bif Nat.blt pc 42 then (bif Nat.beq pc 41 then some (.i2l, 42, [], 0, 0) else none) else (bif Nat.beq pc 42 then some (.lconst 0, 43, [], 0, 0) else none)))) else (bif Nat.blt pc 49 then (bif Nat.blt pc 46 then (bif Nat.beq pc 43 then some (.ldc2_w 69, 46, [], 0, 5) else none) else (bif Nat.beq pc 46 then some (.invokestatic 71, 49, [109], 0, 0) else none)) else (bif Nat.blt pc 50 then (bif Nat.beq pc 49 then some (.ireturn, 50, [1], 0, 0) else none) else (bif Nat.blt pc 51 then (bif Nat.beq pc 50 then some (.iload_n 1, 51, [], 0, 0) else none) else (bif Nat.beq pc 51 then some (.i2l, 52, [], 0, 0) else none))))) else (bif Nat.blt pc 61 then (bif Nat.blt pc 56 then (bif Nat.blt pc 53 then (bif Nat.beq pc 52 then some (.lconst 0, 53, [], 0, 0) else none) else (bif Nat.beq pc 53 then some (.ldc2_w 75, 56, [], 0, 3) else none)) else (bif Nat.blt pc 59 then (bif Nat.beq pc 56 then some (.invokestatic 71, 59, [109], 0, 0) else none) else (bif Nat.blt pc 60 then (bif Nat.beq pc 59 then some (.ireturn, 60, [1], 0, 0) else none) else (bif Nat.beq pc 60 then some (.iload_n 1, 61, [], 0, 0) else none)))) else (bif Nat.blt pc 63 then (bif Nat.blt pc 62 then (bif Nat.beq pc 61 then some (.i2l, 62, [], 0, 0) else none) else (bif Nat.beq pc 62 then some (.lconst 0, 63, [], 0, 0) else none)) else (bif Nat.blt pc 66 then (bif Nat.beq pc 63 then some (.ldc2_w 77, 66, [], 0, 32) else none) else (bif Nat.blt pc 69 then (bif Nat.beq pc 66 then some (.invokestatic 71, 69, [109], 0, 0) else none) else (bif Nat.beq pc 69 then some (.ireturn, 70, [1], 0, 0) else none)))))) else (bif Nat.blt pc 88 then (bif Nat.blt pc 79 then (bif Nat.blt pc 72 then (bif Nat.blt pc 71 then (bif Nat.beq pc 70 then some (.iload_n 1, 71, [], 0, 0) else none) else (bif Nat.beq pc 71 then some (.i2l, 72, [], 0, 0) else none)) else (bif Nat.blt pc 73 then (bif Nat.beq pc 72 then some (.lconst 1, 73, [], 0, 1) else none) else (bif Nat.blt pc 76 then (bif Nat.beq pc 73 then some (.ldc2_w 79, 76, [], 0, 4) else none) else (bif Nat.beq pc 76 then some (.invokestatic 71, 79, [109], 0, 0) else none)))) else (bif Nat.blt pc 81 then (bif Nat.blt pc 80 then (bif Nat.beq pc 79 then some (.ireturn, 80, [1], 0, 0) else none) else (bif Nat.beq pc 80 then some (.iload_n 1, 81, [], 0, 0) else none)) else (bif Nat.blt pc 82 then (bif Nat.beq pc 81 then some (.i2l, 82, [], 0, 0) else none) else (bif Nat.blt pc 85 then (bif Nat.beq pc 82 then some (.ldc2_w 69, 85, [], 0, 5) else none) else (bif Nat.beq pc 85 then some (.ldc2_w 81, 88, [], 0, 9) else none))))) else (bif Nat.blt pc 95 then (bif Nat.blt pc 92 then (bif Nat.blt pc 91 then (bif Nat.beq pc 88 then some (.invokestatic 71, 91, [109], 0, 0) else none) else (bif Nat.beq pc 91 then some (.ireturn, 92, [1], 0, 0) else none)) else (bif Nat.blt pc 93 then (bif Nat.beq pc 92 then some (.iload_n 1, 93, [], 0, 0) else none) else (bif Nat.blt pc 94 then (bif Nat.beq pc 93 then some (.i2l, 94, [], 0, 0) else none) else (bif Nat.beq pc 94 then some (.lconst 0, 95, [], 0, 0) else none)))) else (bif Nat.blt pc 101 then (bif Nat.blt pc 98 then (bif Nat.beq pc 95 then some (.ldc2_w 83, 98, [], 0, 10) else none) else (bif Nat.beq pc 98 then some (.invokestatic 71, 101, [109], 0, 0) else none)) else (bif Nat.blt pc 102 then (bif Nat.beq pc 101 then some (.ireturn, 102, [1], 0, 0) else none) else (bif Nat.blt pc 103 then (bif Nat.beq pc 102 then some (.iconst 1, 103, [], 1, 0) else none) else (bif Nat.beq pc 103 then some (.ireturn, 104, [1], 0, 0) else none)))))))
def k_X6_forget (pc : Nat) : Option mE := (bif Nat.blt pc 30 then (bif Nat.blt pc 14 then (bif Nat.blt pc 6 then (bif Nat.blt pc 2 then (bif Nat.blt pc 1 then (bif Nat.beq pc 0 then some (.iconst 0, 1, [], 0, 0) else none) else (bif Nat.beq pc 1 then some (.istore_n 1, 2, [], 0, 0) else none)) else (bif Nat.blt pc 3 then (bif Nat.beq pc 2 then some (.iload_n 1, 3, [], 0, 0) else none) else (bif Nat.beq pc 3 then some (.sipush 192, 6, [], 192, 0) else none))) else (bif Nat.blt pc 10 then (bif Nat.blt pc 9 then (bif Nat.beq pc 6 then some (.if_icmp .ge 16, 9, [22], 0, 0) else none) else (bif Nat.beq pc 9 then some (.aload_n 0, 10, [], 0, 0) else none)) else (bif Nat.blt pc 13 then (bif Nat.beq pc 10 then some (.getfield 25, 13, [6, 7, 247, 1, 347], 0, 0) else none) else (bif Nat.beq pc 13 then some (.iload_n 1, 14, [], 0, 0) else none)))) else (bif Nat.blt pc 22 then (bif Nat.blt pc 16 then (bif Nat.blt pc 15 then (bif Nat.beq pc 14 then some (.iconst 0, 15, [], 0, 0) else none) else (bif Nat.beq pc 15 then some (.iastore, 16, [], 0, 0) else none)) else (bif Nat.blt pc 19 then (bif Nat.beq pc 16 then some (.iinc 1 1, 19, [], 1, 0) else none) else (bif Nat.beq pc 19 then some (.goto (-17), 22, [2], 0, 0) else none))) else (bif Nat.blt pc 24 then (bif Nat.blt pc 23 then (bif Nat.beq pc 22 then some (.iconst 0, 23, [], 0, 0) else none) else (bif Nat.beq pc 23 then some (.istore_n 1, 24, [], 0, 0) else none)) else (bif Nat.blt pc 25 then (bif Nat.beq pc 24 then some (.iload_n 1, 25, [], 0, 0) else none) else (bif Nat.blt pc 27 then (bif Nat.beq pc 25 then some (.bipush 32, 27, [], 32, 0) else none) else (bif Nat.beq pc 27 then some (.if_icmp .ge 16, 30, [43], 0, 0) else none)))))) else (bif Nat.blt pc 44 then (bif Nat.blt pc 36 then (bif Nat.blt pc 34 then (bif Nat.blt pc 31 then (bif Nat.beq pc 30 then some (.aload_n 0, 31, [], 0, 0) else none) else (bif Nat.beq pc 31 then some (.getfield 28, 34, [6, 8, 248, 1, 348], 0, 0) else none)) else (bif Nat.blt pc 35 then (bif Nat.beq pc 34 then some (.iload_n 1, 35, [], 0, 0) else none) else (bif Nat.beq pc 35 then some (.iconst 0, 36, [], 0, 0) else none))) else (bif Nat.blt pc 40 then (bif Nat.blt pc 37 then (bif Nat.beq pc 36 then some (.iastore, 37, [], 0, 0) else none) else (bif Nat.beq pc 37 then some (.iinc 1 1, 40, [], 1, 0) else none)) else (bif Nat.blt pc 43 then (bif Nat.beq pc 40 then some (.goto (-16), 43, [24], 0, 0) else none) else (bif Nat.beq pc 43 then some (.aload_n 0, 44, [], 0, 0) else none)))) else (bif Nat.blt pc 50 then (bif Nat.blt pc 48 then (bif Nat.blt pc 45 then (bif Nat.beq pc 44 then some (.lconst 0, 45, [], 0, 0) else none) else (bif Nat.beq pc 45 then some (.putfield 85, 48, [6, 9, 249, 3, 0], 0, 0) else none)) else (bif Nat.blt pc 49 then (bif Nat.beq pc 48 then some (.aload_n 0, 49, [], 0, 0) else none) else (bif Nat.beq pc 49 then some (.iconst 0, 50, [], 0, 0) else none))) else (bif Nat.blt pc 54 then (bif Nat.blt pc 53 then (bif Nat.beq pc 50 then some (.putfield 89, 53, [6, 10, 250, 0, 0], 0, 0) else none) else (bif Nat.beq pc 53 then some (.aload_n 0, 54, [], 0, 0) else none)) else (bif Nat.blt pc 55 then (bif Nat.beq pc 54 then some (.iconst 0, 55, [], 0, 0) else none) else (bif Nat.blt pc 58 then (bif Nat.beq pc 55 then some (.putfield 92, 58, [6, 23, 263, 2, 0], 0, 0) else none) else (bif Nat.beq pc 58 then some (.return_, 59, [], 0, 0) else none)))))))
def k_X6_step (pc : Nat) : Option mE := (bif Nat.blt pc 85 then (bif Nat.blt pc 40 then (bif Nat.blt pc 18 then (bif Nat.blt pc 7 then (bif Nat.blt pc 2 then (bif Nat.blt pc 1 then (bif Nat.beq pc 0 then some (.aload_n 0, 1, [], 0, 0) else none) else (bif Nat.beq pc 1 then some (.iconst 0, 2, [], 0, 0) else none)) else (bif Nat.blt pc 5 then (bif Nat.beq pc 2 then some (.putfield 65, 5, [6, 0, 240, 0, 0], 0, 0) else none) else (bif Nat.blt pc 6 then (bif Nat.beq pc 5 then some (.iload_n 1, 6, [], 0, 0) else none) else (bif Nat.beq pc 6 then some (.i2l, 7, [], 0, 0) else none)))) else (bif Nat.blt pc 11 then (bif Nat.blt pc 8 then (bif Nat.beq pc 7 then some (.lconst 0, 8, [], 0, 0) else none) else (bif Nat.beq pc 8 then some (.ldc2_w 96, 11, [], 0, 23) else none)) else (bif Nat.blt pc 14 then (bif Nat.beq pc 11 then some (.invokestatic 71, 14, [109], 0, 0) else none) else (bif Nat.blt pc 17 then (bif Nat.beq pc 14 then some (.ifCond .eq 52, 17, [66], 0, 0) else none) else (bif Nat.beq pc 17 then some (.iload_n 1, 18, [], 0, 0) else none))))) else (bif Nat.blt pc 29 then (bif Nat.blt pc 22 then (bif Nat.blt pc 21 then (bif Nat.beq pc 18 then some (.invokestatic 98, 21, [110], 0, 0) else none) else (bif Nat.beq pc 21 then some (.iload_n 2, 22, [], 0, 0) else none)) else (bif Nat.blt pc 25 then (bif Nat.beq pc 22 then some (.invokestatic 102, 25, [113], 0, 0) else none) else (bif Nat.blt pc 28 then (bif Nat.beq pc 25 then some (.ifCond .eq 41, 28, [66], 0, 0) else none) else (bif Nat.beq pc 28 then some (.iload_n 1, 29, [], 0, 0) else none)))) else (bif Nat.blt pc 33 then (bif Nat.blt pc 32 then (bif Nat.beq pc 29 then some (.invokestatic 106, 32, [111], 0, 0) else none) else (bif Nat.beq pc 32 then some (.iload_n 3, 33, [], 0, 0) else none)) else (bif Nat.blt pc 36 then (bif Nat.beq pc 33 then some (.invokestatic 102, 36, [113], 0, 0) else none) else (bif Nat.blt pc 39 then (bif Nat.beq pc 36 then some (.ifCond .eq 30, 39, [66], 0, 0) else none) else (bif Nat.beq pc 39 then some (.iload_n 1, 40, [], 0, 0) else none)))))) else (bif Nat.blt pc 66 then (bif Nat.blt pc 53 then (bif Nat.blt pc 45 then (bif Nat.blt pc 43 then (bif Nat.beq pc 40 then some (.invokestatic 109, 43, [112], 0, 0) else none) else (bif Nat.beq pc 43 then some (.iload 4, 45, [], 0, 0) else none)) else (bif Nat.blt pc 48 then (bif Nat.beq pc 45 then some (.invokestatic 102, 48, [113], 0, 0) else none) else (bif Nat.blt pc 51 then (bif Nat.beq pc 48 then some (.ifCond .eq 18, 51, [66], 0, 0) else none) else (bif Nat.beq pc 51 then some (.iload 5, 53, [], 0, 0) else none)))) else (bif Nat.blt pc 57 then (bif Nat.blt pc 54 then (bif Nat.beq pc 53 then some (.i2l, 54, [], 0, 0) else none) else (bif Nat.beq pc 54 then some (.ldc2_w 112, 57, [], 0, (-1)) else none)) else (bif Nat.blt pc 60 then (bif Nat.beq pc 57 then some (.ldc2_w 77, 60, [], 0, 32) else none) else (bif Nat.blt pc 63 then (bif Nat.beq pc 60 then some (.invokestatic 71, 63, [109], 0, 0) else none) else (bif Nat.beq pc 63 then some (.ifCond .ne 6, 66, [69], 0, 0) else none))))) else (bif Nat.blt pc 75 then (bif Nat.blt pc 69 then (bif Nat.blt pc 68 then (bif Nat.beq pc 66 then some (.bipush (-2), 68, [], (-2), 0) else none) else (bif Nat.beq pc 68 then some (.ireturn, 69, [0], 0, 0) else none)) else (bif Nat.blt pc 70 then (bif Nat.beq pc 69 then some (.aload_n 0, 70, [], 0, 0) else none) else (bif Nat.blt pc 73 then (bif Nat.beq pc 70 then some (.getfield 114, 73, [6, 1, 241, 0, 0], 0, 0) else none) else (bif Nat.beq pc 73 then some (.bipush 32, 75, [], 32, 0) else none)))) else (bif Nat.blt pc 80 then (bif Nat.blt pc 78 then (bif Nat.beq pc 75 then some (.if_icmp .ne 6, 78, [81], 0, 0) else none) else (bif Nat.beq pc 78 then some (.bipush (-4), 80, [], (-4), 0) else none)) else (bif Nat.blt pc 81 then (bif Nat.beq pc 80 then some (.ireturn, 81, [0], 0, 0) else none) else (bif Nat.blt pc 82 then (bif Nat.beq pc 81 then some (.aload_n 0, 82, [], 0, 0) else none) else (bif Nat.beq pc 82 then some (.getfield 7, 85, [6, 2, 242, 1, 342], 0, 0) else none))))))) else (bif Nat.blt pc 119 then (bif Nat.blt pc 101 then (bif Nat.blt pc 92 then (bif Nat.blt pc 89 then (bif Nat.blt pc 86 then (bif Nat.beq pc 85 then some (.aload_n 0, 86, [], 0, 0) else none) else (bif Nat.beq pc 86 then some (.getfield 114, 89, [6, 1, 241, 0, 0], 0, 0) else none)) else (bif Nat.blt pc 90 then (bif Nat.beq pc 89 then some (.iload_n 1, 90, [], 0, 0) else none) else (bif Nat.blt pc 91 then (bif Nat.beq pc 90 then some (.iastore, 91, [], 0, 0) else none) else (bif Nat.beq pc 91 then some (.aload_n 0, 92, [], 0, 0) else none)))) else (bif Nat.blt pc 96 then (bif Nat.blt pc 95 then (bif Nat.beq pc 92 then some (.getfield 13, 95, [6, 3, 243, 1, 343], 0, 0) else none) else (bif Nat.beq pc 95 then some (.aload_n 0, 96, [], 0, 0) else none)) else (bif Nat.blt pc 99 then (bif Nat.beq pc 96 then some (.getfield 114, 99, [6, 1, 241, 0, 0], 0, 0) else none) else (bif Nat.blt pc 100 then (bif Nat.beq pc 99 then some (.iload_n 2, 100, [], 0, 0) else none) else (bif Nat.beq pc 100 then some (.iastore, 101, [], 0, 0) else none))))) else (bif Nat.blt pc 110 then (bif Nat.blt pc 105 then (bif Nat.blt pc 102 then (bif Nat.beq pc 101 then some (.aload_n 0, 102, [], 0, 0) else none) else (bif Nat.beq pc 102 then some (.getfield 16, 105, [6, 4, 244, 1, 344], 0, 0) else none)) else (bif Nat.blt pc 106 then (bif Nat.beq pc 105 then some (.aload_n 0, 106, [], 0, 0) else none) else (bif Nat.blt pc 109 then (bif Nat.beq pc 106 then some (.getfield 114, 109, [6, 1, 241, 0, 0], 0, 0) else none) else (bif Nat.beq pc 109 then some (.iload_n 3, 110, [], 0, 0) else none)))) else (bif Nat.blt pc 112 then (bif Nat.blt pc 111 then (bif Nat.beq pc 110 then some (.iastore, 111, [], 0, 0) else none) else (bif Nat.beq pc 111 then some (.aload_n 0, 112, [], 0, 0) else none)) else (bif Nat.blt pc 115 then (bif Nat.beq pc 112 then some (.getfield 19, 115, [6, 5, 245, 1, 345], 0, 0) else none) else (bif Nat.blt pc 116 then (bif Nat.beq pc 115 then some (.aload_n 0, 116, [], 0, 0) else none) else (bif Nat.beq pc 116 then some (.getfield 114, 119, [6, 1, 241, 0, 0], 0, 0) else none)))))) else (bif Nat.blt pc 135 then (bif Nat.blt pc 127 then (bif Nat.blt pc 122 then (bif Nat.blt pc 121 then (bif Nat.beq pc 119 then some (.iload 4, 121, [], 0, 0) else none) else (bif Nat.beq pc 121 then some (.iastore, 122, [], 0, 0) else none)) else (bif Nat.blt pc 123 then (bif Nat.beq pc 122 then some (.aload_n 0, 123, [], 0, 0) else none) else (bif Nat.blt pc 126 then (bif Nat.beq pc 123 then some (.getfield 22, 126, [6, 6, 246, 1, 346], 0, 0) else none) else (bif Nat.beq pc 126 then some (.aload_n 0, 127, [], 0, 0) else none)))) else (bif Nat.blt pc 132 then (bif Nat.blt pc 130 then (bif Nat.beq pc 127 then some (.getfield 114, 130, [6, 1, 241, 0, 0], 0, 0) else none) else (bif Nat.beq pc 130 then some (.iload 5, 132, [], 0, 0) else none)) else (bif Nat.blt pc 133 then (bif Nat.beq pc 132 then some (.iastore, 133, [], 0, 0) else none) else (bif Nat.blt pc 134 then (bif Nat.beq pc 133 then some (.aload_n 0, 134, [], 0, 0) else none) else (bif Nat.beq pc 134 then some (.dup, 135, [], 0, 0) else none))))) else (bif Nat.blt pc 144 then (bif Nat.blt pc 139 then (bif Nat.blt pc 138 then (bif Nat.beq pc 135 then some (.getfield 114, 138, [6, 1, 241, 0, 0], 0, 0) else none) else (bif Nat.beq pc 138 then some (.iconst 1, 139, [], 1, 0) else none)) else (bif Nat.blt pc 140 then (bif Nat.beq pc 139 then some (.iadd, 140, [], 0, 0) else none) else (bif Nat.blt pc 143 then (bif Nat.beq pc 140 then some (.putfield 114, 143, [6, 1, 241, 0, 0], 0, 0) else none) else (bif Nat.beq pc 143 then some (.aload_n 0, 144, [], 0, 0) else none)))) else (bif Nat.blt pc 151 then (bif Nat.blt pc 147 then (bif Nat.beq pc 144 then some (.invokevirtual 117, 147, [114], 0, 0) else none) else (bif Nat.blt pc 148 then (bif Nat.beq pc 147 then some (.aload_n 0, 148, [], 0, 0) else none) else (bif Nat.beq pc 148 then some (.getfield 114, 151, [6, 1, 241, 0, 0], 0, 0) else none))) else (bif Nat.blt pc 152 then (bif Nat.beq pc 151 then some (.iconst 1, 152, [], 1, 0) else none) else (bif Nat.blt pc 153 then (bif Nat.beq pc 152 then some (.isub, 153, [], 0, 0) else none) else (bif Nat.beq pc 153 then some (.ireturn, 154, [0], 0, 0) else none))))))))
def k_X6_clear (pc : Nat) : Option mE := (bif Nat.blt pc 12 then (bif Nat.blt pc 6 then (bif Nat.blt pc 2 then (bif Nat.blt pc 1 then (bif Nat.beq pc 0 then some (.aload_n 0, 1, [], 0, 0) else none) else (bif Nat.beq pc 1 then some (.iconst 0, 2, [], 0, 0) else none)) else (bif Nat.blt pc 5 then (bif Nat.beq pc 2 then some (.putfield 65, 5, [6, 0, 240, 0, 0], 0, 0) else none) else (bif Nat.beq pc 5 then some (.aload_n 0, 6, [], 0, 0) else none))) else (bif Nat.blt pc 10 then (bif Nat.blt pc 9 then (bif Nat.beq pc 6 then some (.getfield 114, 9, [6, 1, 241, 0, 0], 0, 0) else none) else (bif Nat.beq pc 9 then some (.istore_n 1, 10, [], 0, 0) else none)) else (bif Nat.blt pc 11 then (bif Nat.beq pc 10 then some (.aload_n 0, 11, [], 0, 0) else none) else (bif Nat.beq pc 11 then some (.iconst 0, 12, [], 0, 0) else none)))) else (bif Nat.blt pc 20 then (bif Nat.blt pc 16 then (bif Nat.blt pc 15 then (bif Nat.beq pc 12 then some (.putfield 114, 15, [6, 1, 241, 0, 0], 0, 0) else none) else (bif Nat.beq pc 15 then some (.aload_n 0, 16, [], 0, 0) else none)) else (bif Nat.blt pc 19 then (bif Nat.beq pc 16 then some (.invokevirtual 117, 19, [114], 0, 0) else none) else (bif Nat.beq pc 19 then some (.aload_n 0, 20, [], 0, 0) else none))) else (bif Nat.blt pc 24 then (bif Nat.blt pc 21 then (bif Nat.beq pc 20 then some (.iconst 0, 21, [], 0, 0) else none) else (bif Nat.beq pc 21 then some (.putfield 120, 24, [6, 11, 251, 2, 0], 0, 0) else none)) else (bif Nat.blt pc 25 then (bif Nat.beq pc 24 then some (.iload_n 1, 25, [], 0, 0) else none) else (bif Nat.beq pc 25 then some (.ireturn, 26, [0], 0, 0) else none)))))
def k_X6_isOf (pc : Nat) : Option mE := (bif Nat.blt pc 117 then (bif Nat.blt pc 82 then (bif Nat.blt pc 68 then (bif Nat.blt pc 59 then (bif Nat.blt pc 56 then (bif Nat.blt pc 1 then (bif Nat.beq pc 0 then some (.iload_n 1, 1, [], 0, 0) else none) else (bif Nat.beq pc 1 then some (.tableswitch 175 0 9 #[55, 57, 68, 79, 95, 106, 122, 133, 145, 163], 56, [176, 56, 58, 69, 80, 96, 107, 123, 134, 146, 164], 0, 0) else none)) else (bif Nat.blt pc 57 then (bif Nat.beq pc 56 then some (.iconst 1, 57, [], 1, 0) else none) else (bif Nat.blt pc 58 then (bif Nat.beq pc 57 then some (.ireturn, 58, [1], 0, 0) else none) else (bif Nat.beq pc 58 then some (.iload_n 0, 59, [], 0, 0) else none)))) else (bif Nat.blt pc 63 then (bif Nat.blt pc 60 then (bif Nat.beq pc 59 then some (.iconst 4, 60, [], 4, 0) else none) else (bif Nat.beq pc 60 then some (.if_icmp .gt 7, 63, [67], 0, 0) else none)) else (bif Nat.blt pc 64 then (bif Nat.beq pc 63 then some (.iconst 1, 64, [], 1, 0) else none) else (bif Nat.blt pc 67 then (bif Nat.beq pc 64 then some (.goto 4, 67, [68], 0, 0) else none) else (bif Nat.beq pc 67 then some (.iconst 0, 68, [], 0, 0) else none))))) else (bif Nat.blt pc 75 then (bif Nat.blt pc 70 then (bif Nat.blt pc 69 then (bif Nat.beq pc 68 then some (.ireturn, 69, [1], 0, 0) else none) else (bif Nat.beq pc 69 then some (.iload_n 0, 70, [], 0, 0) else none)) else (bif Nat.blt pc 71 then (bif Nat.beq pc 70 then some (.iconst 2, 71, [], 2, 0) else none) else (bif Nat.blt pc 74 then (bif Nat.beq pc 71 then some (.if_icmp .ne 7, 74, [78], 0, 0) else none) else (bif Nat.beq pc 74 then some (.iconst 1, 75, [], 1, 0) else none)))) else (bif Nat.blt pc 79 then (bif Nat.blt pc 78 then (bif Nat.beq pc 75 then some (.goto 4, 78, [79], 0, 0) else none) else (bif Nat.beq pc 78 then some (.iconst 0, 79, [], 0, 0) else none)) else (bif Nat.blt pc 80 then (bif Nat.beq pc 79 then some (.ireturn, 80, [1], 0, 0) else none) else (bif Nat.blt pc 81 then (bif Nat.beq pc 80 then some (.iload_n 0, 81, [], 0, 0) else none) else (bif Nat.beq pc 81 then some (.iconst 3, 82, [], 3, 0) else none)))))) else (bif Nat.blt pc 98 then (bif Nat.blt pc 91 then (bif Nat.blt pc 86 then (bif Nat.blt pc 85 then (bif Nat.beq pc 82 then some (.if_icmp .eq 8, 85, [90], 0, 0) else none) else (bif Nat.beq pc 85 then some (.iload_n 0, 86, [], 0, 0) else none)) else (bif Nat.blt pc 87 then (bif Nat.beq pc 86 then some (.iconst 4, 87, [], 4, 0) else none) else (bif Nat.blt pc 90 then (bif Nat.beq pc 87 then some (.if_icmp .ne 7, 90, [94], 0, 0) else none) else (bif Nat.beq pc 90 then some (.iconst 1, 91, [], 1, 0) else none)))) else (bif Nat.blt pc 95 then (bif Nat.blt pc 94 then (bif Nat.beq pc 91 then some (.goto 4, 94, [95], 0, 0) else none) else (bif Nat.beq pc 94 then some (.iconst 0, 95, [], 0, 0) else none)) else (bif Nat.blt pc 96 then (bif Nat.beq pc 95 then some (.ireturn, 96, [1], 0, 0) else none) else (bif Nat.blt pc 97 then (bif Nat.beq pc 96 then some (.iload_n 0, 97, [], 0, 0) else none) else (bif Nat.beq pc 97 then some (.iconst 4, 98, [], 4, 0) else none))))) else (bif Nat.blt pc 107 then (bif Nat.blt pc 102 then (bif Nat.blt pc 101 then (bif Nat.beq pc 98 then some (.if_icmp .ne 7, 101, [105], 0, 0) else none) else (bif Nat.beq pc 101 then some (.iconst 1, 102, [], 1, 0) else none)) else (bif Nat.blt pc 105 then (bif Nat.beq pc 102 then some (.goto 4, 105, [106], 0, 0) else none) else (bif Nat.blt pc 106 then (bif Nat.beq pc 105 then some (.iconst 0, 106, [], 0, 0) else none) else (bif Nat.beq pc 106 then some (.ireturn, 107, [1], 0, 0) else none)))) else (bif Nat.blt pc 112 then (bif Nat.blt pc 108 then (bif Nat.beq pc 107 then some (.iload_n 0, 108, [], 0, 0) else none) else (bif Nat.blt pc 109 then (bif Nat.beq pc 108 then some (.iconst 2, 109, [], 2, 0) else none) else (bif Nat.beq pc 109 then some (.if_icmp .eq 8, 112, [117], 0, 0) else none))) else (bif Nat.blt pc 113 then (bif Nat.beq pc 112 then some (.iload_n 0, 113, [], 0, 0) else none) else (bif Nat.blt pc 114 then (bif Nat.beq pc 113 then some (.iconst 4, 114, [], 4, 0) else none) else (bif Nat.beq pc 114 then some (.if_icmp .ne 7, 117, [121], 0, 0) else none))))))) else (bif Nat.blt pc 152 then (bif Nat.blt pc 133 then (bif Nat.blt pc 124 then (bif Nat.blt pc 121 then (bif Nat.blt pc 118 then (bif Nat.beq pc 117 then some (.iconst 1, 118, [], 1, 0) else none) else (bif Nat.beq pc 118 then some (.goto 4, 121, [122], 0, 0) else none)) else (bif Nat.blt pc 122 then (bif Nat.beq pc 121 then some (.iconst 0, 122, [], 0, 0) else none) else (bif Nat.blt pc 123 then (bif Nat.beq pc 122 then some (.ireturn, 123, [1], 0, 0) else none) else (bif Nat.beq pc 123 then some (.iload_n 0, 124, [], 0, 0) else none)))) else (bif Nat.blt pc 128 then (bif Nat.blt pc 125 then (bif Nat.beq pc 124 then some (.iconst 5, 125, [], 5, 0) else none) else (bif Nat.beq pc 125 then some (.if_icmp .ne 7, 128, [132], 0, 0) else none)) else (bif Nat.blt pc 129 then (bif Nat.beq pc 128 then some (.iconst 1, 129, [], 1, 0) else none) else (bif Nat.blt pc 132 then (bif Nat.beq pc 129 then some (.goto 4, 132, [133], 0, 0) else none) else (bif Nat.beq pc 132 then some (.iconst 0, 133, [], 0, 0) else none))))) else (bif Nat.blt pc 141 then (bif Nat.blt pc 135 then (bif Nat.blt pc 134 then (bif Nat.beq pc 133 then some (.ireturn, 134, [1], 0, 0) else none) else (bif Nat.beq pc 134 then some (.iload_n 0, 135, [], 0, 0) else none)) else (bif Nat.blt pc 137 then (bif Nat.beq pc 135 then some (.bipush 6, 137, [], 6, 0) else none) else (bif Nat.blt pc 140 then (bif Nat.beq pc 137 then some (.if_icmp .ne 7, 140, [144], 0, 0) else none) else (bif Nat.beq pc 140 then some (.iconst 1, 141, [], 1, 0) else none)))) else (bif Nat.blt pc 146 then (bif Nat.blt pc 144 then (bif Nat.beq pc 141 then some (.goto 4, 144, [145], 0, 0) else none) else (bif Nat.blt pc 145 then (bif Nat.beq pc 144 then some (.iconst 0, 145, [], 0, 0) else none) else (bif Nat.beq pc 145 then some (.ireturn, 146, [1], 0, 0) else none))) else (bif Nat.blt pc 147 then (bif Nat.beq pc 146 then some (.iload_n 0, 147, [], 0, 0) else none) else (bif Nat.blt pc 149 then (bif Nat.beq pc 147 then some (.bipush 7, 149, [], 7, 0) else none) else (bif Nat.beq pc 149 then some (.if_icmp .eq 9, 152, [158], 0, 0) else none)))))) else (bif Nat.blt pc 170 then (bif Nat.blt pc 162 then (bif Nat.blt pc 155 then (bif Nat.blt pc 153 then (bif Nat.beq pc 152 then some (.iload_n 0, 153, [], 0, 0) else none) else (bif Nat.beq pc 153 then some (.bipush 8, 155, [], 8, 0) else none)) else (bif Nat.blt pc 158 then (bif Nat.beq pc 155 then some (.if_icmp .ne 7, 158, [162], 0, 0) else none) else (bif Nat.blt pc 159 then (bif Nat.beq pc 158 then some (.iconst 1, 159, [], 1, 0) else none) else (bif Nat.beq pc 159 then some (.goto 4, 162, [163], 0, 0) else none)))) else (bif Nat.blt pc 164 then (bif Nat.blt pc 163 then (bif Nat.beq pc 162 then some (.iconst 0, 163, [], 0, 0) else none) else (bif Nat.beq pc 163 then some (.ireturn, 164, [1], 0, 0) else none)) else (bif Nat.blt pc 165 then (bif Nat.beq pc 164 then some (.iload_n 0, 165, [], 0, 0) else none) else (bif Nat.blt pc 167 then (bif Nat.beq pc 165 then some (.bipush 8, 167, [], 8, 0) else none) else (bif Nat.beq pc 167 then some (.if_icmp .ne 7, 170, [174], 0, 0) else none))))) else (bif Nat.blt pc 177 then (bif Nat.blt pc 174 then (bif Nat.blt pc 171 then (bif Nat.beq pc 170 then some (.iconst 1, 171, [], 1, 0) else none) else (bif Nat.beq pc 171 then some (.goto 4, 174, [175], 0, 0) else none)) else (bif Nat.blt pc 175 then (bif Nat.beq pc 174 then some (.iconst 0, 175, [], 0, 0) else none) else (bif Nat.blt pc 176 then (bif Nat.beq pc 175 then some (.ireturn, 176, [1], 0, 0) else none) else (bif Nat.beq pc 176 then some (.iload_n 0, 177, [], 0, 0) else none)))) else (bif Nat.blt pc 183 then (bif Nat.blt pc 179 then (bif Nat.beq pc 177 then some (.bipush 9, 179, [], 9, 0) else none) else (bif Nat.blt pc 182 then (bif Nat.beq pc 179 then some (.if_icmp .ne 7, 182, [186], 0, 0) else none) else (bif Nat.beq pc 182 then some (.iconst 1, 183, [], 1, 0) else none))) else (bif Nat.blt pc 186 then (bif Nat.beq pc 183 then some (.goto 4, 186, [187], 0, 0) else none) else (bif Nat.blt pc 187 then (bif Nat.beq pc 186 then some (.iconst 0, 187, [], 0, 0) else none) else (bif Nat.beq pc 187 then some (.ireturn, 188, [1], 0, 0) else none))))))))
def k_X6_kind (pc : Nat) : Option mE := (bif Nat.blt pc 13 then (bif Nat.blt pc 5 then (bif Nat.blt pc 1 then (bif Nat.beq pc 0 then some (.aload_n 0, 1, [], 0, 0) else none) else (bif Nat.blt pc 4 then (bif Nat.beq pc 1 then some (.getfield 43, 4, [6, 21, 261, 1, 361], 0, 0) else none) else (bif Nat.beq pc 4 then some (.iload_n 1, 5, [], 0, 0) else none))) else (bif Nat.blt pc 9 then (bif Nat.blt pc 6 then (bif Nat.beq pc 5 then some (.iaload, 6, [], 0, 0) else none) else (bif Nat.beq pc 6 then some (.ifCond .ge 7, 9, [13], 0, 0) else none)) else (bif Nat.blt pc 10 then (bif Nat.beq pc 9 then some (.iconst 0, 10, [], 0, 0) else none) else (bif Nat.beq pc 10 then some (.goto 14, 13, [24], 0, 0) else none)))) else (bif Nat.blt pc 21 then (bif Nat.blt pc 17 then (bif Nat.blt pc 14 then (bif Nat.beq pc 13 then some (.aload_n 0, 14, [], 0, 0) else none) else (bif Nat.beq pc 14 then some (.getfield 31, 17, [6, 17, 257, 1, 357], 0, 0) else none)) else (bif Nat.blt pc 18 then (bif Nat.beq pc 17 then some (.aload_n 0, 18, [], 0, 0) else none) else (bif Nat.beq pc 18 then some (.getfield 43, 21, [6, 21, 261, 1, 361], 0, 0) else none))) else (bif Nat.blt pc 23 then (bif Nat.blt pc 22 then (bif Nat.beq pc 21 then some (.iload_n 1, 22, [], 0, 0) else none) else (bif Nat.beq pc 22 then some (.iaload, 23, [], 0, 0) else none)) else (bif Nat.blt pc 24 then (bif Nat.beq pc 23 then some (.iaload, 24, [], 0, 0) else none) else (bif Nat.beq pc 24 then some (.ireturn, 25, [0], 0, 0) else none)))))
def k_X6_isWrong (pc : Nat) : Option mE := (bif Nat.blt pc 17 then (bif Nat.blt pc 6 then (bif Nat.blt pc 4 then (bif Nat.blt pc 1 then (bif Nat.beq pc 0 then some (.aload_n 0, 1, [], 0, 0) else none) else (bif Nat.beq pc 1 then some (.getfield 43, 4, [6, 21, 261, 1, 361], 0, 0) else none)) else (bif Nat.blt pc 5 then (bif Nat.beq pc 4 then some (.iload_n 1, 5, [], 0, 0) else none) else (bif Nat.beq pc 5 then some (.iaload, 6, [], 0, 0) else none))) else (bif Nat.blt pc 10 then (bif Nat.blt pc 9 then (bif Nat.beq pc 6 then some (.ifCond .lt 25, 9, [31], 0, 0) else none) else (bif Nat.beq pc 9 then some (.aload_n 0, 10, [], 0, 0) else none)) else (bif Nat.blt pc 13 then (bif Nat.beq pc 10 then some (.getfield 31, 13, [6, 17, 257, 1, 357], 0, 0) else none) else (bif Nat.blt pc 14 then (bif Nat.beq pc 13 then some (.aload_n 0, 14, [], 0, 0) else none) else (bif Nat.beq pc 14 then some (.getfield 43, 17, [6, 21, 261, 1, 361], 0, 0) else none))))) else (bif Nat.blt pc 24 then (bif Nat.blt pc 19 then (bif Nat.blt pc 18 then (bif Nat.beq pc 17 then some (.iload_n 1, 18, [], 0, 0) else none) else (bif Nat.beq pc 18 then some (.iaload, 19, [], 0, 0) else none)) else (bif Nat.blt pc 20 then (bif Nat.beq pc 19 then some (.iaload, 20, [], 0, 0) else none) else (bif Nat.blt pc 21 then (bif Nat.beq pc 20 then some (.iload_n 2, 21, [], 0, 0) else none) else (bif Nat.beq pc 21 then some (.invokestatic 123, 24, [117], 0, 0) else none)))) else (bif Nat.blt pc 28 then (bif Nat.blt pc 27 then (bif Nat.beq pc 24 then some (.ifCond .ne 7, 27, [31], 0, 0) else none) else (bif Nat.beq pc 27 then some (.iconst 1, 28, [], 1, 0) else none)) else (bif Nat.blt pc 31 then (bif Nat.beq pc 28 then some (.goto 4, 31, [32], 0, 0) else none) else (bif Nat.blt pc 32 then (bif Nat.beq pc 31 then some (.iconst 0, 32, [], 0, 0) else none) else (bif Nat.beq pc 32 then some (.ireturn, 33, [1], 0, 0) else none))))))
def k_X6_newObject (pc : Nat) : Option mE := (bif Nat.blt pc 24 then (bif Nat.blt pc 11 then (bif Nat.blt pc 5 then (bif Nat.blt pc 1 then (bif Nat.beq pc 0 then some (.aload_n 0, 1, [], 0, 0) else none) else (bif Nat.blt pc 4 then (bif Nat.beq pc 1 then some (.getfield 31, 4, [6, 17, 257, 1, 357], 0, 0) else none) else (bif Nat.beq pc 4 then some (.aload_n 0, 5, [], 0, 0) else none))) else (bif Nat.blt pc 9 then (bif Nat.blt pc 8 then (bif Nat.beq pc 5 then some (.getfield 126, 8, [6, 16, 256, 0, 0], 0, 0) else none) else (bif Nat.beq pc 8 then some (.iload_n 1, 9, [], 0, 0) else none)) else (bif Nat.blt pc 10 then (bif Nat.beq pc 9 then some (.iastore, 10, [], 0, 0) else none) else (bif Nat.beq pc 10 then some (.aload_n 0, 11, [], 0, 0) else none)))) else (bif Nat.blt pc 18 then (bif Nat.blt pc 14 then (bif Nat.beq pc 11 then some (.getfield 34, 14, [6, 18, 258, 1, 358], 0, 0) else none) else (bif Nat.blt pc 15 then (bif Nat.beq pc 14 then some (.aload_n 0, 15, [], 0, 0) else none) else (bif Nat.beq pc 15 then some (.getfield 126, 18, [6, 16, 256, 0, 0], 0, 0) else none))) else (bif Nat.blt pc 20 then (bif Nat.blt pc 19 then (bif Nat.beq pc 18 then some (.iconst (-1), 19, [], (-1), 0) else none) else (bif Nat.beq pc 19 then some (.iastore, 20, [], 0, 0) else none)) else (bif Nat.blt pc 21 then (bif Nat.beq pc 20 then some (.aload_n 0, 21, [], 0, 0) else none) else (bif Nat.beq pc 21 then some (.getfield 37, 24, [6, 19, 259, 1, 359], 0, 0) else none))))) else (bif Nat.blt pc 35 then (bif Nat.blt pc 29 then (bif Nat.blt pc 25 then (bif Nat.beq pc 24 then some (.aload_n 0, 25, [], 0, 0) else none) else (bif Nat.blt pc 28 then (bif Nat.beq pc 25 then some (.getfield 126, 28, [6, 16, 256, 0, 0], 0, 0) else none) else (bif Nat.beq pc 28 then some (.iconst 0, 29, [], 0, 0) else none))) else (bif Nat.blt pc 31 then (bif Nat.blt pc 30 then (bif Nat.beq pc 29 then some (.iastore, 30, [], 0, 0) else none) else (bif Nat.beq pc 30 then some (.aload_n 0, 31, [], 0, 0) else none)) else (bif Nat.blt pc 32 then (bif Nat.beq pc 31 then some (.dup, 32, [], 0, 0) else none) else (bif Nat.beq pc 32 then some (.getfield 126, 35, [6, 16, 256, 0, 0], 0, 0) else none)))) else (bif Nat.blt pc 41 then (bif Nat.blt pc 37 then (bif Nat.blt pc 36 then (bif Nat.beq pc 35 then some (.iconst 1, 36, [], 1, 0) else none) else (bif Nat.beq pc 36 then some (.iadd, 37, [], 0, 0) else none)) else (bif Nat.blt pc 40 then (bif Nat.beq pc 37 then some (.putfield 126, 40, [6, 16, 256, 0, 0], 0, 0) else none) else (bif Nat.beq pc 40 then some (.aload_n 0, 41, [], 0, 0) else none))) else (bif Nat.blt pc 45 then (bif Nat.blt pc 44 then (bif Nat.beq pc 41 then some (.getfield 126, 44, [6, 16, 256, 0, 0], 0, 0) else none) else (bif Nat.beq pc 44 then some (.iconst 1, 45, [], 1, 0) else none)) else (bif Nat.blt pc 46 then (bif Nat.beq pc 45 then some (.isub, 46, [], 0, 0) else none) else (bif Nat.beq pc 46 then some (.ireturn, 47, [0], 0, 0) else none))))))
def k_X6_newArray (pc : Nat) : Option mE := (bif Nat.blt pc 32 then (bif Nat.blt pc 14 then (bif Nat.blt pc 7 then (bif Nat.blt pc 2 then (bif Nat.blt pc 1 then (bif Nat.beq pc 0 then some (.aload_n 0, 1, [], 0, 0) else none) else (bif Nat.beq pc 1 then some (.iload_n 1, 2, [], 0, 0) else none)) else (bif Nat.blt pc 5 then (bif Nat.beq pc 2 then some (.invokevirtual 129, 5, [120], 0, 0) else none) else (bif Nat.blt pc 6 then (bif Nat.beq pc 5 then some (.istore_n 3, 6, [], 0, 0) else none) else (bif Nat.beq pc 6 then some (.aload_n 0, 7, [], 0, 0) else none)))) else (bif Nat.blt pc 11 then (bif Nat.blt pc 10 then (bif Nat.beq pc 7 then some (.getfield 37, 10, [6, 19, 259, 1, 359], 0, 0) else none) else (bif Nat.beq pc 10 then some (.iload_n 3, 11, [], 0, 0) else none)) else (bif Nat.blt pc 12 then (bif Nat.beq pc 11 then some (.iload_n 2, 12, [], 0, 0) else none) else (bif Nat.blt pc 13 then (bif Nat.beq pc 12 then some (.iastore, 13, [], 0, 0) else none) else (bif Nat.beq pc 13 then some (.iconst 0, 14, [], 0, 0) else none))))) else (bif Nat.blt pc 23 then (bif Nat.blt pc 18 then (bif Nat.blt pc 16 then (bif Nat.beq pc 14 then some (.istore 4, 16, [], 0, 0) else none) else (bif Nat.beq pc 16 then some (.iload 4, 18, [], 0, 0) else none)) else (bif Nat.blt pc 19 then (bif Nat.beq pc 18 then some (.iload_n 2, 19, [], 0, 0) else none) else (bif Nat.blt pc 22 then (bif Nat.beq pc 19 then some (.if_icmp .ge 48, 22, [67], 0, 0) else none) else (bif Nat.beq pc 22 then some (.aload_n 0, 23, [], 0, 0) else none)))) else (bif Nat.blt pc 28 then (bif Nat.blt pc 26 then (bif Nat.beq pc 23 then some (.getfield 40, 26, [6, 20, 260, 1, 360], 0, 0) else none) else (bif Nat.beq pc 26 then some (.bipush 20, 28, [], 20, 0) else none)) else (bif Nat.blt pc 29 then (bif Nat.beq pc 28 then some (.iload_n 3, 29, [], 0, 0) else none) else (bif Nat.blt pc 30 then (bif Nat.beq pc 29 then some (.imul, 30, [], 0, 0) else none) else (bif Nat.beq pc 30 then some (.iload 4, 32, [], 0, 0) else none)))))) else (bif Nat.blt pc 50 then (bif Nat.blt pc 41 then (bif Nat.blt pc 34 then (bif Nat.blt pc 33 then (bif Nat.beq pc 32 then some (.iadd, 33, [], 0, 0) else none) else (bif Nat.beq pc 33 then some (.iload_n 1, 34, [], 0, 0) else none)) else (bif Nat.blt pc 36 then (bif Nat.beq pc 34 then some (.bipush 9, 36, [], 9, 0) else none) else (bif Nat.blt pc 39 then (bif Nat.beq pc 36 then some (.if_icmp .ne 8, 39, [44], 0, 0) else none) else (bif Nat.beq pc 39 then some (.bipush (-2), 41, [], (-2), 0) else none)))) else (bif Nat.blt pc 45 then (bif Nat.blt pc 44 then (bif Nat.beq pc 41 then some (.goto 19, 44, [60], 0, 0) else none) else (bif Nat.beq pc 44 then some (.iload_n 1, 45, [], 0, 0) else none)) else (bif Nat.blt pc 46 then (bif Nat.beq pc 45 then some (.iconst 5, 46, [], 5, 0) else none) else (bif Nat.blt pc 49 then (bif Nat.beq pc 46 then some (.if_icmp .eq 9, 49, [55], 0, 0) else none) else (bif Nat.beq pc 49 then some (.iload_n 1, 50, [], 0, 0) else none))))) else (bif Nat.blt pc 60 then (bif Nat.blt pc 55 then (bif Nat.blt pc 52 then (bif Nat.beq pc 50 then some (.bipush 6, 52, [], 6, 0) else none) else (bif Nat.beq pc 52 then some (.if_icmp .ne 7, 55, [59], 0, 0) else none)) else (bif Nat.blt pc 56 then (bif Nat.beq pc 55 then some (.iconst 0, 56, [], 0, 0) else none) else (bif Nat.blt pc 59 then (bif Nat.beq pc 56 then some (.goto 4, 59, [60], 0, 0) else none) else (bif Nat.beq pc 59 then some (.iconst (-1), 60, [], (-1), 0) else none)))) else (bif Nat.blt pc 64 then (bif Nat.blt pc 61 then (bif Nat.beq pc 60 then some (.iastore, 61, [], 0, 0) else none) else (bif Nat.beq pc 61 then some (.iinc 4 1, 64, [], 1, 0) else none)) else (bif Nat.blt pc 67 then (bif Nat.beq pc 64 then some (.goto (-48), 67, [16], 0, 0) else none) else (bif Nat.blt pc 68 then (bif Nat.beq pc 67 then some (.iload_n 3, 68, [], 0, 0) else none) else (bif Nat.beq pc 68 then some (.ireturn, 69, [0], 0, 0) else none)))))))
def k_X6_isCell (pc : Nat) : Option mE := (bif Nat.blt pc 8 then (bif Nat.blt pc 3 then (bif Nat.blt pc 1 then (bif Nat.beq pc 0 then some (.iload_n 2, 1, [], 0, 0) else none) else (bif Nat.blt pc 2 then (bif Nat.beq pc 1 then some (.i2l, 2, [], 0, 0) else none) else (bif Nat.beq pc 2 then some (.lconst 0, 3, [], 0, 0) else none))) else (bif Nat.blt pc 4 then (bif Nat.beq pc 3 then some (.aload_n 0, 4, [], 0, 0) else none) else (bif Nat.blt pc 7 then (bif Nat.beq pc 4 then some (.getfield 37, 7, [6, 19, 259, 1, 359], 0, 0) else none) else (bif Nat.beq pc 7 then some (.iload_n 1, 8, [], 0, 0) else none)))) else (bif Nat.blt pc 11 then (bif Nat.blt pc 9 then (bif Nat.beq pc 8 then some (.iaload, 9, [], 0, 0) else none) else (bif Nat.blt pc 10 then (bif Nat.beq pc 9 then some (.iconst 1, 10, [], 1, 0) else none) else (bif Nat.beq pc 10 then some (.isub, 11, [], 0, 0) else none))) else (bif Nat.blt pc 12 then (bif Nat.beq pc 11 then some (.i2l, 12, [], 0, 0) else none) else (bif Nat.blt pc 15 then (bif Nat.beq pc 12 then some (.invokestatic 71, 15, [109], 0, 0) else none) else (bif Nat.beq pc 15 then some (.ireturn, 16, [1], 0, 0) else none)))))
def k_X6_doStep (pc : Nat) : Option mE := (bif Nat.blt pc 317 then (bif Nat.blt pc 187 then (bif Nat.blt pc 121 then (bif Nat.blt pc 26 then (bif Nat.blt pc 13 then (bif Nat.blt pc 6 then (bif Nat.blt pc 4 then (bif Nat.blt pc 1 then (bif Nat.beq pc 0 then some (.aload_n 0, 1, [], 0, 0) else none) else (bif Nat.beq pc 1 then some (.getfield 13, 4, [6, 3, 243, 1, 343], 0, 0) else none)) else (bif Nat.blt pc 5 then (bif Nat.beq pc 4 then some (.iload_n 1, 5, [], 0, 0) else none) else (bif Nat.beq pc 5 then some (.iaload, 6, [], 0, 0) else none))) else (bif Nat.blt pc 8 then (bif Nat.blt pc 7 then (bif Nat.beq pc 6 then some (.istore_n 2, 7, [], 0, 0) else none) else (bif Nat.beq pc 7 then some (.aload_n 0, 8, [], 0, 0) else none)) else (bif Nat.blt pc 11 then (bif Nat.beq pc 8 then some (.getfield 16, 11, [6, 4, 244, 1, 344], 0, 0) else none) else (bif Nat.blt pc 12 then (bif Nat.beq pc 11 then some (.iload_n 1, 12, [], 0, 0) else none) else (bif Nat.beq pc 12 then some (.iaload, 13, [], 0, 0) else none))))) else (bif Nat.blt pc 20 then (bif Nat.blt pc 15 then (bif Nat.blt pc 14 then (bif Nat.beq pc 13 then some (.istore_n 3, 14, [], 0, 0) else none) else (bif Nat.beq pc 14 then some (.aload_n 0, 15, [], 0, 0) else none)) else (bif Nat.blt pc 18 then (bif Nat.beq pc 15 then some (.getfield 19, 18, [6, 5, 245, 1, 345], 0, 0) else none) else (bif Nat.blt pc 19 then (bif Nat.beq pc 18 then some (.iload_n 1, 19, [], 0, 0) else none) else (bif Nat.beq pc 19 then some (.iaload, 20, [], 0, 0) else none)))) else (bif Nat.blt pc 23 then (bif Nat.blt pc 22 then (bif Nat.beq pc 20 then some (.istore 4, 22, [], 0, 0) else none) else (bif Nat.beq pc 22 then some (.aload_n 0, 23, [], 0, 0) else none)) else (bif Nat.blt pc 24 then (bif Nat.beq pc 23 then some (.iload_n 1, 24, [], 0, 0) else none) else (bif Nat.blt pc 25 then (bif Nat.beq pc 24 then some (.iconst 1, 25, [], 1, 0) else none) else (bif Nat.beq pc 25 then some (.iadd, 26, [], 0, 0) else none)))))) else (bif Nat.blt pc 105 then (bif Nat.blt pc 34 then (bif Nat.blt pc 30 then (bif Nat.blt pc 29 then (bif Nat.beq pc 26 then some (.putfield 132, 29, [6, 24, 264, 0, 0], 0, 0) else none) else (bif Nat.beq pc 29 then some (.aload_n 0, 30, [], 0, 0) else none)) else (bif Nat.blt pc 33 then (bif Nat.beq pc 30 then some (.getfield 7, 33, [6, 2, 242, 1, 342], 0, 0) else none) else (bif Nat.beq pc 33 then some (.iload_n 1, 34, [], 0, 0) else none))) else (bif Nat.blt pc 100 then (bif Nat.blt pc 35 then (bif Nat.beq pc 34 then some (.iaload, 35, [], 0, 0) else none) else (bif Nat.beq pc 35 then some (.tableswitch 521 0 12 #[65, 74, 99, 155, 169, 205, 229, 255, 307, 359, 445, 454, 454], 100, [556, 100, 109, 134, 190, 204, 240, 264, 290, 342, 394, 480, 489, 489], 0, 0) else none)) else (bif Nat.blt pc 101 then (bif Nat.beq pc 100 then some (.aload_n 0, 101, [], 0, 0) else none) else (bif Nat.blt pc 104 then (bif Nat.beq pc 101 then some (.getfield 43, 104, [6, 21, 261, 1, 361], 0, 0) else none) else (bif Nat.beq pc 104 then some (.iload_n 2, 105, [], 0, 0) else none))))) else (bif Nat.blt pc 110 then (bif Nat.blt pc 107 then (bif Nat.blt pc 106 then (bif Nat.beq pc 105 then some (.iconst (-1), 106, [], (-1), 0) else none) else (bif Nat.beq pc 106 then some (.iastore, 107, [], 0, 0) else none)) else (bif Nat.blt pc 108 then (bif Nat.beq pc 107 then some (.iconst 0, 108, [], 0, 0) else none) else (bif Nat.blt pc 109 then (bif Nat.beq pc 108 then some (.ireturn, 109, [0], 0, 0) else none) else (bif Nat.beq pc 109 then some (.aload_n 0, 110, [], 0, 0) else none)))) else (bif Nat.blt pc 115 then (bif Nat.blt pc 113 then (bif Nat.beq pc 110 then some (.getfield 126, 113, [6, 16, 256, 0, 0], 0, 0) else none) else (bif Nat.beq pc 113 then some (.bipush 40, 115, [], 40, 0) else none)) else (bif Nat.blt pc 118 then (bif Nat.beq pc 115 then some (.if_icmp .ne 6, 118, [121], 0, 0) else none) else (bif Nat.blt pc 120 then (bif Nat.beq pc 118 then some (.bipush 8, 120, [], 8, 0) else none) else (bif Nat.beq pc 120 then some (.ireturn, 121, [0], 0, 0) else none))))))) else (bif Nat.blt pc 152 then (bif Nat.blt pc 134 then (bif Nat.blt pc 127 then (bif Nat.blt pc 125 then (bif Nat.blt pc 122 then (bif Nat.beq pc 121 then some (.aload_n 0, 122, [], 0, 0) else none) else (bif Nat.beq pc 122 then some (.getfield 43, 125, [6, 21, 261, 1, 361], 0, 0) else none)) else (bif Nat.blt pc 126 then (bif Nat.beq pc 125 then some (.iload_n 2, 126, [], 0, 0) else none) else (bif Nat.beq pc 126 then some (.aload_n 0, 127, [], 0, 0) else none))) else (bif Nat.blt pc 131 then (bif Nat.blt pc 128 then (bif Nat.beq pc 127 then some (.iload_n 3, 128, [], 0, 0) else none) else (bif Nat.beq pc 128 then some (.invokevirtual 129, 131, [120], 0, 0) else none)) else (bif Nat.blt pc 132 then (bif Nat.beq pc 131 then some (.iastore, 132, [], 0, 0) else none) else (bif Nat.blt pc 133 then (bif Nat.beq pc 132 then some (.iconst 0, 133, [], 0, 0) else none) else (bif Nat.beq pc 133 then some (.ireturn, 134, [0], 0, 0) else none))))) else (bif Nat.blt pc 144 then (bif Nat.blt pc 138 then (bif Nat.blt pc 135 then (bif Nat.beq pc 134 then some (.aload_n 0, 135, [], 0, 0) else none) else (bif Nat.beq pc 135 then some (.getfield 46, 138, [6, 22, 262, 1, 362], 0, 0) else none)) else (bif Nat.blt pc 140 then (bif Nat.beq pc 138 then some (.iload 4, 140, [], 0, 0) else none) else (bif Nat.blt pc 141 then (bif Nat.beq pc 140 then some (.iaload, 141, [], 0, 0) else none) else (bif Nat.beq pc 141 then some (.ifCond .ge 5, 144, [146], 0, 0) else none)))) else (bif Nat.blt pc 146 then (bif Nat.blt pc 145 then (bif Nat.beq pc 144 then some (.iconst 5, 145, [], 5, 0) else none) else (bif Nat.beq pc 145 then some (.ireturn, 146, [0], 0, 0) else none)) else (bif Nat.blt pc 147 then (bif Nat.beq pc 146 then some (.aload_n 0, 147, [], 0, 0) else none) else (bif Nat.blt pc 150 then (bif Nat.beq pc 147 then some (.getfield 46, 150, [6, 22, 262, 1, 362], 0, 0) else none) else (bif Nat.beq pc 150 then some (.iload 4, 152, [], 0, 0) else none)))))) else (bif Nat.blt pc 170 then (bif Nat.blt pc 159 then (bif Nat.blt pc 155 then (bif Nat.blt pc 153 then (bif Nat.beq pc 152 then some (.iaload, 153, [], 0, 0) else none) else (bif Nat.beq pc 153 then some (.bipush 20, 155, [], 20, 0) else none)) else (bif Nat.blt pc 158 then (bif Nat.beq pc 155 then some (.if_icmp .gt 12, 158, [167], 0, 0) else none) else (bif Nat.beq pc 158 then some (.aload_n 0, 159, [], 0, 0) else none))) else (bif Nat.blt pc 164 then (bif Nat.blt pc 162 then (bif Nat.beq pc 159 then some (.getfield 126, 162, [6, 16, 256, 0, 0], 0, 0) else none) else (bif Nat.beq pc 162 then some (.bipush 40, 164, [], 40, 0) else none)) else (bif Nat.blt pc 167 then (bif Nat.beq pc 164 then some (.if_icmp .ne 6, 167, [170], 0, 0) else none) else (bif Nat.blt pc 169 then (bif Nat.beq pc 167 then some (.bipush 8, 169, [], 8, 0) else none) else (bif Nat.beq pc 169 then some (.ireturn, 170, [0], 0, 0) else none))))) else (bif Nat.blt pc 177 then (bif Nat.blt pc 174 then (bif Nat.blt pc 171 then (bif Nat.beq pc 170 then some (.aload_n 0, 171, [], 0, 0) else none) else (bif Nat.beq pc 171 then some (.getfield 43, 174, [6, 21, 261, 1, 361], 0, 0) else none)) else (bif Nat.blt pc 175 then (bif Nat.beq pc 174 then some (.iload_n 2, 175, [], 0, 0) else none) else (bif Nat.blt pc 176 then (bif Nat.beq pc 175 then some (.aload_n 0, 176, [], 0, 0) else none) else (bif Nat.beq pc 176 then some (.iload_n 3, 177, [], 0, 0) else none)))) else (bif Nat.blt pc 181 then (bif Nat.blt pc 178 then (bif Nat.beq pc 177 then some (.aload_n 0, 178, [], 0, 0) else none) else (bif Nat.beq pc 178 then some (.getfield 46, 181, [6, 22, 262, 1, 362], 0, 0) else none)) else (bif Nat.blt pc 183 then (bif Nat.beq pc 181 then some (.iload 4, 183, [], 0, 0) else none) else (bif Nat.blt pc 184 then (bif Nat.beq pc 183 then some (.iaload, 184, [], 0, 0) else none) else (bif Nat.beq pc 184 then some (.invokevirtual 135, 187, [121], 0, 0) else none)))))))) else (bif Nat.blt pc 250 then (bif Nat.blt pc 214 then (bif Nat.blt pc 200 then (bif Nat.blt pc 191 then (bif Nat.blt pc 189 then (bif Nat.blt pc 188 then (bif Nat.beq pc 187 then some (.iastore, 188, [], 0, 0) else none) else (bif Nat.beq pc 188 then some (.iconst 0, 189, [], 0, 0) else none)) else (bif Nat.blt pc 190 then (bif Nat.beq pc 189 then some (.ireturn, 190, [0], 0, 0) else none) else (bif Nat.beq pc 190 then some (.aload_n 0, 191, [], 0, 0) else none))) else (bif Nat.blt pc 195 then (bif Nat.blt pc 194 then (bif Nat.beq pc 191 then some (.getfield 43, 194, [6, 21, 261, 1, 361], 0, 0) else none) else (bif Nat.beq pc 194 then some (.iload_n 2, 195, [], 0, 0) else none)) else (bif Nat.blt pc 196 then (bif Nat.beq pc 195 then some (.aload_n 0, 196, [], 0, 0) else none) else (bif Nat.blt pc 199 then (bif Nat.beq pc 196 then some (.getfield 43, 199, [6, 21, 261, 1, 361], 0, 0) else none) else (bif Nat.beq pc 199 then some (.iload_n 3, 200, [], 0, 0) else none))))) else (bif Nat.blt pc 205 then (bif Nat.blt pc 202 then (bif Nat.blt pc 201 then (bif Nat.beq pc 200 then some (.iaload, 201, [], 0, 0) else none) else (bif Nat.beq pc 201 then some (.iastore, 202, [], 0, 0) else none)) else (bif Nat.blt pc 203 then (bif Nat.beq pc 202 then some (.iconst 0, 203, [], 0, 0) else none) else (bif Nat.blt pc 204 then (bif Nat.beq pc 203 then some (.ireturn, 204, [0], 0, 0) else none) else (bif Nat.beq pc 204 then some (.aload_n 0, 205, [], 0, 0) else none)))) else (bif Nat.blt pc 209 then (bif Nat.blt pc 206 then (bif Nat.beq pc 205 then some (.aload_n 0, 206, [], 0, 0) else none) else (bif Nat.beq pc 206 then some (.getfield 43, 209, [6, 21, 261, 1, 361], 0, 0) else none)) else (bif Nat.blt pc 210 then (bif Nat.beq pc 209 then some (.iload_n 2, 210, [], 0, 0) else none) else (bif Nat.blt pc 211 then (bif Nat.beq pc 210 then some (.iaload, 211, [], 0, 0) else none) else (bif Nat.beq pc 211 then some (.ifCond .lt 20, 214, [231], 0, 0) else none)))))) else (bif Nat.blt pc 232 then (bif Nat.blt pc 220 then (bif Nat.blt pc 216 then (bif Nat.blt pc 215 then (bif Nat.beq pc 214 then some (.aload_n 0, 215, [], 0, 0) else none) else (bif Nat.beq pc 215 then some (.iload_n 2, 216, [], 0, 0) else none)) else (bif Nat.blt pc 219 then (bif Nat.beq pc 216 then some (.invokevirtual 139, 219, [118], 0, 0) else none) else (bif Nat.beq pc 219 then some (.iload_n 3, 220, [], 0, 0) else none))) else (bif Nat.blt pc 226 then (bif Nat.blt pc 223 then (bif Nat.beq pc 220 then some (.invokestatic 123, 223, [117], 0, 0) else none) else (bif Nat.beq pc 223 then some (.ifCond .eq 8, 226, [231], 0, 0) else none)) else (bif Nat.blt pc 228 then (bif Nat.beq pc 226 then some (.iload 4, 228, [], 0, 0) else none) else (bif Nat.blt pc 231 then (bif Nat.beq pc 228 then some (.goto 7, 231, [235], 0, 0) else none) else (bif Nat.beq pc 231 then some (.aload_n 0, 232, [], 0, 0) else none))))) else (bif Nat.blt pc 241 then (bif Nat.blt pc 238 then (bif Nat.blt pc 235 then (bif Nat.beq pc 232 then some (.getfield 132, 235, [6, 24, 264, 0, 0], 0, 0) else none) else (bif Nat.beq pc 235 then some (.putfield 132, 238, [6, 24, 264, 0, 0], 0, 0) else none)) else (bif Nat.blt pc 239 then (bif Nat.beq pc 238 then some (.iconst 0, 239, [], 0, 0) else none) else (bif Nat.blt pc 240 then (bif Nat.beq pc 239 then some (.ireturn, 240, [0], 0, 0) else none) else (bif Nat.beq pc 240 then some (.aload_n 0, 241, [], 0, 0) else none)))) else (bif Nat.blt pc 245 then (bif Nat.blt pc 242 then (bif Nat.beq pc 241 then some (.aload_n 0, 242, [], 0, 0) else none) else (bif Nat.beq pc 242 then some (.getfield 43, 245, [6, 21, 261, 1, 361], 0, 0) else none)) else (bif Nat.blt pc 246 then (bif Nat.beq pc 245 then some (.iload_n 2, 246, [], 0, 0) else none) else (bif Nat.blt pc 247 then (bif Nat.beq pc 246 then some (.iaload, 247, [], 0, 0) else none) else (bif Nat.beq pc 247 then some (.ifCond .ge 8, 250, [255], 0, 0) else none))))))) else (bif Nat.blt pc 285 then (bif Nat.blt pc 266 then (bif Nat.blt pc 259 then (bif Nat.blt pc 255 then (bif Nat.blt pc 252 then (bif Nat.beq pc 250 then some (.iload 4, 252, [], 0, 0) else none) else (bif Nat.beq pc 252 then some (.goto 7, 255, [259], 0, 0) else none)) else (bif Nat.blt pc 256 then (bif Nat.beq pc 255 then some (.aload_n 0, 256, [], 0, 0) else none) else (bif Nat.beq pc 256 then some (.getfield 132, 259, [6, 24, 264, 0, 0], 0, 0) else none))) else (bif Nat.blt pc 263 then (bif Nat.blt pc 262 then (bif Nat.beq pc 259 then some (.putfield 132, 262, [6, 24, 264, 0, 0], 0, 0) else none) else (bif Nat.beq pc 262 then some (.iconst 0, 263, [], 0, 0) else none)) else (bif Nat.blt pc 264 then (bif Nat.beq pc 263 then some (.ireturn, 264, [0], 0, 0) else none) else (bif Nat.blt pc 265 then (bif Nat.beq pc 264 then some (.aload_n 0, 265, [], 0, 0) else none) else (bif Nat.beq pc 265 then some (.iload_n 2, 266, [], 0, 0) else none))))) else (bif Nat.blt pc 275 then (bif Nat.blt pc 270 then (bif Nat.blt pc 267 then (bif Nat.beq pc 266 then some (.iload_n 3, 267, [], 0, 0) else none) else (bif Nat.beq pc 267 then some (.invokevirtual 142, 270, [119], 0, 0) else none)) else (bif Nat.blt pc 273 then (bif Nat.beq pc 270 then some (.ifCond .eq 5, 273, [275], 0, 0) else none) else (bif Nat.blt pc 274 then (bif Nat.beq pc 273 then some (.iconst 2, 274, [], 2, 0) else none) else (bif Nat.beq pc 274 then some (.ireturn, 275, [0], 0, 0) else none)))) else (bif Nat.blt pc 279 then (bif Nat.blt pc 276 then (bif Nat.beq pc 275 then some (.aload_n 0, 276, [], 0, 0) else none) else (bif Nat.beq pc 276 then some (.getfield 43, 279, [6, 21, 261, 1, 361], 0, 0) else none)) else (bif Nat.blt pc 281 then (bif Nat.beq pc 279 then some (.iload 4, 281, [], 0, 0) else none) else (bif Nat.blt pc 282 then (bif Nat.beq pc 281 then some (.aload_n 0, 282, [], 0, 0) else none) else (bif Nat.beq pc 282 then some (.getfield 43, 285, [6, 21, 261, 1, 361], 0, 0) else none)))))) else (bif Nat.blt pc 299 then (bif Nat.blt pc 290 then (bif Nat.blt pc 287 then (bif Nat.blt pc 286 then (bif Nat.beq pc 285 then some (.iload_n 2, 286, [], 0, 0) else none) else (bif Nat.beq pc 286 then some (.iaload, 287, [], 0, 0) else none)) else (bif Nat.blt pc 288 then (bif Nat.beq pc 287 then some (.iastore, 288, [], 0, 0) else none) else (bif Nat.blt pc 289 then (bif Nat.beq pc 288 then some (.iconst 0, 289, [], 0, 0) else none) else (bif Nat.beq pc 289 then some (.ireturn, 290, [0], 0, 0) else none)))) else (bif Nat.blt pc 292 then (bif Nat.blt pc 291 then (bif Nat.beq pc 290 then some (.aload_n 0, 291, [], 0, 0) else none) else (bif Nat.beq pc 291 then some (.iload_n 3, 292, [], 0, 0) else none)) else (bif Nat.blt pc 293 then (bif Nat.beq pc 292 then some (.iconst 1, 293, [], 1, 0) else none) else (bif Nat.blt pc 296 then (bif Nat.beq pc 293 then some (.invokevirtual 142, 296, [119], 0, 0) else none) else (bif Nat.beq pc 296 then some (.ifCond .ne 12, 299, [308], 0, 0) else none))))) else (bif Nat.blt pc 308 then (bif Nat.blt pc 303 then (bif Nat.blt pc 300 then (bif Nat.beq pc 299 then some (.aload_n 0, 300, [], 0, 0) else none) else (bif Nat.beq pc 300 then some (.getfield 43, 303, [6, 21, 261, 1, 361], 0, 0) else none)) else (bif Nat.blt pc 304 then (bif Nat.beq pc 303 then some (.iload_n 3, 304, [], 0, 0) else none) else (bif Nat.blt pc 305 then (bif Nat.beq pc 304 then some (.iaload, 305, [], 0, 0) else none) else (bif Nat.beq pc 305 then some (.ifCond .ge 18, 308, [323], 0, 0) else none)))) else (bif Nat.blt pc 312 then (bif Nat.blt pc 309 then (bif Nat.beq pc 308 then some (.aload_n 0, 309, [], 0, 0) else none) else (bif Nat.beq pc 309 then some (.getfield 43, 312, [6, 21, 261, 1, 361], 0, 0) else none)) else (bif Nat.blt pc 313 then (bif Nat.beq pc 312 then some (.iload_n 3, 313, [], 0, 0) else none) else (bif Nat.blt pc 314 then (bif Nat.beq pc 313 then some (.iaload, 314, [], 0, 0) else none) else (bif Nat.beq pc 314 then some (.ifCond .ge 7, 317, [321], 0, 0) else none))))))))) else (bif Nat.blt pc 442 then (bif Nat.blt pc 379 then (bif Nat.blt pc 344 then (bif Nat.blt pc 332 then (bif Nat.blt pc 323 then (bif Nat.blt pc 321 then (bif Nat.blt pc 318 then (bif Nat.beq pc 317 then some (.iconst 1, 318, [], 1, 0) else none) else (bif Nat.beq pc 318 then some (.goto 4, 321, [322], 0, 0) else none)) else (bif Nat.blt pc 322 then (bif Nat.beq pc 321 then some (.iconst 2, 322, [], 2, 0) else none) else (bif Nat.beq pc 322 then some (.ireturn, 323, [0], 0, 0) else none))) else (bif Nat.blt pc 327 then (bif Nat.blt pc 324 then (bif Nat.beq pc 323 then some (.aload_n 0, 324, [], 0, 0) else none) else (bif Nat.beq pc 324 then some (.getfield 43, 327, [6, 21, 261, 1, 361], 0, 0) else none)) else (bif Nat.blt pc 328 then (bif Nat.beq pc 327 then some (.iload_n 2, 328, [], 0, 0) else none) else (bif Nat.blt pc 329 then (bif Nat.beq pc 328 then some (.aload_n 0, 329, [], 0, 0) else none) else (bif Nat.beq pc 329 then some (.getfield 34, 332, [6, 18, 258, 1, 358], 0, 0) else none))))) else (bif Nat.blt pc 339 then (bif Nat.blt pc 336 then (bif Nat.blt pc 333 then (bif Nat.beq pc 332 then some (.aload_n 0, 333, [], 0, 0) else none) else (bif Nat.beq pc 333 then some (.getfield 43, 336, [6, 21, 261, 1, 361], 0, 0) else none)) else (bif Nat.blt pc 337 then (bif Nat.beq pc 336 then some (.iload_n 3, 337, [], 0, 0) else none) else (bif Nat.blt pc 338 then (bif Nat.beq pc 337 then some (.iaload, 338, [], 0, 0) else none) else (bif Nat.beq pc 338 then some (.iaload, 339, [], 0, 0) else none)))) else (bif Nat.blt pc 341 then (bif Nat.blt pc 340 then (bif Nat.beq pc 339 then some (.iastore, 340, [], 0, 0) else none) else (bif Nat.beq pc 340 then some (.iconst 0, 341, [], 0, 0) else none)) else (bif Nat.blt pc 342 then (bif Nat.beq pc 341 then some (.ireturn, 342, [0], 0, 0) else none) else (bif Nat.blt pc 343 then (bif Nat.beq pc 342 then some (.aload_n 0, 343, [], 0, 0) else none) else (bif Nat.beq pc 343 then some (.iload_n 2, 344, [], 0, 0) else none)))))) else (bif Nat.blt pc 361 then (bif Nat.blt pc 352 then (bif Nat.blt pc 348 then (bif Nat.blt pc 345 then (bif Nat.beq pc 344 then some (.iconst 1, 345, [], 1, 0) else none) else (bif Nat.beq pc 345 then some (.invokevirtual 142, 348, [119], 0, 0) else none)) else (bif Nat.blt pc 351 then (bif Nat.beq pc 348 then some (.ifCond .ne 12, 351, [360], 0, 0) else none) else (bif Nat.beq pc 351 then some (.aload_n 0, 352, [], 0, 0) else none))) else (bif Nat.blt pc 356 then (bif Nat.blt pc 355 then (bif Nat.beq pc 352 then some (.getfield 43, 355, [6, 21, 261, 1, 361], 0, 0) else none) else (bif Nat.beq pc 355 then some (.iload_n 2, 356, [], 0, 0) else none)) else (bif Nat.blt pc 357 then (bif Nat.beq pc 356 then some (.iaload, 357, [], 0, 0) else none) else (bif Nat.blt pc 360 then (bif Nat.beq pc 357 then some (.ifCond .ge 18, 360, [375], 0, 0) else none) else (bif Nat.beq pc 360 then some (.aload_n 0, 361, [], 0, 0) else none))))) else (bif Nat.blt pc 370 then (bif Nat.blt pc 365 then (bif Nat.blt pc 364 then (bif Nat.beq pc 361 then some (.getfield 43, 364, [6, 21, 261, 1, 361], 0, 0) else none) else (bif Nat.beq pc 364 then some (.iload_n 2, 365, [], 0, 0) else none)) else (bif Nat.blt pc 366 then (bif Nat.beq pc 365 then some (.iaload, 366, [], 0, 0) else none) else (bif Nat.blt pc 369 then (bif Nat.beq pc 366 then some (.ifCond .ge 7, 369, [373], 0, 0) else none) else (bif Nat.beq pc 369 then some (.iconst 1, 370, [], 1, 0) else none)))) else (bif Nat.blt pc 374 then (bif Nat.blt pc 373 then (bif Nat.beq pc 370 then some (.goto 4, 373, [374], 0, 0) else none) else (bif Nat.beq pc 373 then some (.iconst 2, 374, [], 2, 0) else none)) else (bif Nat.blt pc 375 then (bif Nat.beq pc 374 then some (.ireturn, 375, [0], 0, 0) else none) else (bif Nat.blt pc 376 then (bif Nat.beq pc 375 then some (.aload_n 0, 376, [], 0, 0) else none) else (bif Nat.beq pc 376 then some (.getfield 34, 379, [6, 18, 258, 1, 358], 0, 0) else none))))))) else (bif Nat.blt pc 409 then (bif Nat.blt pc 392 then (bif Nat.blt pc 385 then (bif Nat.blt pc 383 then (bif Nat.blt pc 380 then (bif Nat.beq pc 379 then some (.aload_n 0, 380, [], 0, 0) else none) else (bif Nat.beq pc 380 then some (.getfield 43, 383, [6, 21, 261, 1, 361], 0, 0) else none)) else (bif Nat.blt pc 384 then (bif Nat.beq pc 383 then some (.iload_n 2, 384, [], 0, 0) else none) else (bif Nat.beq pc 384 then some (.iaload, 385, [], 0, 0) else none))) else (bif Nat.blt pc 389 then (bif Nat.blt pc 386 then (bif Nat.beq pc 385 then some (.aload_n 0, 386, [], 0, 0) else none) else (bif Nat.beq pc 386 then some (.getfield 43, 389, [6, 21, 261, 1, 361], 0, 0) else none)) else (bif Nat.blt pc 390 then (bif Nat.beq pc 389 then some (.iload_n 3, 390, [], 0, 0) else none) else (bif Nat.blt pc 391 then (bif Nat.beq pc 390 then some (.iaload, 391, [], 0, 0) else none) else (bif Nat.beq pc 391 then some (.iastore, 392, [], 0, 0) else none))))) else (bif Nat.blt pc 398 then (bif Nat.blt pc 394 then (bif Nat.blt pc 393 then (bif Nat.beq pc 392 then some (.iconst 0, 393, [], 0, 0) else none) else (bif Nat.beq pc 393 then some (.ireturn, 394, [0], 0, 0) else none)) else (bif Nat.blt pc 395 then (bif Nat.beq pc 394 then some (.aload_n 0, 395, [], 0, 0) else none) else (bif Nat.blt pc 396 then (bif Nat.beq pc 395 then some (.iload_n 3, 396, [], 0, 0) else none) else (bif Nat.beq pc 396 then some (.bipush 8, 398, [], 8, 0) else none)))) else (bif Nat.blt pc 404 then (bif Nat.blt pc 401 then (bif Nat.beq pc 398 then some (.invokevirtual 142, 401, [119], 0, 0) else none) else (bif Nat.beq pc 401 then some (.ifCond .ne 12, 404, [413], 0, 0) else none)) else (bif Nat.blt pc 405 then (bif Nat.beq pc 404 then some (.aload_n 0, 405, [], 0, 0) else none) else (bif Nat.blt pc 408 then (bif Nat.beq pc 405 then some (.getfield 43, 408, [6, 21, 261, 1, 361], 0, 0) else none) else (bif Nat.beq pc 408 then some (.iload_n 3, 409, [], 0, 0) else none)))))) else (bif Nat.blt pc 427 then (bif Nat.blt pc 418 then (bif Nat.blt pc 413 then (bif Nat.blt pc 410 then (bif Nat.beq pc 409 then some (.iaload, 410, [], 0, 0) else none) else (bif Nat.beq pc 410 then some (.ifCond .ge 18, 413, [428], 0, 0) else none)) else (bif Nat.blt pc 414 then (bif Nat.beq pc 413 then some (.aload_n 0, 414, [], 0, 0) else none) else (bif Nat.blt pc 417 then (bif Nat.beq pc 414 then some (.getfield 43, 417, [6, 21, 261, 1, 361], 0, 0) else none) else (bif Nat.beq pc 417 then some (.iload_n 3, 418, [], 0, 0) else none)))) else (bif Nat.blt pc 422 then (bif Nat.blt pc 419 then (bif Nat.beq pc 418 then some (.iaload, 419, [], 0, 0) else none) else (bif Nat.beq pc 419 then some (.ifCond .ge 7, 422, [426], 0, 0) else none)) else (bif Nat.blt pc 423 then (bif Nat.beq pc 422 then some (.iconst 1, 423, [], 1, 0) else none) else (bif Nat.blt pc 426 then (bif Nat.beq pc 423 then some (.goto 4, 426, [427], 0, 0) else none) else (bif Nat.beq pc 426 then some (.iconst 2, 427, [], 2, 0) else none))))) else (bif Nat.blt pc 434 then (bif Nat.blt pc 429 then (bif Nat.blt pc 428 then (bif Nat.beq pc 427 then some (.ireturn, 428, [0], 0, 0) else none) else (bif Nat.beq pc 428 then some (.aload_n 0, 429, [], 0, 0) else none)) else (bif Nat.blt pc 430 then (bif Nat.beq pc 429 then some (.aload_n 0, 430, [], 0, 0) else none) else (bif Nat.blt pc 433 then (bif Nat.beq pc 430 then some (.getfield 43, 433, [6, 21, 261, 1, 361], 0, 0) else none) else (bif Nat.beq pc 433 then some (.iload_n 3, 434, [], 0, 0) else none)))) else (bif Nat.blt pc 436 then (bif Nat.blt pc 435 then (bif Nat.beq pc 434 then some (.iaload, 435, [], 0, 0) else none) else (bif Nat.beq pc 435 then some (.aload_n 0, 436, [], 0, 0) else none)) else (bif Nat.blt pc 439 then (bif Nat.beq pc 436 then some (.getfield 46, 439, [6, 22, 262, 1, 362], 0, 0) else none) else (bif Nat.blt pc 441 then (bif Nat.beq pc 439 then some (.iload 4, 441, [], 0, 0) else none) else (bif Nat.beq pc 441 then some (.iaload, 442, [], 0, 0) else none)))))))) else (bif Nat.blt pc 503 then (bif Nat.blt pc 475 then (bif Nat.blt pc 459 then (bif Nat.blt pc 450 then (bif Nat.blt pc 448 then (bif Nat.blt pc 445 then (bif Nat.beq pc 442 then some (.invokevirtual 145, 445, [122], 0, 0) else none) else (bif Nat.beq pc 445 then some (.ifCond .ne 5, 448, [450], 0, 0) else none)) else (bif Nat.blt pc 449 then (bif Nat.beq pc 448 then some (.iconst 3, 449, [], 3, 0) else none) else (bif Nat.beq pc 449 then some (.ireturn, 450, [0], 0, 0) else none))) else (bif Nat.blt pc 454 then (bif Nat.blt pc 451 then (bif Nat.beq pc 450 then some (.aload_n 0, 451, [], 0, 0) else none) else (bif Nat.beq pc 451 then some (.getfield 43, 454, [6, 21, 261, 1, 361], 0, 0) else none)) else (bif Nat.blt pc 455 then (bif Nat.beq pc 454 then some (.iload_n 2, 455, [], 0, 0) else none) else (bif Nat.blt pc 456 then (bif Nat.beq pc 455 then some (.aload_n 0, 456, [], 0, 0) else none) else (bif Nat.beq pc 456 then some (.getfield 40, 459, [6, 20, 260, 1, 360], 0, 0) else none))))) else (bif Nat.blt pc 467 then (bif Nat.blt pc 462 then (bif Nat.blt pc 461 then (bif Nat.beq pc 459 then some (.bipush 20, 461, [], 20, 0) else none) else (bif Nat.beq pc 461 then some (.aload_n 0, 462, [], 0, 0) else none)) else (bif Nat.blt pc 465 then (bif Nat.beq pc 462 then some (.getfield 43, 465, [6, 21, 261, 1, 361], 0, 0) else none) else (bif Nat.blt pc 466 then (bif Nat.beq pc 465 then some (.iload_n 3, 466, [], 0, 0) else none) else (bif Nat.beq pc 466 then some (.iaload, 467, [], 0, 0) else none)))) else (bif Nat.blt pc 469 then (bif Nat.blt pc 468 then (bif Nat.beq pc 467 then some (.imul, 468, [], 0, 0) else none) else (bif Nat.beq pc 468 then some (.aload_n 0, 469, [], 0, 0) else none)) else (bif Nat.blt pc 472 then (bif Nat.beq pc 469 then some (.getfield 46, 472, [6, 22, 262, 1, 362], 0, 0) else none) else (bif Nat.blt pc 474 then (bif Nat.beq pc 472 then some (.iload 4, 474, [], 0, 0) else none) else (bif Nat.beq pc 474 then some (.iaload, 475, [], 0, 0) else none)))))) else (bif Nat.blt pc 485 then (bif Nat.blt pc 479 then (bif Nat.blt pc 477 then (bif Nat.blt pc 476 then (bif Nat.beq pc 475 then some (.iadd, 476, [], 0, 0) else none) else (bif Nat.beq pc 476 then some (.iaload, 477, [], 0, 0) else none)) else (bif Nat.blt pc 478 then (bif Nat.beq pc 477 then some (.iastore, 478, [], 0, 0) else none) else (bif Nat.beq pc 478 then some (.iconst 0, 479, [], 0, 0) else none))) else (bif Nat.blt pc 481 then (bif Nat.blt pc 480 then (bif Nat.beq pc 479 then some (.ireturn, 480, [0], 0, 0) else none) else (bif Nat.beq pc 480 then some (.aload_n 0, 481, [], 0, 0) else none)) else (bif Nat.blt pc 482 then (bif Nat.beq pc 481 then some (.iload_n 2, 482, [], 0, 0) else none) else (bif Nat.blt pc 483 then (bif Nat.beq pc 482 then some (.iload_n 3, 483, [], 0, 0) else none) else (bif Nat.beq pc 483 then some (.iload 4, 485, [], 0, 0) else none))))) else (bif Nat.blt pc 492 then (bif Nat.blt pc 489 then (bif Nat.blt pc 488 then (bif Nat.beq pc 485 then some (.invokevirtual 148, 488, [125], 0, 0) else none) else (bif Nat.beq pc 488 then some (.ireturn, 489, [0], 0, 0) else none)) else (bif Nat.blt pc 490 then (bif Nat.beq pc 489 then some (.aload_n 0, 490, [], 0, 0) else none) else (bif Nat.blt pc 491 then (bif Nat.beq pc 490 then some (.iload_n 3, 491, [], 0, 0) else none) else (bif Nat.beq pc 491 then some (.iconst 5, 492, [], 5, 0) else none)))) else (bif Nat.blt pc 498 then (bif Nat.blt pc 495 then (bif Nat.beq pc 492 then some (.invokevirtual 142, 495, [119], 0, 0) else none) else (bif Nat.beq pc 495 then some (.ifCond .ne 12, 498, [507], 0, 0) else none)) else (bif Nat.blt pc 499 then (bif Nat.beq pc 498 then some (.aload_n 0, 499, [], 0, 0) else none) else (bif Nat.blt pc 502 then (bif Nat.beq pc 499 then some (.getfield 43, 502, [6, 21, 261, 1, 361], 0, 0) else none) else (bif Nat.beq pc 502 then some (.iload_n 3, 503, [], 0, 0) else none))))))) else (bif Nat.blt pc 534 then (bif Nat.blt pc 520 then (bif Nat.blt pc 511 then (bif Nat.blt pc 507 then (bif Nat.blt pc 504 then (bif Nat.beq pc 503 then some (.iaload, 504, [], 0, 0) else none) else (bif Nat.beq pc 504 then some (.ifCond .ge 18, 507, [522], 0, 0) else none)) else (bif Nat.blt pc 508 then (bif Nat.beq pc 507 then some (.aload_n 0, 508, [], 0, 0) else none) else (bif Nat.beq pc 508 then some (.getfield 43, 511, [6, 21, 261, 1, 361], 0, 0) else none))) else (bif Nat.blt pc 513 then (bif Nat.blt pc 512 then (bif Nat.beq pc 511 then some (.iload_n 3, 512, [], 0, 0) else none) else (bif Nat.beq pc 512 then some (.iaload, 513, [], 0, 0) else none)) else (bif Nat.blt pc 516 then (bif Nat.beq pc 513 then some (.ifCond .ge 7, 516, [520], 0, 0) else none) else (bif Nat.blt pc 517 then (bif Nat.beq pc 516 then some (.iconst 1, 517, [], 1, 0) else none) else (bif Nat.beq pc 517 then some (.goto 4, 520, [521], 0, 0) else none))))) else (bif Nat.blt pc 527 then (bif Nat.blt pc 522 then (bif Nat.blt pc 521 then (bif Nat.beq pc 520 then some (.iconst 2, 521, [], 2, 0) else none) else (bif Nat.beq pc 521 then some (.ireturn, 522, [0], 0, 0) else none)) else (bif Nat.blt pc 523 then (bif Nat.beq pc 522 then some (.aload_n 0, 523, [], 0, 0) else none) else (bif Nat.blt pc 526 then (bif Nat.beq pc 523 then some (.getfield 46, 526, [6, 22, 262, 1, 362], 0, 0) else none) else (bif Nat.beq pc 526 then some (.iload_n 2, 527, [], 0, 0) else none)))) else (bif Nat.blt pc 529 then (bif Nat.blt pc 528 then (bif Nat.beq pc 527 then some (.aload_n 0, 528, [], 0, 0) else none) else (bif Nat.beq pc 528 then some (.aload_n 0, 529, [], 0, 0) else none)) else (bif Nat.blt pc 532 then (bif Nat.beq pc 529 then some (.getfield 43, 532, [6, 21, 261, 1, 361], 0, 0) else none) else (bif Nat.blt pc 533 then (bif Nat.beq pc 532 then some (.iload_n 3, 533, [], 0, 0) else none) else (bif Nat.beq pc 533 then some (.iaload, 534, [], 0, 0) else none)))))) else (bif Nat.blt pc 553 then (bif Nat.blt pc 542 then (bif Nat.blt pc 538 then (bif Nat.blt pc 535 then (bif Nat.beq pc 534 then some (.aload_n 0, 535, [], 0, 0) else none) else (bif Nat.beq pc 535 then some (.getfield 7, 538, [6, 2, 242, 1, 342], 0, 0) else none)) else (bif Nat.blt pc 539 then (bif Nat.beq pc 538 then some (.iload_n 1, 539, [], 0, 0) else none) else (bif Nat.blt pc 540 then (bif Nat.beq pc 539 then some (.iaload, 540, [], 0, 0) else none) else (bif Nat.beq pc 540 then some (.bipush 12, 542, [], 12, 0) else none)))) else (bif Nat.blt pc 546 then (bif Nat.blt pc 545 then (bif Nat.beq pc 542 then some (.if_icmp .ne 7, 545, [549], 0, 0) else none) else (bif Nat.beq pc 545 then some (.iconst 1, 546, [], 1, 0) else none)) else (bif Nat.blt pc 549 then (bif Nat.beq pc 546 then some (.goto 4, 549, [550], 0, 0) else none) else (bif Nat.blt pc 550 then (bif Nat.beq pc 549 then some (.iconst 0, 550, [], 0, 0) else none) else (bif Nat.beq pc 550 then some (.invokevirtual 152, 553, [124], 0, 0) else none))))) else (bif Nat.blt pc 558 then (bif Nat.blt pc 555 then (bif Nat.blt pc 554 then (bif Nat.beq pc 553 then some (.iastore, 554, [], 0, 0) else none) else (bif Nat.beq pc 554 then some (.iconst 0, 555, [], 0, 0) else none)) else (bif Nat.blt pc 556 then (bif Nat.beq pc 555 then some (.ireturn, 556, [0], 0, 0) else none) else (bif Nat.blt pc 557 then (bif Nat.beq pc 556 then some (.aload_n 0, 557, [], 0, 0) else none) else (bif Nat.beq pc 557 then some (.iload_n 1, 558, [], 0, 0) else none)))) else (bif Nat.blt pc 560 then (bif Nat.blt pc 559 then (bif Nat.beq pc 558 then some (.iload_n 2, 559, [], 0, 0) else none) else (bif Nat.beq pc 559 then some (.iload_n 3, 560, [], 0, 0) else none)) else (bif Nat.blt pc 562 then (bif Nat.beq pc 560 then some (.iload 4, 562, [], 0, 0) else none) else (bif Nat.blt pc 565 then (bif Nat.beq pc 562 then some (.invokevirtual 156, 565, [126], 0, 0) else none) else (bif Nat.beq pc 565 then some (.ireturn, 566, [0], 0, 0) else none))))))))))
def k_X6_tag (pc : Nat) : Option mE := (bif Nat.blt pc 29 then (bif Nat.blt pc 15 then (bif Nat.blt pc 6 then (bif Nat.blt pc 4 then (bif Nat.blt pc 1 then (bif Nat.beq pc 0 then some (.aload_n 0, 1, [], 0, 0) else none) else (bif Nat.beq pc 1 then some (.getfield 31, 4, [6, 17, 257, 1, 357], 0, 0) else none)) else (bif Nat.blt pc 5 then (bif Nat.beq pc 4 then some (.iload_n 1, 5, [], 0, 0) else none) else (bif Nat.beq pc 5 then some (.iaload, 6, [], 0, 0) else none))) else (bif Nat.blt pc 10 then (bif Nat.blt pc 7 then (bif Nat.beq pc 6 then some (.iconst 2, 7, [], 2, 0) else none) else (bif Nat.beq pc 7 then some (.if_icmp .ne 8, 10, [15], 0, 0) else none)) else (bif Nat.blt pc 12 then (bif Nat.beq pc 10 then some (.bipush 100, 12, [], 100, 0) else none) else (bif Nat.beq pc 12 then some (.goto 6, 15, [18], 0, 0) else none)))) else (bif Nat.blt pc 21 then (bif Nat.blt pc 19 then (bif Nat.blt pc 18 then (bif Nat.beq pc 15 then some (.sipush 200, 18, [], 200, 0) else none) else (bif Nat.beq pc 18 then some (.iload_n 1, 19, [], 0, 0) else none)) else (bif Nat.blt pc 20 then (bif Nat.beq pc 19 then some (.iadd, 20, [], 0, 0) else none) else (bif Nat.beq pc 20 then some (.istore_n 3, 21, [], 0, 0) else none))) else (bif Nat.blt pc 25 then (bif Nat.blt pc 22 then (bif Nat.beq pc 21 then some (.iload_n 2, 22, [], 0, 0) else none) else (bif Nat.beq pc 22 then some (.ifCond .ne 7, 25, [29], 0, 0) else none)) else (bif Nat.blt pc 26 then (bif Nat.beq pc 25 then some (.iload_n 3, 26, [], 0, 0) else none) else (bif Nat.beq pc 26 then some (.goto 24, 29, [50], 0, 0) else none))))) else (bif Nat.blt pc 41 then (bif Nat.blt pc 35 then (bif Nat.blt pc 33 then (bif Nat.blt pc 30 then (bif Nat.beq pc 29 then some (.aload_n 0, 30, [], 0, 0) else none) else (bif Nat.beq pc 30 then some (.getfield 31, 33, [6, 17, 257, 1, 357], 0, 0) else none)) else (bif Nat.blt pc 34 then (bif Nat.beq pc 33 then some (.iload_n 1, 34, [], 0, 0) else none) else (bif Nat.beq pc 34 then some (.iaload, 35, [], 0, 0) else none))) else (bif Nat.blt pc 39 then (bif Nat.blt pc 36 then (bif Nat.beq pc 35 then some (.iconst 2, 36, [], 2, 0) else none) else (bif Nat.beq pc 36 then some (.if_icmp .ne 9, 39, [45], 0, 0) else none)) else (bif Nat.blt pc 40 then (bif Nat.beq pc 39 then some (.iconst 2, 40, [], 2, 0) else none) else (bif Nat.beq pc 40 then some (.iload_n 3, 41, [], 0, 0) else none)))) else (bif Nat.blt pc 47 then (bif Nat.blt pc 45 then (bif Nat.blt pc 42 then (bif Nat.beq pc 41 then some (.imul, 42, [], 0, 0) else none) else (bif Nat.beq pc 42 then some (.goto 8, 45, [50], 0, 0) else none)) else (bif Nat.blt pc 46 then (bif Nat.beq pc 45 then some (.iconst 2, 46, [], 2, 0) else none) else (bif Nat.beq pc 46 then some (.iload_n 3, 47, [], 0, 0) else none))) else (bif Nat.blt pc 49 then (bif Nat.blt pc 48 then (bif Nat.beq pc 47 then some (.imul, 48, [], 0, 0) else none) else (bif Nat.beq pc 48 then some (.iconst 1, 49, [], 1, 0) else none)) else (bif Nat.blt pc 50 then (bif Nat.beq pc 49 then some (.iadd, 50, [], 0, 0) else none) else (bif Nat.beq pc 50 then some (.ireturn, 51, [0], 0, 0) else none))))))
def k_X6_store (pc : Nat) : Option mE := (bif Nat.blt pc 55 then (bif Nat.blt pc 30 then (bif Nat.blt pc 13 then (bif Nat.blt pc 7 then (bif Nat.blt pc 2 then (bif Nat.blt pc 1 then (bif Nat.beq pc 0 then some (.aload_n 0, 1, [], 0, 0) else none) else (bif Nat.beq pc 1 then some (.iload_n 1, 2, [], 0, 0) else none)) else (bif Nat.blt pc 4 then (bif Nat.beq pc 2 then some (.bipush 8, 4, [], 8, 0) else none) else (bif Nat.beq pc 4 then some (.invokevirtual 142, 7, [119], 0, 0) else none))) else (bif Nat.blt pc 11 then (bif Nat.blt pc 10 then (bif Nat.beq pc 7 then some (.ifCond .ne 12, 10, [19], 0, 0) else none) else (bif Nat.beq pc 10 then some (.aload_n 0, 11, [], 0, 0) else none)) else (bif Nat.blt pc 12 then (bif Nat.beq pc 11 then some (.iload_n 2, 12, [], 0, 0) else none) else (bif Nat.beq pc 12 then some (.iconst 1, 13, [], 1, 0) else none)))) else (bif Nat.blt pc 21 then (bif Nat.blt pc 19 then (bif Nat.blt pc 16 then (bif Nat.beq pc 13 then some (.invokevirtual 142, 16, [119], 0, 0) else none) else (bif Nat.beq pc 16 then some (.ifCond .eq 5, 19, [21], 0, 0) else none)) else (bif Nat.blt pc 20 then (bif Nat.beq pc 19 then some (.iconst 2, 20, [], 2, 0) else none) else (bif Nat.beq pc 20 then some (.ireturn, 21, [0], 0, 0) else none))) else (bif Nat.blt pc 25 then (bif Nat.blt pc 22 then (bif Nat.beq pc 21 then some (.aload_n 0, 22, [], 0, 0) else none) else (bif Nat.beq pc 22 then some (.getfield 43, 25, [6, 21, 261, 1, 361], 0, 0) else none)) else (bif Nat.blt pc 26 then (bif Nat.beq pc 25 then some (.iload_n 1, 26, [], 0, 0) else none) else (bif Nat.blt pc 27 then (bif Nat.beq pc 26 then some (.iaload, 27, [], 0, 0) else none) else (bif Nat.beq pc 27 then some (.ifCond .ge 5, 30, [32], 0, 0) else none)))))) else (bif Nat.blt pc 40 then (bif Nat.blt pc 34 then (bif Nat.blt pc 32 then (bif Nat.blt pc 31 then (bif Nat.beq pc 30 then some (.iconst 1, 31, [], 1, 0) else none) else (bif Nat.beq pc 31 then some (.ireturn, 32, [0], 0, 0) else none)) else (bif Nat.blt pc 33 then (bif Nat.beq pc 32 then some (.aload_n 0, 33, [], 0, 0) else none) else (bif Nat.beq pc 33 then some (.aload_n 0, 34, [], 0, 0) else none))) else (bif Nat.blt pc 38 then (bif Nat.blt pc 37 then (bif Nat.beq pc 34 then some (.getfield 43, 37, [6, 21, 261, 1, 361], 0, 0) else none) else (bif Nat.beq pc 37 then some (.iload_n 1, 38, [], 0, 0) else none)) else (bif Nat.blt pc 39 then (bif Nat.beq pc 38 then some (.iaload, 39, [], 0, 0) else none) else (bif Nat.beq pc 39 then some (.aload_n 0, 40, [], 0, 0) else none)))) else (bif Nat.blt pc 48 then (bif Nat.blt pc 44 then (bif Nat.blt pc 43 then (bif Nat.beq pc 40 then some (.getfield 46, 43, [6, 22, 262, 1, 362], 0, 0) else none) else (bif Nat.beq pc 43 then some (.iload_n 3, 44, [], 0, 0) else none)) else (bif Nat.blt pc 45 then (bif Nat.beq pc 44 then some (.iaload, 45, [], 0, 0) else none) else (bif Nat.beq pc 45 then some (.invokevirtual 145, 48, [122], 0, 0) else none))) else (bif Nat.blt pc 52 then (bif Nat.blt pc 51 then (bif Nat.beq pc 48 then some (.ifCond .ne 5, 51, [53], 0, 0) else none) else (bif Nat.beq pc 51 then some (.iconst 3, 52, [], 3, 0) else none)) else (bif Nat.blt pc 53 then (bif Nat.beq pc 52 then some (.ireturn, 53, [0], 0, 0) else none) else (bif Nat.blt pc 54 then (bif Nat.beq pc 53 then some (.aload_n 0, 54, [], 0, 0) else none) else (bif Nat.beq pc 54 then some (.iload_n 1, 55, [], 0, 0) else none))))))) else (bif Nat.blt pc 87 then (bif Nat.blt pc 72 then (bif Nat.blt pc 64 then (bif Nat.blt pc 60 then (bif Nat.blt pc 58 then (bif Nat.beq pc 55 then some (.invokevirtual 139, 58, [118], 0, 0) else none) else (bif Nat.beq pc 58 then some (.bipush 8, 60, [], 8, 0) else none)) else (bif Nat.blt pc 63 then (bif Nat.beq pc 60 then some (.if_icmp .ne 23, 63, [83], 0, 0) else none) else (bif Nat.beq pc 63 then some (.aload_n 0, 64, [], 0, 0) else none))) else (bif Nat.blt pc 68 then (bif Nat.blt pc 65 then (bif Nat.beq pc 64 then some (.iload_n 2, 65, [], 0, 0) else none) else (bif Nat.beq pc 65 then some (.invokevirtual 139, 68, [118], 0, 0) else none)) else (bif Nat.blt pc 69 then (bif Nat.beq pc 68 then some (.iconst 1, 69, [], 1, 0) else none) else (bif Nat.beq pc 69 then some (.if_icmp .eq 12, 72, [81], 0, 0) else none)))) else (bif Nat.blt pc 78 then (bif Nat.blt pc 74 then (bif Nat.blt pc 73 then (bif Nat.beq pc 72 then some (.aload_n 0, 73, [], 0, 0) else none) else (bif Nat.beq pc 73 then some (.iload_n 2, 74, [], 0, 0) else none)) else (bif Nat.blt pc 77 then (bif Nat.beq pc 74 then some (.invokevirtual 139, 77, [118], 0, 0) else none) else (bif Nat.beq pc 77 then some (.iconst 2, 78, [], 2, 0) else none))) else (bif Nat.blt pc 82 then (bif Nat.blt pc 81 then (bif Nat.beq pc 78 then some (.if_icmp .ne 5, 81, [83], 0, 0) else none) else (bif Nat.beq pc 81 then some (.iconst 4, 82, [], 4, 0) else none)) else (bif Nat.blt pc 83 then (bif Nat.beq pc 82 then some (.ireturn, 83, [0], 0, 0) else none) else (bif Nat.blt pc 84 then (bif Nat.beq pc 83 then some (.aload_n 0, 84, [], 0, 0) else none) else (bif Nat.beq pc 84 then some (.getfield 40, 87, [6, 20, 260, 1, 360], 0, 0) else none)))))) else (bif Nat.blt pc 101 then (bif Nat.blt pc 94 then (bif Nat.blt pc 90 then (bif Nat.blt pc 89 then (bif Nat.beq pc 87 then some (.bipush 20, 89, [], 20, 0) else none) else (bif Nat.beq pc 89 then some (.aload_n 0, 90, [], 0, 0) else none)) else (bif Nat.blt pc 93 then (bif Nat.beq pc 90 then some (.getfield 43, 93, [6, 21, 261, 1, 361], 0, 0) else none) else (bif Nat.beq pc 93 then some (.iload_n 1, 94, [], 0, 0) else none))) else (bif Nat.blt pc 96 then (bif Nat.blt pc 95 then (bif Nat.beq pc 94 then some (.iaload, 95, [], 0, 0) else none) else (bif Nat.beq pc 95 then some (.imul, 96, [], 0, 0) else none)) else (bif Nat.blt pc 97 then (bif Nat.beq pc 96 then some (.aload_n 0, 97, [], 0, 0) else none) else (bif Nat.blt pc 100 then (bif Nat.beq pc 97 then some (.getfield 46, 100, [6, 22, 262, 1, 362], 0, 0) else none) else (bif Nat.beq pc 100 then some (.iload_n 3, 101, [], 0, 0) else none))))) else (bif Nat.blt pc 107 then (bif Nat.blt pc 103 then (bif Nat.blt pc 102 then (bif Nat.beq pc 101 then some (.iaload, 102, [], 0, 0) else none) else (bif Nat.beq pc 102 then some (.iadd, 103, [], 0, 0) else none)) else (bif Nat.blt pc 104 then (bif Nat.beq pc 103 then some (.aload_n 0, 104, [], 0, 0) else none) else (bif Nat.beq pc 104 then some (.getfield 43, 107, [6, 21, 261, 1, 361], 0, 0) else none))) else (bif Nat.blt pc 109 then (bif Nat.blt pc 108 then (bif Nat.beq pc 107 then some (.iload_n 2, 108, [], 0, 0) else none) else (bif Nat.beq pc 108 then some (.iaload, 109, [], 0, 0) else none)) else (bif Nat.blt pc 110 then (bif Nat.beq pc 109 then some (.iastore, 110, [], 0, 0) else none) else (bif Nat.blt pc 111 then (bif Nat.beq pc 110 then some (.iconst 0, 111, [], 0, 0) else none) else (bif Nat.beq pc 111 then some (.ireturn, 112, [0], 0, 0) else none))))))))
def k_X6_doOther (pc : Nat) : Option mE := (bif Nat.blt pc 237 then (bif Nat.blt pc 145 then (bif Nat.blt pc 98 then (bif Nat.blt pc 74 then (bif Nat.blt pc 61 then (bif Nat.blt pc 5 then (bif Nat.blt pc 1 then (bif Nat.beq pc 0 then some (.aload_n 0, 1, [], 0, 0) else none) else (bif Nat.blt pc 4 then (bif Nat.beq pc 1 then some (.getfield 7, 4, [6, 2, 242, 1, 342], 0, 0) else none) else (bif Nat.beq pc 4 then some (.iload_n 1, 5, [], 0, 0) else none))) else (bif Nat.blt pc 6 then (bif Nat.beq pc 5 then some (.iaload, 6, [], 0, 0) else none) else (bif Nat.blt pc 60 then (bif Nat.beq pc 6 then some (.tableswitch 381 13 22 #[54, 106, 192, 277, 286, 303, 332, 362, 369, 372], 60, [387, 60, 112, 198, 283, 292, 309, 338, 368, 375, 378], 0, 0) else none) else (bif Nat.beq pc 60 then some (.aload_n 0, 61, [], 0, 0) else none)))) else (bif Nat.blt pc 66 then (bif Nat.blt pc 64 then (bif Nat.beq pc 61 then some (.getfield 43, 64, [6, 21, 261, 1, 361], 0, 0) else none) else (bif Nat.blt pc 65 then (bif Nat.beq pc 64 then some (.iload_n 3, 65, [], 0, 0) else none) else (bif Nat.beq pc 65 then some (.iaload, 66, [], 0, 0) else none))) else (bif Nat.blt pc 70 then (bif Nat.blt pc 69 then (bif Nat.beq pc 66 then some (.ifCond .lt 12, 69, [78], 0, 0) else none) else (bif Nat.beq pc 69 then some (.aload_n 0, 70, [], 0, 0) else none)) else (bif Nat.blt pc 71 then (bif Nat.beq pc 70 then some (.iload_n 3, 71, [], 0, 0) else none) else (bif Nat.beq pc 71 then some (.invokevirtual 139, 74, [118], 0, 0) else none))))) else (bif Nat.blt pc 87 then (bif Nat.blt pc 79 then (bif Nat.blt pc 75 then (bif Nat.beq pc 74 then some (.iconst 5, 75, [], 5, 0) else none) else (bif Nat.blt pc 78 then (bif Nat.beq pc 75 then some (.if_icmp .ge 18, 78, [93], 0, 0) else none) else (bif Nat.beq pc 78 then some (.aload_n 0, 79, [], 0, 0) else none))) else (bif Nat.blt pc 83 then (bif Nat.blt pc 82 then (bif Nat.beq pc 79 then some (.getfield 43, 82, [6, 21, 261, 1, 361], 0, 0) else none) else (bif Nat.beq pc 82 then some (.iload_n 3, 83, [], 0, 0) else none)) else (bif Nat.blt pc 84 then (bif Nat.beq pc 83 then some (.iaload, 84, [], 0, 0) else none) else (bif Nat.beq pc 84 then some (.ifCond .ge 7, 87, [91], 0, 0) else none)))) else (bif Nat.blt pc 92 then (bif Nat.blt pc 88 then (bif Nat.beq pc 87 then some (.iconst 1, 88, [], 1, 0) else none) else (bif Nat.blt pc 91 then (bif Nat.beq pc 88 then some (.goto 4, 91, [92], 0, 0) else none) else (bif Nat.beq pc 91 then some (.iconst 2, 92, [], 2, 0) else none))) else (bif Nat.blt pc 94 then (bif Nat.blt pc 93 then (bif Nat.beq pc 92 then some (.ireturn, 93, [0], 0, 0) else none) else (bif Nat.beq pc 93 then some (.aload_n 0, 94, [], 0, 0) else none)) else (bif Nat.blt pc 97 then (bif Nat.beq pc 94 then some (.getfield 46, 97, [6, 22, 262, 1, 362], 0, 0) else none) else (bif Nat.beq pc 97 then some (.iload_n 2, 98, [], 0, 0) else none)))))) else (bif Nat.blt pc 119 then (bif Nat.blt pc 109 then (bif Nat.blt pc 103 then (bif Nat.blt pc 99 then (bif Nat.beq pc 98 then some (.aload_n 0, 99, [], 0, 0) else none) else (bif Nat.blt pc 102 then (bif Nat.beq pc 99 then some (.getfield 37, 102, [6, 19, 259, 1, 359], 0, 0) else none) else (bif Nat.beq pc 102 then some (.aload_n 0, 103, [], 0, 0) else none))) else (bif Nat.blt pc 107 then (bif Nat.blt pc 106 then (bif Nat.beq pc 103 then some (.getfield 43, 106, [6, 21, 261, 1, 361], 0, 0) else none) else (bif Nat.beq pc 106 then some (.iload_n 3, 107, [], 0, 0) else none)) else (bif Nat.blt pc 108 then (bif Nat.beq pc 107 then some (.iaload, 108, [], 0, 0) else none) else (bif Nat.beq pc 108 then some (.iaload, 109, [], 0, 0) else none)))) else (bif Nat.blt pc 112 then (bif Nat.blt pc 110 then (bif Nat.beq pc 109 then some (.iastore, 110, [], 0, 0) else none) else (bif Nat.blt pc 111 then (bif Nat.beq pc 110 then some (.iconst 0, 111, [], 0, 0) else none) else (bif Nat.beq pc 111 then some (.ireturn, 112, [0], 0, 0) else none))) else (bif Nat.blt pc 114 then (bif Nat.blt pc 113 then (bif Nat.beq pc 112 then some (.aload_n 0, 113, [], 0, 0) else none) else (bif Nat.beq pc 113 then some (.iload_n 3, 114, [], 0, 0) else none)) else (bif Nat.blt pc 116 then (bif Nat.beq pc 114 then some (.bipush 6, 116, [], 6, 0) else none) else (bif Nat.beq pc 116 then some (.invokevirtual 142, 119, [119], 0, 0) else none))))) else (bif Nat.blt pc 132 then (bif Nat.blt pc 126 then (bif Nat.blt pc 122 then (bif Nat.beq pc 119 then some (.ifCond .ne 12, 122, [131], 0, 0) else none) else (bif Nat.blt pc 123 then (bif Nat.beq pc 122 then some (.aload_n 0, 123, [], 0, 0) else none) else (bif Nat.beq pc 123 then some (.getfield 43, 126, [6, 21, 261, 1, 361], 0, 0) else none))) else (bif Nat.blt pc 128 then (bif Nat.blt pc 127 then (bif Nat.beq pc 126 then some (.iload_n 3, 127, [], 0, 0) else none) else (bif Nat.beq pc 127 then some (.iaload, 128, [], 0, 0) else none)) else (bif Nat.blt pc 131 then (bif Nat.beq pc 128 then some (.ifCond .ge 18, 131, [146], 0, 0) else none) else (bif Nat.beq pc 131 then some (.aload_n 0, 132, [], 0, 0) else none)))) else (bif Nat.blt pc 137 then (bif Nat.blt pc 135 then (bif Nat.beq pc 132 then some (.getfield 43, 135, [6, 21, 261, 1, 361], 0, 0) else none) else (bif Nat.blt pc 136 then (bif Nat.beq pc 135 then some (.iload_n 3, 136, [], 0, 0) else none) else (bif Nat.beq pc 136 then some (.iaload, 137, [], 0, 0) else none))) else (bif Nat.blt pc 141 then (bif Nat.blt pc 140 then (bif Nat.beq pc 137 then some (.ifCond .ge 7, 140, [144], 0, 0) else none) else (bif Nat.beq pc 140 then some (.iconst 1, 141, [], 1, 0) else none)) else (bif Nat.blt pc 144 then (bif Nat.beq pc 141 then some (.goto 4, 144, [145], 0, 0) else none) else (bif Nat.beq pc 144 then some (.iconst 2, 145, [], 2, 0) else none))))))) else (bif Nat.blt pc 192 then (bif Nat.blt pc 168 then (bif Nat.blt pc 154 then (bif Nat.blt pc 148 then (bif Nat.blt pc 146 then (bif Nat.beq pc 145 then some (.ireturn, 146, [0], 0, 0) else none) else (bif Nat.blt pc 147 then (bif Nat.beq pc 146 then some (.aload_n 0, 147, [], 0, 0) else none) else (bif Nat.beq pc 147 then some (.aload_n 0, 148, [], 0, 0) else none))) else (bif Nat.blt pc 152 then (bif Nat.blt pc 151 then (bif Nat.beq pc 148 then some (.getfield 43, 151, [6, 21, 261, 1, 361], 0, 0) else none) else (bif Nat.beq pc 151 then some (.iload_n 3, 152, [], 0, 0) else none)) else (bif Nat.blt pc 153 then (bif Nat.beq pc 152 then some (.iaload, 153, [], 0, 0) else none) else (bif Nat.beq pc 153 then some (.aload_n 0, 154, [], 0, 0) else none)))) else (bif Nat.blt pc 160 then (bif Nat.blt pc 157 then (bif Nat.beq pc 154 then some (.getfield 46, 157, [6, 22, 262, 1, 362], 0, 0) else none) else (bif Nat.blt pc 159 then (bif Nat.beq pc 157 then some (.iload 4, 159, [], 0, 0) else none) else (bif Nat.beq pc 159 then some (.iaload, 160, [], 0, 0) else none))) else (bif Nat.blt pc 166 then (bif Nat.blt pc 163 then (bif Nat.beq pc 160 then some (.invokevirtual 145, 163, [122], 0, 0) else none) else (bif Nat.beq pc 163 then some (.ifCond .ne 5, 166, [168], 0, 0) else none)) else (bif Nat.blt pc 167 then (bif Nat.beq pc 166 then some (.iconst 3, 167, [], 3, 0) else none) else (bif Nat.beq pc 167 then some (.ireturn, 168, [0], 0, 0) else none))))) else (bif Nat.blt pc 180 then (bif Nat.blt pc 173 then (bif Nat.blt pc 169 then (bif Nat.beq pc 168 then some (.aload_n 0, 169, [], 0, 0) else none) else (bif Nat.blt pc 172 then (bif Nat.beq pc 169 then some (.getfield 46, 172, [6, 22, 262, 1, 362], 0, 0) else none) else (bif Nat.beq pc 172 then some (.iload_n 2, 173, [], 0, 0) else none))) else (bif Nat.blt pc 177 then (bif Nat.blt pc 174 then (bif Nat.beq pc 173 then some (.aload_n 0, 174, [], 0, 0) else none) else (bif Nat.beq pc 174 then some (.getfield 40, 177, [6, 20, 260, 1, 360], 0, 0) else none)) else (bif Nat.blt pc 179 then (bif Nat.beq pc 177 then some (.bipush 20, 179, [], 20, 0) else none) else (bif Nat.beq pc 179 then some (.aload_n 0, 180, [], 0, 0) else none)))) else (bif Nat.blt pc 185 then (bif Nat.blt pc 183 then (bif Nat.beq pc 180 then some (.getfield 43, 183, [6, 21, 261, 1, 361], 0, 0) else none) else (bif Nat.blt pc 184 then (bif Nat.beq pc 183 then some (.iload_n 3, 184, [], 0, 0) else none) else (bif Nat.beq pc 184 then some (.iaload, 185, [], 0, 0) else none))) else (bif Nat.blt pc 187 then (bif Nat.blt pc 186 then (bif Nat.beq pc 185 then some (.imul, 186, [], 0, 0) else none) else (bif Nat.beq pc 186 then some (.aload_n 0, 187, [], 0, 0) else none)) else (bif Nat.blt pc 190 then (bif Nat.beq pc 187 then some (.getfield 46, 190, [6, 22, 262, 1, 362], 0, 0) else none) else (bif Nat.beq pc 190 then some (.iload 4, 192, [], 0, 0) else none)))))) else (bif Nat.blt pc 213 then (bif Nat.blt pc 199 then (bif Nat.blt pc 195 then (bif Nat.blt pc 193 then (bif Nat.beq pc 192 then some (.iaload, 193, [], 0, 0) else none) else (bif Nat.blt pc 194 then (bif Nat.beq pc 193 then some (.iadd, 194, [], 0, 0) else none) else (bif Nat.beq pc 194 then some (.iaload, 195, [], 0, 0) else none))) else (bif Nat.blt pc 197 then (bif Nat.blt pc 196 then (bif Nat.beq pc 195 then some (.iastore, 196, [], 0, 0) else none) else (bif Nat.beq pc 196 then some (.iconst 0, 197, [], 0, 0) else none)) else (bif Nat.blt pc 198 then (bif Nat.beq pc 197 then some (.ireturn, 198, [0], 0, 0) else none) else (bif Nat.beq pc 198 then some (.aload_n 0, 199, [], 0, 0) else none)))) else (bif Nat.blt pc 205 then (bif Nat.blt pc 200 then (bif Nat.beq pc 199 then some (.iload_n 2, 200, [], 0, 0) else none) else (bif Nat.blt pc 202 then (bif Nat.beq pc 200 then some (.bipush 6, 202, [], 6, 0) else none) else (bif Nat.beq pc 202 then some (.invokevirtual 142, 205, [119], 0, 0) else none))) else (bif Nat.blt pc 209 then (bif Nat.blt pc 208 then (bif Nat.beq pc 205 then some (.ifCond .ne 12, 208, [217], 0, 0) else none) else (bif Nat.beq pc 208 then some (.aload_n 0, 209, [], 0, 0) else none)) else (bif Nat.blt pc 212 then (bif Nat.beq pc 209 then some (.getfield 43, 212, [6, 21, 261, 1, 361], 0, 0) else none) else (bif Nat.beq pc 212 then some (.iload_n 2, 213, [], 0, 0) else none))))) else (bif Nat.blt pc 226 then (bif Nat.blt pc 218 then (bif Nat.blt pc 214 then (bif Nat.beq pc 213 then some (.iaload, 214, [], 0, 0) else none) else (bif Nat.blt pc 217 then (bif Nat.beq pc 214 then some (.ifCond .ge 18, 217, [232], 0, 0) else none) else (bif Nat.beq pc 217 then some (.aload_n 0, 218, [], 0, 0) else none))) else (bif Nat.blt pc 222 then (bif Nat.blt pc 221 then (bif Nat.beq pc 218 then some (.getfield 43, 221, [6, 21, 261, 1, 361], 0, 0) else none) else (bif Nat.beq pc 221 then some (.iload_n 2, 222, [], 0, 0) else none)) else (bif Nat.blt pc 223 then (bif Nat.beq pc 222 then some (.iaload, 223, [], 0, 0) else none) else (bif Nat.beq pc 223 then some (.ifCond .ge 7, 226, [230], 0, 0) else none)))) else (bif Nat.blt pc 231 then (bif Nat.blt pc 227 then (bif Nat.beq pc 226 then some (.iconst 1, 227, [], 1, 0) else none) else (bif Nat.blt pc 230 then (bif Nat.beq pc 227 then some (.goto 4, 230, [231], 0, 0) else none) else (bif Nat.beq pc 230 then some (.iconst 2, 231, [], 2, 0) else none))) else (bif Nat.blt pc 233 then (bif Nat.blt pc 232 then (bif Nat.beq pc 231 then some (.ireturn, 232, [0], 0, 0) else none) else (bif Nat.beq pc 232 then some (.aload_n 0, 233, [], 0, 0) else none)) else (bif Nat.blt pc 234 then (bif Nat.beq pc 233 then some (.aload_n 0, 234, [], 0, 0) else none) else (bif Nat.beq pc 234 then some (.getfield 43, 237, [6, 21, 261, 1, 361], 0, 0) else none)))))))) else (bif Nat.blt pc 318 then (bif Nat.blt pc 280 then (bif Nat.blt pc 259 then (bif Nat.blt pc 245 then (bif Nat.blt pc 240 then (bif Nat.blt pc 238 then (bif Nat.beq pc 237 then some (.iload_n 2, 238, [], 0, 0) else none) else (bif Nat.blt pc 239 then (bif Nat.beq pc 238 then some (.iaload, 239, [], 0, 0) else none) else (bif Nat.beq pc 239 then some (.aload_n 0, 240, [], 0, 0) else none))) else (bif Nat.blt pc 243 then (bif Nat.beq pc 240 then some (.getfield 46, 243, [6, 22, 262, 1, 362], 0, 0) else none) else (bif Nat.blt pc 244 then (bif Nat.beq pc 243 then some (.iload_n 3, 244, [], 0, 0) else none) else (bif Nat.beq pc 244 then some (.iaload, 245, [], 0, 0) else none)))) else (bif Nat.blt pc 252 then (bif Nat.blt pc 248 then (bif Nat.beq pc 245 then some (.invokevirtual 145, 248, [122], 0, 0) else none) else (bif Nat.blt pc 251 then (bif Nat.beq pc 248 then some (.ifCond .ne 5, 251, [253], 0, 0) else none) else (bif Nat.beq pc 251 then some (.iconst 3, 252, [], 3, 0) else none))) else (bif Nat.blt pc 254 then (bif Nat.blt pc 253 then (bif Nat.beq pc 252 then some (.ireturn, 253, [0], 0, 0) else none) else (bif Nat.beq pc 253 then some (.aload_n 0, 254, [], 0, 0) else none)) else (bif Nat.blt pc 257 then (bif Nat.beq pc 254 then some (.getfield 40, 257, [6, 20, 260, 1, 360], 0, 0) else none) else (bif Nat.beq pc 257 then some (.bipush 20, 259, [], 20, 0) else none))))) else (bif Nat.blt pc 270 then (bif Nat.blt pc 264 then (bif Nat.blt pc 260 then (bif Nat.beq pc 259 then some (.aload_n 0, 260, [], 0, 0) else none) else (bif Nat.blt pc 263 then (bif Nat.beq pc 260 then some (.getfield 43, 263, [6, 21, 261, 1, 361], 0, 0) else none) else (bif Nat.beq pc 263 then some (.iload_n 2, 264, [], 0, 0) else none))) else (bif Nat.blt pc 266 then (bif Nat.blt pc 265 then (bif Nat.beq pc 264 then some (.iaload, 265, [], 0, 0) else none) else (bif Nat.beq pc 265 then some (.imul, 266, [], 0, 0) else none)) else (bif Nat.blt pc 267 then (bif Nat.beq pc 266 then some (.aload_n 0, 267, [], 0, 0) else none) else (bif Nat.beq pc 267 then some (.getfield 46, 270, [6, 22, 262, 1, 362], 0, 0) else none)))) else (bif Nat.blt pc 273 then (bif Nat.blt pc 271 then (bif Nat.beq pc 270 then some (.iload_n 3, 271, [], 0, 0) else none) else (bif Nat.blt pc 272 then (bif Nat.beq pc 271 then some (.iaload, 272, [], 0, 0) else none) else (bif Nat.beq pc 272 then some (.iadd, 273, [], 0, 0) else none))) else (bif Nat.blt pc 277 then (bif Nat.blt pc 274 then (bif Nat.beq pc 273 then some (.aload_n 0, 274, [], 0, 0) else none) else (bif Nat.beq pc 274 then some (.getfield 46, 277, [6, 22, 262, 1, 362], 0, 0) else none)) else (bif Nat.blt pc 279 then (bif Nat.beq pc 277 then some (.iload 4, 279, [], 0, 0) else none) else (bif Nat.beq pc 279 then some (.iaload, 280, [], 0, 0) else none)))))) else (bif Nat.blt pc 298 then (bif Nat.blt pc 289 then (bif Nat.blt pc 283 then (bif Nat.blt pc 281 then (bif Nat.beq pc 280 then some (.iastore, 281, [], 0, 0) else none) else (bif Nat.blt pc 282 then (bif Nat.beq pc 281 then some (.iconst 0, 282, [], 0, 0) else none) else (bif Nat.beq pc 282 then some (.ireturn, 283, [0], 0, 0) else none))) else (bif Nat.blt pc 287 then (bif Nat.blt pc 284 then (bif Nat.beq pc 283 then some (.aload_n 0, 284, [], 0, 0) else none) else (bif Nat.beq pc 284 then some (.getfield 46, 287, [6, 22, 262, 1, 362], 0, 0) else none)) else (bif Nat.blt pc 288 then (bif Nat.beq pc 287 then some (.iload_n 2, 288, [], 0, 0) else none) else (bif Nat.beq pc 288 then some (.iload_n 3, 289, [], 0, 0) else none)))) else (bif Nat.blt pc 292 then (bif Nat.blt pc 290 then (bif Nat.beq pc 289 then some (.iastore, 290, [], 0, 0) else none) else (bif Nat.blt pc 291 then (bif Nat.beq pc 290 then some (.iconst 0, 291, [], 0, 0) else none) else (bif Nat.beq pc 291 then some (.ireturn, 292, [0], 0, 0) else none))) else (bif Nat.blt pc 296 then (bif Nat.blt pc 293 then (bif Nat.beq pc 292 then some (.aload_n 0, 293, [], 0, 0) else none) else (bif Nat.beq pc 293 then some (.getfield 46, 296, [6, 22, 262, 1, 362], 0, 0) else none)) else (bif Nat.blt pc 297 then (bif Nat.beq pc 296 then some (.iload_n 2, 297, [], 0, 0) else none) else (bif Nat.beq pc 297 then some (.dup2, 298, [], 0, 0) else none))))) else (bif Nat.blt pc 307 then (bif Nat.blt pc 303 then (bif Nat.blt pc 299 then (bif Nat.beq pc 298 then some (.iaload, 299, [], 0, 0) else none) else (bif Nat.blt pc 300 then (bif Nat.beq pc 299 then some (.aload_n 0, 300, [], 0, 0) else none) else (bif Nat.beq pc 300 then some (.getfield 46, 303, [6, 22, 262, 1, 362], 0, 0) else none))) else (bif Nat.blt pc 305 then (bif Nat.blt pc 304 then (bif Nat.beq pc 303 then some (.iload_n 3, 304, [], 0, 0) else none) else (bif Nat.beq pc 304 then some (.iaload, 305, [], 0, 0) else none)) else (bif Nat.blt pc 306 then (bif Nat.beq pc 305 then some (.iadd, 306, [], 0, 0) else none) else (bif Nat.beq pc 306 then some (.iastore, 307, [], 0, 0) else none)))) else (bif Nat.blt pc 310 then (bif Nat.blt pc 308 then (bif Nat.beq pc 307 then some (.iconst 0, 308, [], 0, 0) else none) else (bif Nat.blt pc 309 then (bif Nat.beq pc 308 then some (.ireturn, 309, [0], 0, 0) else none) else (bif Nat.beq pc 309 then some (.aload_n 0, 310, [], 0, 0) else none))) else (bif Nat.blt pc 314 then (bif Nat.blt pc 313 then (bif Nat.beq pc 310 then some (.getfield 46, 313, [6, 22, 262, 1, 362], 0, 0) else none) else (bif Nat.beq pc 313 then some (.iload_n 3, 314, [], 0, 0) else none)) else (bif Nat.blt pc 315 then (bif Nat.beq pc 314 then some (.iaload, 315, [], 0, 0) else none) else (bif Nat.beq pc 315 then some (.ifCond .ne 6, 318, [321], 0, 0) else none))))))) else (bif Nat.blt pc 360 then (bif Nat.blt pc 337 then (bif Nat.blt pc 328 then (bif Nat.blt pc 322 then (bif Nat.blt pc 320 then (bif Nat.beq pc 318 then some (.bipush 6, 320, [], 6, 0) else none) else (bif Nat.blt pc 321 then (bif Nat.beq pc 320 then some (.ireturn, 321, [0], 0, 0) else none) else (bif Nat.beq pc 321 then some (.aload_n 0, 322, [], 0, 0) else none))) else (bif Nat.blt pc 326 then (bif Nat.blt pc 325 then (bif Nat.beq pc 322 then some (.getfield 46, 325, [6, 22, 262, 1, 362], 0, 0) else none) else (bif Nat.beq pc 325 then some (.iload_n 2, 326, [], 0, 0) else none)) else (bif Nat.blt pc 327 then (bif Nat.beq pc 326 then some (.dup2, 327, [], 0, 0) else none) else (bif Nat.beq pc 327 then some (.iaload, 328, [], 0, 0) else none)))) else (bif Nat.blt pc 333 then (bif Nat.blt pc 329 then (bif Nat.beq pc 328 then some (.aload_n 0, 329, [], 0, 0) else none) else (bif Nat.blt pc 332 then (bif Nat.beq pc 329 then some (.getfield 46, 332, [6, 22, 262, 1, 362], 0, 0) else none) else (bif Nat.beq pc 332 then some (.iload_n 3, 333, [], 0, 0) else none))) else (bif Nat.blt pc 335 then (bif Nat.blt pc 334 then (bif Nat.beq pc 333 then some (.iaload, 334, [], 0, 0) else none) else (bif Nat.beq pc 334 then some (.idiv, 335, [], 0, 0) else none)) else (bif Nat.blt pc 336 then (bif Nat.beq pc 335 then some (.iastore, 336, [], 0, 0) else none) else (bif Nat.beq pc 336 then some (.iconst 0, 337, [], 0, 0) else none))))) else (bif Nat.blt pc 346 then (bif Nat.blt pc 340 then (bif Nat.blt pc 338 then (bif Nat.beq pc 337 then some (.ireturn, 338, [0], 0, 0) else none) else (bif Nat.blt pc 339 then (bif Nat.beq pc 338 then some (.aload_n 0, 339, [], 0, 0) else none) else (bif Nat.beq pc 339 then some (.aload_n 0, 340, [], 0, 0) else none))) else (bif Nat.blt pc 344 then (bif Nat.blt pc 343 then (bif Nat.beq pc 340 then some (.getfield 46, 343, [6, 22, 262, 1, 362], 0, 0) else none) else (bif Nat.beq pc 343 then some (.iload_n 2, 344, [], 0, 0) else none)) else (bif Nat.blt pc 345 then (bif Nat.beq pc 344 then some (.iaload, 345, [], 0, 0) else none) else (bif Nat.beq pc 345 then some (.aload_n 0, 346, [], 0, 0) else none)))) else (bif Nat.blt pc 351 then (bif Nat.blt pc 349 then (bif Nat.beq pc 346 then some (.getfield 46, 349, [6, 22, 262, 1, 362], 0, 0) else none) else (bif Nat.blt pc 350 then (bif Nat.beq pc 349 then some (.iload_n 3, 350, [], 0, 0) else none) else (bif Nat.beq pc 350 then some (.iaload, 351, [], 0, 0) else none))) else (bif Nat.blt pc 356 then (bif Nat.blt pc 354 then (bif Nat.beq pc 351 then some (.if_icmp .ge 8, 354, [359], 0, 0) else none) else (bif Nat.beq pc 354 then some (.iload 4, 356, [], 0, 0) else none)) else (bif Nat.blt pc 359 then (bif Nat.beq pc 356 then some (.goto 7, 359, [363], 0, 0) else none) else (bif Nat.beq pc 359 then some (.aload_n 0, 360, [], 0, 0) else none)))))) else (bif Nat.blt pc 381 then (bif Nat.blt pc 373 then (bif Nat.blt pc 367 then (bif Nat.blt pc 363 then (bif Nat.beq pc 360 then some (.getfield 132, 363, [6, 24, 264, 0, 0], 0, 0) else none) else (bif Nat.blt pc 366 then (bif Nat.beq pc 363 then some (.putfield 132, 366, [6, 24, 264, 0, 0], 0, 0) else none) else (bif Nat.beq pc 366 then some (.iconst 0, 367, [], 0, 0) else none))) else (bif Nat.blt pc 369 then (bif Nat.blt pc 368 then (bif Nat.beq pc 367 then some (.ireturn, 368, [0], 0, 0) else none) else (bif Nat.beq pc 368 then some (.aload_n 0, 369, [], 0, 0) else none)) else (bif Nat.blt pc 370 then (bif Nat.beq pc 369 then some (.iload_n 2, 370, [], 0, 0) else none) else (bif Nat.beq pc 370 then some (.putfield 132, 373, [6, 24, 264, 0, 0], 0, 0) else none)))) else (bif Nat.blt pc 377 then (bif Nat.blt pc 374 then (bif Nat.beq pc 373 then some (.iconst 0, 374, [], 0, 0) else none) else (bif Nat.blt pc 375 then (bif Nat.beq pc 374 then some (.ireturn, 375, [0], 0, 0) else none) else (bif Nat.beq pc 375 then some (.bipush 7, 377, [], 7, 0) else none))) else (bif Nat.blt pc 379 then (bif Nat.blt pc 378 then (bif Nat.beq pc 377 then some (.ireturn, 378, [0], 0, 0) else none) else (bif Nat.beq pc 378 then some (.aload_n 0, 379, [], 0, 0) else none)) else (bif Nat.blt pc 380 then (bif Nat.beq pc 379 then some (.iload_n 2, 380, [], 0, 0) else none) else (bif Nat.beq pc 380 then some (.iload_n 3, 381, [], 0, 0) else none))))) else (bif Nat.blt pc 394 then (bif Nat.blt pc 387 then (bif Nat.blt pc 383 then (bif Nat.beq pc 381 then some (.iload 4, 383, [], 0, 0) else none) else (bif Nat.blt pc 386 then (bif Nat.beq pc 383 then some (.invokevirtual 160, 386, [127], 0, 0) else none) else (bif Nat.beq pc 386 then some (.ireturn, 387, [0], 0, 0) else none))) else (bif Nat.blt pc 390 then (bif Nat.blt pc 388 then (bif Nat.beq pc 387 then some (.aload_n 0, 388, [], 0, 0) else none) else (bif Nat.beq pc 388 then some (.bipush 32, 390, [], 32, 0) else none)) else (bif Nat.blt pc 393 then (bif Nat.beq pc 390 then some (.putfield 132, 393, [6, 24, 264, 0, 0], 0, 0) else none) else (bif Nat.beq pc 393 then some (.aload_n 0, 394, [], 0, 0) else none)))) else (bif Nat.blt pc 399 then (bif Nat.blt pc 395 then (bif Nat.beq pc 394 then some (.aload_n 0, 395, [], 0, 0) else none) else (bif Nat.blt pc 398 then (bif Nat.beq pc 395 then some (.getfield 46, 398, [6, 22, 262, 1, 362], 0, 0) else none) else (bif Nat.beq pc 398 then some (.iload_n 2, 399, [], 0, 0) else none))) else (bif Nat.blt pc 403 then (bif Nat.blt pc 400 then (bif Nat.beq pc 399 then some (.iaload, 400, [], 0, 0) else none) else (bif Nat.beq pc 400 then some (.putfield 163, 403, [6, 13, 253, 0, 0], 0, 0) else none)) else (bif Nat.blt pc 404 then (bif Nat.beq pc 403 then some (.iconst 0, 404, [], 0, 0) else none) else (bif Nat.beq pc 404 then some (.ireturn, 405, [0], 0, 0) else none)))))))))
def k_X6_copy (pc : Nat) : Option mE := (bif Nat.blt pc 158 then (bif Nat.blt pc 82 then (bif Nat.blt pc 37 then (bif Nat.blt pc 19 then (bif Nat.blt pc 9 then (bif Nat.blt pc 4 then (bif Nat.blt pc 1 then (bif Nat.beq pc 0 then some (.aload_n 0, 1, [], 0, 0) else none) else (bif Nat.beq pc 1 then some (.getfield 43, 4, [6, 21, 261, 1, 361], 0, 0) else none)) else (bif Nat.blt pc 5 then (bif Nat.beq pc 4 then some (.iload_n 1, 5, [], 0, 0) else none) else (bif Nat.blt pc 6 then (bif Nat.beq pc 5 then some (.iaload, 6, [], 0, 0) else none) else (bif Nat.beq pc 6 then some (.ifCond .lt 12, 9, [18], 0, 0) else none)))) else (bif Nat.blt pc 14 then (bif Nat.blt pc 10 then (bif Nat.beq pc 9 then some (.aload_n 0, 10, [], 0, 0) else none) else (bif Nat.blt pc 13 then (bif Nat.beq pc 10 then some (.getfield 43, 13, [6, 21, 261, 1, 361], 0, 0) else none) else (bif Nat.beq pc 13 then some (.iload_n 2, 14, [], 0, 0) else none))) else (bif Nat.blt pc 15 then (bif Nat.beq pc 14 then some (.iaload, 15, [], 0, 0) else none) else (bif Nat.blt pc 18 then (bif Nat.beq pc 15 then some (.ifCond .ge 5, 18, [20], 0, 0) else none) else (bif Nat.beq pc 18 then some (.iconst 1, 19, [], 1, 0) else none))))) else (bif Nat.blt pc 27 then (bif Nat.blt pc 21 then (bif Nat.blt pc 20 then (bif Nat.beq pc 19 then some (.ireturn, 20, [0], 0, 0) else none) else (bif Nat.beq pc 20 then some (.aload_n 0, 21, [], 0, 0) else none)) else (bif Nat.blt pc 22 then (bif Nat.beq pc 21 then some (.iload_n 1, 22, [], 0, 0) else none) else (bif Nat.blt pc 25 then (bif Nat.beq pc 22 then some (.invokevirtual 139, 25, [118], 0, 0) else none) else (bif Nat.beq pc 25 then some (.istore 4, 27, [], 0, 0) else none)))) else (bif Nat.blt pc 32 then (bif Nat.blt pc 28 then (bif Nat.beq pc 27 then some (.aload_n 0, 28, [], 0, 0) else none) else (bif Nat.blt pc 29 then (bif Nat.beq pc 28 then some (.iload_n 2, 29, [], 0, 0) else none) else (bif Nat.beq pc 29 then some (.invokevirtual 139, 32, [118], 0, 0) else none))) else (bif Nat.blt pc 34 then (bif Nat.beq pc 32 then some (.istore 5, 34, [], 0, 0) else none) else (bif Nat.blt pc 36 then (bif Nat.beq pc 34 then some (.iload 4, 36, [], 0, 0) else none) else (bif Nat.beq pc 36 then some (.iconst 5, 37, [], 5, 0) else none)))))) else (bif Nat.blt pc 62 then (bif Nat.blt pc 48 then (bif Nat.blt pc 42 then (bif Nat.blt pc 40 then (bif Nat.beq pc 37 then some (.if_icmp .lt 30, 40, [67], 0, 0) else none) else (bif Nat.beq pc 40 then some (.iload 5, 42, [], 0, 0) else none)) else (bif Nat.blt pc 43 then (bif Nat.beq pc 42 then some (.iconst 5, 43, [], 5, 0) else none) else (bif Nat.blt pc 46 then (bif Nat.beq pc 43 then some (.if_icmp .lt 24, 46, [67], 0, 0) else none) else (bif Nat.beq pc 46 then some (.iload 4, 48, [], 0, 0) else none)))) else (bif Nat.blt pc 55 then (bif Nat.blt pc 50 then (bif Nat.beq pc 48 then some (.iload 5, 50, [], 0, 0) else none) else (bif Nat.blt pc 53 then (bif Nat.beq pc 50 then some (.if_icmp .eq 19, 53, [69], 0, 0) else none) else (bif Nat.beq pc 53 then some (.iload 4, 55, [], 0, 0) else none))) else (bif Nat.blt pc 57 then (bif Nat.beq pc 55 then some (.bipush 7, 57, [], 7, 0) else none) else (bif Nat.blt pc 60 then (bif Nat.beq pc 57 then some (.if_icmp .lt 10, 60, [67], 0, 0) else none) else (bif Nat.beq pc 60 then some (.iload 5, 62, [], 0, 0) else none))))) else (bif Nat.blt pc 70 then (bif Nat.blt pc 67 then (bif Nat.blt pc 64 then (bif Nat.beq pc 62 then some (.bipush 7, 64, [], 7, 0) else none) else (bif Nat.beq pc 64 then some (.if_icmp .ge 5, 67, [69], 0, 0) else none)) else (bif Nat.blt pc 68 then (bif Nat.beq pc 67 then some (.iconst 4, 68, [], 4, 0) else none) else (bif Nat.blt pc 69 then (bif Nat.beq pc 68 then some (.ireturn, 69, [0], 0, 0) else none) else (bif Nat.beq pc 69 then some (.aload_n 0, 70, [], 0, 0) else none)))) else (bif Nat.blt pc 75 then (bif Nat.blt pc 73 then (bif Nat.beq pc 70 then some (.getfield 46, 73, [6, 22, 262, 1, 362], 0, 0) else none) else (bif Nat.blt pc 74 then (bif Nat.beq pc 73 then some (.iconst 3, 74, [], 3, 0) else none) else (bif Nat.beq pc 74 then some (.iaload, 75, [], 0, 0) else none))) else (bif Nat.blt pc 77 then (bif Nat.beq pc 75 then some (.istore 6, 77, [], 0, 0) else none) else (bif Nat.blt pc 79 then (bif Nat.beq pc 77 then some (.iload 6, 79, [], 0, 0) else none) else (bif Nat.beq pc 79 then some (.ifCond .lt 55, 82, [134], 0, 0) else none))))))) else (bif Nat.blt pc 118 then (bif Nat.blt pc 102 then (bif Nat.blt pc 91 then (bif Nat.blt pc 86 then (bif Nat.blt pc 83 then (bif Nat.beq pc 82 then some (.aload_n 0, 83, [], 0, 0) else none) else (bif Nat.beq pc 83 then some (.getfield 46, 86, [6, 22, 262, 1, 362], 0, 0) else none)) else (bif Nat.blt pc 87 then (bif Nat.beq pc 86 then some (.iload_n 3, 87, [], 0, 0) else none) else (bif Nat.blt pc 88 then (bif Nat.beq pc 87 then some (.iaload, 88, [], 0, 0) else none) else (bif Nat.beq pc 88 then some (.ifCond .lt 46, 91, [134], 0, 0) else none)))) else (bif Nat.blt pc 97 then (bif Nat.blt pc 93 then (bif Nat.beq pc 91 then some (.iload 6, 93, [], 0, 0) else none) else (bif Nat.blt pc 94 then (bif Nat.beq pc 93 then some (.aload_n 0, 94, [], 0, 0) else none) else (bif Nat.beq pc 94 then some (.getfield 37, 97, [6, 19, 259, 1, 359], 0, 0) else none))) else (bif Nat.blt pc 98 then (bif Nat.beq pc 97 then some (.aload_n 0, 98, [], 0, 0) else none) else (bif Nat.blt pc 101 then (bif Nat.beq pc 98 then some (.getfield 43, 101, [6, 21, 261, 1, 361], 0, 0) else none) else (bif Nat.beq pc 101 then some (.iload_n 1, 102, [], 0, 0) else none))))) else (bif Nat.blt pc 111 then (bif Nat.blt pc 104 then (bif Nat.blt pc 103 then (bif Nat.beq pc 102 then some (.iaload, 103, [], 0, 0) else none) else (bif Nat.beq pc 103 then some (.iaload, 104, [], 0, 0) else none)) else (bif Nat.blt pc 107 then (bif Nat.beq pc 104 then some (.if_icmp .gt 30, 107, [134], 0, 0) else none) else (bif Nat.blt pc 108 then (bif Nat.beq pc 107 then some (.aload_n 0, 108, [], 0, 0) else none) else (bif Nat.beq pc 108 then some (.getfield 46, 111, [6, 22, 262, 1, 362], 0, 0) else none)))) else (bif Nat.blt pc 114 then (bif Nat.blt pc 112 then (bif Nat.beq pc 111 then some (.iload_n 3, 112, [], 0, 0) else none) else (bif Nat.blt pc 113 then (bif Nat.beq pc 112 then some (.iaload, 113, [], 0, 0) else none) else (bif Nat.beq pc 113 then some (.i2l, 114, [], 0, 0) else none))) else (bif Nat.blt pc 116 then (bif Nat.beq pc 114 then some (.iload 6, 116, [], 0, 0) else none) else (bif Nat.blt pc 117 then (bif Nat.beq pc 116 then some (.i2l, 117, [], 0, 0) else none) else (bif Nat.beq pc 117 then some (.ladd, 118, [], 0, 0) else none)))))) else (bif Nat.blt pc 135 then (bif Nat.blt pc 127 then (bif Nat.blt pc 122 then (bif Nat.blt pc 119 then (bif Nat.beq pc 118 then some (.aload_n 0, 119, [], 0, 0) else none) else (bif Nat.beq pc 119 then some (.getfield 37, 122, [6, 19, 259, 1, 359], 0, 0) else none)) else (bif Nat.blt pc 123 then (bif Nat.beq pc 122 then some (.aload_n 0, 123, [], 0, 0) else none) else (bif Nat.blt pc 126 then (bif Nat.beq pc 123 then some (.getfield 43, 126, [6, 21, 261, 1, 361], 0, 0) else none) else (bif Nat.beq pc 126 then some (.iload_n 2, 127, [], 0, 0) else none)))) else (bif Nat.blt pc 130 then (bif Nat.blt pc 128 then (bif Nat.beq pc 127 then some (.iaload, 128, [], 0, 0) else none) else (bif Nat.blt pc 129 then (bif Nat.beq pc 128 then some (.iaload, 129, [], 0, 0) else none) else (bif Nat.beq pc 129 then some (.i2l, 130, [], 0, 0) else none))) else (bif Nat.blt pc 131 then (bif Nat.beq pc 130 then some (.lcmp, 131, [], 0, 0) else none) else (bif Nat.blt pc 134 then (bif Nat.beq pc 131 then some (.ifCond .le 5, 134, [136], 0, 0) else none) else (bif Nat.beq pc 134 then some (.iconst 3, 135, [], 3, 0) else none))))) else (bif Nat.blt pc 146 then (bif Nat.blt pc 139 then (bif Nat.blt pc 136 then (bif Nat.beq pc 135 then some (.ireturn, 136, [0], 0, 0) else none) else (bif Nat.blt pc 137 then (bif Nat.beq pc 136 then some (.iconst 0, 137, [], 0, 0) else none) else (bif Nat.beq pc 137 then some (.istore 7, 139, [], 0, 0) else none))) else (bif Nat.blt pc 141 then (bif Nat.beq pc 139 then some (.iload 7, 141, [], 0, 0) else none) else (bif Nat.blt pc 143 then (bif Nat.beq pc 141 then some (.iload 6, 143, [], 0, 0) else none) else (bif Nat.beq pc 143 then some (.if_icmp .ge 33, 146, [176], 0, 0) else none)))) else (bif Nat.blt pc 152 then (bif Nat.blt pc 147 then (bif Nat.beq pc 146 then some (.aload_n 0, 147, [], 0, 0) else none) else (bif Nat.blt pc 150 then (bif Nat.beq pc 147 then some (.getfield 49, 150, [6, 25, 265, 1, 365], 0, 0) else none) else (bif Nat.beq pc 150 then some (.iload 7, 152, [], 0, 0) else none))) else (bif Nat.blt pc 153 then (bif Nat.beq pc 152 then some (.aload_n 0, 153, [], 0, 0) else none) else (bif Nat.blt pc 156 then (bif Nat.beq pc 153 then some (.getfield 40, 156, [6, 20, 260, 1, 360], 0, 0) else none) else (bif Nat.beq pc 156 then some (.bipush 20, 158, [], 20, 0) else none)))))))) else (bif Nat.blt pc 240 then (bif Nat.blt pc 199 then (bif Nat.blt pc 176 then (bif Nat.blt pc 165 then (bif Nat.blt pc 162 then (bif Nat.blt pc 159 then (bif Nat.beq pc 158 then some (.aload_n 0, 159, [], 0, 0) else none) else (bif Nat.beq pc 159 then some (.getfield 43, 162, [6, 21, 261, 1, 361], 0, 0) else none)) else (bif Nat.blt pc 163 then (bif Nat.beq pc 162 then some (.iload_n 1, 163, [], 0, 0) else none) else (bif Nat.blt pc 164 then (bif Nat.beq pc 163 then some (.iaload, 164, [], 0, 0) else none) else (bif Nat.beq pc 164 then some (.imul, 165, [], 0, 0) else none)))) else (bif Nat.blt pc 169 then (bif Nat.blt pc 167 then (bif Nat.beq pc 165 then some (.iload 7, 167, [], 0, 0) else none) else (bif Nat.blt pc 168 then (bif Nat.beq pc 167 then some (.iadd, 168, [], 0, 0) else none) else (bif Nat.beq pc 168 then some (.iaload, 169, [], 0, 0) else none))) else (bif Nat.blt pc 170 then (bif Nat.beq pc 169 then some (.iastore, 170, [], 0, 0) else none) else (bif Nat.blt pc 173 then (bif Nat.beq pc 170 then some (.iinc 7 1, 173, [], 1, 0) else none) else (bif Nat.beq pc 173 then some (.goto (-34), 176, [139], 0, 0) else none))))) else (bif Nat.blt pc 186 then (bif Nat.blt pc 179 then (bif Nat.blt pc 177 then (bif Nat.beq pc 176 then some (.iconst 0, 177, [], 0, 0) else none) else (bif Nat.beq pc 177 then some (.istore 7, 179, [], 0, 0) else none)) else (bif Nat.blt pc 181 then (bif Nat.beq pc 179 then some (.iload 7, 181, [], 0, 0) else none) else (bif Nat.blt pc 183 then (bif Nat.beq pc 181 then some (.iload 6, 183, [], 0, 0) else none) else (bif Nat.beq pc 183 then some (.if_icmp .ge 138, 186, [321], 0, 0) else none)))) else (bif Nat.blt pc 193 then (bif Nat.blt pc 188 then (bif Nat.beq pc 186 then some (.iload 4, 188, [], 0, 0) else none) else (bif Nat.blt pc 190 then (bif Nat.beq pc 188 then some (.bipush 7, 190, [], 7, 0) else none) else (bif Nat.beq pc 190 then some (.if_icmp .lt 14, 193, [204], 0, 0) else none))) else (bif Nat.blt pc 194 then (bif Nat.beq pc 193 then some (.aload_n 0, 194, [], 0, 0) else none) else (bif Nat.blt pc 197 then (bif Nat.beq pc 194 then some (.getfield 49, 197, [6, 25, 265, 1, 365], 0, 0) else none) else (bif Nat.beq pc 197 then some (.iload 7, 199, [], 0, 0) else none)))))) else (bif Nat.blt pc 220 then (bif Nat.blt pc 208 then (bif Nat.blt pc 201 then (bif Nat.blt pc 200 then (bif Nat.beq pc 199 then some (.iaload, 200, [], 0, 0) else none) else (bif Nat.beq pc 200 then some (.iconst (-1), 201, [], (-1), 0) else none)) else (bif Nat.blt pc 204 then (bif Nat.beq pc 201 then some (.if_icmp .ne 7, 204, [208], 0, 0) else none) else (bif Nat.blt pc 205 then (bif Nat.beq pc 204 then some (.iconst 0, 205, [], 0, 0) else none) else (bif Nat.beq pc 205 then some (.goto 31, 208, [236], 0, 0) else none)))) else (bif Nat.blt pc 214 then (bif Nat.blt pc 209 then (bif Nat.beq pc 208 then some (.aload_n 0, 209, [], 0, 0) else none) else (bif Nat.blt pc 212 then (bif Nat.beq pc 209 then some (.getfield 49, 212, [6, 25, 265, 1, 365], 0, 0) else none) else (bif Nat.beq pc 212 then some (.iload 7, 214, [], 0, 0) else none))) else (bif Nat.blt pc 215 then (bif Nat.beq pc 214 then some (.iaload, 215, [], 0, 0) else none) else (bif Nat.blt pc 217 then (bif Nat.beq pc 215 then some (.bipush (-2), 217, [], (-2), 0) else none) else (bif Nat.beq pc 217 then some (.if_icmp .ne 7, 220, [224], 0, 0) else none))))) else (bif Nat.blt pc 229 then (bif Nat.blt pc 224 then (bif Nat.blt pc 221 then (bif Nat.beq pc 220 then some (.iconst 5, 221, [], 5, 0) else none) else (bif Nat.beq pc 221 then some (.goto 15, 224, [236], 0, 0) else none)) else (bif Nat.blt pc 225 then (bif Nat.beq pc 224 then some (.aload_n 0, 225, [], 0, 0) else none) else (bif Nat.blt pc 228 then (bif Nat.beq pc 225 then some (.getfield 31, 228, [6, 17, 257, 1, 357], 0, 0) else none) else (bif Nat.beq pc 228 then some (.aload_n 0, 229, [], 0, 0) else none)))) else (bif Nat.blt pc 235 then (bif Nat.blt pc 232 then (bif Nat.beq pc 229 then some (.getfield 49, 232, [6, 25, 265, 1, 365], 0, 0) else none) else (bif Nat.blt pc 234 then (bif Nat.beq pc 232 then some (.iload 7, 234, [], 0, 0) else none) else (bif Nat.beq pc 234 then some (.iaload, 235, [], 0, 0) else none))) else (bif Nat.blt pc 236 then (bif Nat.beq pc 235 then some (.iaload, 236, [], 0, 0) else none) else (bif Nat.blt pc 238 then (bif Nat.beq pc 236 then some (.istore 8, 238, [], 0, 0) else none) else (bif Nat.beq pc 238 then some (.iload 8, 240, [], 0, 0) else none))))))) else (bif Nat.blt pc 285 then (bif Nat.blt pc 264 then (bif Nat.blt pc 251 then (bif Nat.blt pc 244 then (bif Nat.blt pc 241 then (bif Nat.beq pc 240 then some (.iconst 5, 241, [], 5, 0) else none) else (bif Nat.beq pc 241 then some (.if_icmp .ne 10, 244, [251], 0, 0) else none)) else (bif Nat.blt pc 246 then (bif Nat.beq pc 244 then some (.iload 5, 246, [], 0, 0) else none) else (bif Nat.blt pc 248 then (bif Nat.beq pc 246 then some (.bipush 9, 248, [], 9, 0) else none) else (bif Nat.beq pc 248 then some (.if_icmp .ne 34, 251, [282], 0, 0) else none)))) else (bif Nat.blt pc 258 then (bif Nat.blt pc 253 then (bif Nat.beq pc 251 then some (.iload 8, 253, [], 0, 0) else none) else (bif Nat.blt pc 256 then (bif Nat.beq pc 253 then some (.ifCond .le 31, 256, [284], 0, 0) else none) else (bif Nat.beq pc 256 then some (.iload 8, 258, [], 0, 0) else none))) else (bif Nat.blt pc 259 then (bif Nat.beq pc 258 then some (.iconst 5, 259, [], 5, 0) else none) else (bif Nat.blt pc 262 then (bif Nat.beq pc 259 then some (.if_icmp .ge 25, 262, [284], 0, 0) else none) else (bif Nat.beq pc 262 then some (.iload 5, 264, [], 0, 0) else none))))) else (bif Nat.blt pc 276 then (bif Nat.blt pc 269 then (bif Nat.blt pc 266 then (bif Nat.beq pc 264 then some (.bipush 9, 266, [], 9, 0) else none) else (bif Nat.beq pc 266 then some (.if_icmp .eq 16, 269, [282], 0, 0) else none)) else (bif Nat.blt pc 271 then (bif Nat.beq pc 269 then some (.iload 5, 271, [], 0, 0) else none) else (bif Nat.blt pc 273 then (bif Nat.beq pc 271 then some (.bipush 8, 273, [], 8, 0) else none) else (bif Nat.beq pc 273 then some (.if_icmp .ne 11, 276, [284], 0, 0) else none)))) else (bif Nat.blt pc 282 then (bif Nat.blt pc 278 then (bif Nat.beq pc 276 then some (.iload 8, 278, [], 0, 0) else none) else (bif Nat.blt pc 279 then (bif Nat.beq pc 278 then some (.iconst 3, 279, [], 3, 0) else none) else (bif Nat.beq pc 279 then some (.if_icmp .ge 5, 282, [284], 0, 0) else none))) else (bif Nat.blt pc 283 then (bif Nat.beq pc 282 then some (.iconst 4, 283, [], 4, 0) else none) else (bif Nat.blt pc 284 then (bif Nat.beq pc 283 then some (.ireturn, 284, [0], 0, 0) else none) else (bif Nat.beq pc 284 then some (.aload_n 0, 285, [], 0, 0) else none)))))) else (bif Nat.blt pc 303 then (bif Nat.blt pc 295 then (bif Nat.blt pc 290 then (bif Nat.blt pc 288 then (bif Nat.beq pc 285 then some (.getfield 40, 288, [6, 20, 260, 1, 360], 0, 0) else none) else (bif Nat.beq pc 288 then some (.bipush 20, 290, [], 20, 0) else none)) else (bif Nat.blt pc 291 then (bif Nat.beq pc 290 then some (.aload_n 0, 291, [], 0, 0) else none) else (bif Nat.blt pc 294 then (bif Nat.beq pc 291 then some (.getfield 43, 294, [6, 21, 261, 1, 361], 0, 0) else none) else (bif Nat.beq pc 294 then some (.iload_n 2, 295, [], 0, 0) else none)))) else (bif Nat.blt pc 298 then (bif Nat.blt pc 296 then (bif Nat.beq pc 295 then some (.iaload, 296, [], 0, 0) else none) else (bif Nat.blt pc 297 then (bif Nat.beq pc 296 then some (.imul, 297, [], 0, 0) else none) else (bif Nat.beq pc 297 then some (.aload_n 0, 298, [], 0, 0) else none))) else (bif Nat.blt pc 301 then (bif Nat.beq pc 298 then some (.getfield 46, 301, [6, 22, 262, 1, 362], 0, 0) else none) else (bif Nat.blt pc 302 then (bif Nat.beq pc 301 then some (.iload_n 3, 302, [], 0, 0) else none) else (bif Nat.beq pc 302 then some (.iaload, 303, [], 0, 0) else none))))) else (bif Nat.blt pc 313 then (bif Nat.blt pc 307 then (bif Nat.blt pc 304 then (bif Nat.beq pc 303 then some (.iadd, 304, [], 0, 0) else none) else (bif Nat.blt pc 306 then (bif Nat.beq pc 304 then some (.iload 7, 306, [], 0, 0) else none) else (bif Nat.beq pc 306 then some (.iadd, 307, [], 0, 0) else none))) else (bif Nat.blt pc 308 then (bif Nat.beq pc 307 then some (.aload_n 0, 308, [], 0, 0) else none) else (bif Nat.blt pc 311 then (bif Nat.beq pc 308 then some (.getfield 49, 311, [6, 25, 265, 1, 365], 0, 0) else none) else (bif Nat.beq pc 311 then some (.iload 7, 313, [], 0, 0) else none)))) else (bif Nat.blt pc 318 then (bif Nat.blt pc 314 then (bif Nat.beq pc 313 then some (.iaload, 314, [], 0, 0) else none) else (bif Nat.blt pc 315 then (bif Nat.beq pc 314 then some (.iastore, 315, [], 0, 0) else none) else (bif Nat.beq pc 315 then some (.iinc 7 1, 318, [], 1, 0) else none))) else (bif Nat.blt pc 321 then (bif Nat.beq pc 318 then some (.goto (-139), 321, [179], 0, 0) else none) else (bif Nat.blt pc 322 then (bif Nat.beq pc 321 then some (.iconst 0, 322, [], 0, 0) else none) else (bif Nat.beq pc 322 then some (.ireturn, 323, [0], 0, 0) else none)))))))))
def k_X6_run (pc : Nat) : Option mE := (bif Nat.blt pc 149 then (bif Nat.blt pc 72 then (bif Nat.blt pc 37 then (bif Nat.blt pc 17 then (bif Nat.blt pc 7 then (bif Nat.blt pc 2 then (bif Nat.blt pc 1 then (bif Nat.beq pc 0 then some (.aload_n 0, 1, [], 0, 0) else none) else (bif Nat.beq pc 1 then some (.iconst 0, 2, [], 0, 0) else none)) else (bif Nat.blt pc 5 then (bif Nat.beq pc 2 then some (.putfield 65, 5, [6, 0, 240, 0, 0], 0, 0) else none) else (bif Nat.blt pc 6 then (bif Nat.beq pc 5 then some (.aload_n 0, 6, [], 0, 0) else none) else (bif Nat.beq pc 6 then some (.iconst 1, 7, [], 1, 0) else none)))) else (bif Nat.blt pc 12 then (bif Nat.blt pc 10 then (bif Nat.beq pc 7 then some (.putfield 120, 10, [6, 11, 251, 2, 0], 0, 0) else none) else (bif Nat.blt pc 11 then (bif Nat.beq pc 10 then some (.aload_n 0, 11, [], 0, 0) else none) else (bif Nat.beq pc 11 then some (.iconst 0, 12, [], 0, 0) else none))) else (bif Nat.blt pc 15 then (bif Nat.beq pc 12 then some (.putfield 166, 15, [6, 12, 252, 0, 0], 0, 0) else none) else (bif Nat.blt pc 16 then (bif Nat.beq pc 15 then some (.aload_n 0, 16, [], 0, 0) else none) else (bif Nat.beq pc 16 then some (.iconst 0, 17, [], 0, 0) else none))))) else (bif Nat.blt pc 26 then (bif Nat.blt pc 21 then (bif Nat.blt pc 20 then (bif Nat.beq pc 17 then some (.putfield 163, 20, [6, 13, 253, 0, 0], 0, 0) else none) else (bif Nat.beq pc 20 then some (.aload_n 0, 21, [], 0, 0) else none)) else (bif Nat.blt pc 22 then (bif Nat.beq pc 21 then some (.iconst 0, 22, [], 0, 0) else none) else (bif Nat.blt pc 25 then (bif Nat.beq pc 22 then some (.putfield 169, 25, [6, 14, 254, 0, 0], 0, 0) else none) else (bif Nat.beq pc 25 then some (.aload_n 0, 26, [], 0, 0) else none)))) else (bif Nat.blt pc 32 then (bif Nat.blt pc 28 then (bif Nat.beq pc 26 then some (.bipush (-3), 28, [], (-3), 0) else none) else (bif Nat.blt pc 31 then (bif Nat.beq pc 28 then some (.putfield 172, 31, [6, 15, 255, 0, 0], 0, 0) else none) else (bif Nat.beq pc 31 then some (.aload_n 0, 32, [], 0, 0) else none))) else (bif Nat.blt pc 33 then (bif Nat.beq pc 32 then some (.iconst 0, 33, [], 0, 0) else none) else (bif Nat.blt pc 36 then (bif Nat.beq pc 33 then some (.putfield 126, 36, [6, 16, 256, 0, 0], 0, 0) else none) else (bif Nat.beq pc 36 then some (.iconst 0, 37, [], 0, 0) else none)))))) else (bif Nat.blt pc 57 then (bif Nat.blt pc 45 then (bif Nat.blt pc 39 then (bif Nat.blt pc 38 then (bif Nat.beq pc 37 then some (.istore_n 3, 38, [], 0, 0) else none) else (bif Nat.beq pc 38 then some (.iload_n 3, 39, [], 0, 0) else none)) else (bif Nat.blt pc 41 then (bif Nat.beq pc 39 then some (.bipush 6, 41, [], 6, 0) else none) else (bif Nat.blt pc 44 then (bif Nat.beq pc 41 then some (.if_icmp .ge 16, 44, [57], 0, 0) else none) else (bif Nat.beq pc 44 then some (.aload_n 0, 45, [], 0, 0) else none)))) else (bif Nat.blt pc 50 then (bif Nat.blt pc 48 then (bif Nat.beq pc 45 then some (.getfield 43, 48, [6, 21, 261, 1, 361], 0, 0) else none) else (bif Nat.blt pc 49 then (bif Nat.beq pc 48 then some (.iload_n 3, 49, [], 0, 0) else none) else (bif Nat.beq pc 49 then some (.iconst (-1), 50, [], (-1), 0) else none))) else (bif Nat.blt pc 51 then (bif Nat.beq pc 50 then some (.iastore, 51, [], 0, 0) else none) else (bif Nat.blt pc 54 then (bif Nat.beq pc 51 then some (.iinc 3 1, 54, [], 1, 0) else none) else (bif Nat.beq pc 54 then some (.goto (-16), 57, [38], 0, 0) else none))))) else (bif Nat.blt pc 64 then (bif Nat.blt pc 61 then (bif Nat.blt pc 58 then (bif Nat.beq pc 57 then some (.aload_n 0, 58, [], 0, 0) else none) else (bif Nat.beq pc 58 then some (.getfield 46, 61, [6, 22, 262, 1, 362], 0, 0) else none)) else (bif Nat.blt pc 62 then (bif Nat.beq pc 61 then some (.iconst 0, 62, [], 0, 0) else none) else (bif Nat.blt pc 63 then (bif Nat.beq pc 62 then some (.iload_n 1, 63, [], 0, 0) else none) else (bif Nat.beq pc 63 then some (.iastore, 64, [], 0, 0) else none)))) else (bif Nat.blt pc 69 then (bif Nat.blt pc 65 then (bif Nat.beq pc 64 then some (.aload_n 0, 65, [], 0, 0) else none) else (bif Nat.blt pc 68 then (bif Nat.beq pc 65 then some (.getfield 46, 68, [6, 22, 262, 1, 362], 0, 0) else none) else (bif Nat.beq pc 68 then some (.iconst 1, 69, [], 1, 0) else none))) else (bif Nat.blt pc 70 then (bif Nat.beq pc 69 then some (.iload_n 2, 70, [], 0, 0) else none) else (bif Nat.blt pc 71 then (bif Nat.beq pc 70 then some (.iastore, 71, [], 0, 0) else none) else (bif Nat.beq pc 71 then some (.aload_n 0, 72, [], 0, 0) else none))))))) else (bif Nat.blt pc 106 then (bif Nat.blt pc 87 then (bif Nat.blt pc 79 then (bif Nat.blt pc 76 then (bif Nat.blt pc 75 then (bif Nat.beq pc 72 then some (.getfield 46, 75, [6, 22, 262, 1, 362], 0, 0) else none) else (bif Nat.beq pc 75 then some (.iconst 2, 76, [], 2, 0) else none)) else (bif Nat.blt pc 77 then (bif Nat.beq pc 76 then some (.iconst 0, 77, [], 0, 0) else none) else (bif Nat.blt pc 78 then (bif Nat.beq pc 77 then some (.iastore, 78, [], 0, 0) else none) else (bif Nat.beq pc 78 then some (.aload_n 0, 79, [], 0, 0) else none)))) else (bif Nat.blt pc 84 then (bif Nat.blt pc 82 then (bif Nat.beq pc 79 then some (.getfield 46, 82, [6, 22, 262, 1, 362], 0, 0) else none) else (bif Nat.blt pc 83 then (bif Nat.beq pc 82 then some (.iconst 3, 83, [], 3, 0) else none) else (bif Nat.beq pc 83 then some (.iconst 0, 84, [], 0, 0) else none))) else (bif Nat.blt pc 85 then (bif Nat.beq pc 84 then some (.iastore, 85, [], 0, 0) else none) else (bif Nat.blt pc 86 then (bif Nat.beq pc 85 then some (.iconst 0, 86, [], 0, 0) else none) else (bif Nat.beq pc 86 then some (.istore_n 3, 87, [], 0, 0) else none))))) else (bif Nat.blt pc 94 then (bif Nat.blt pc 90 then (bif Nat.blt pc 88 then (bif Nat.beq pc 87 then some (.iconst 0, 88, [], 0, 0) else none) else (bif Nat.beq pc 88 then some (.istore 4, 90, [], 0, 0) else none)) else (bif Nat.blt pc 91 then (bif Nat.beq pc 90 then some (.iconst 0, 91, [], 0, 0) else none) else (bif Nat.blt pc 93 then (bif Nat.beq pc 91 then some (.istore 5, 93, [], 0, 0) else none) else (bif Nat.beq pc 93 then some (.iconst 1, 94, [], 1, 0) else none)))) else (bif Nat.blt pc 101 then (bif Nat.blt pc 96 then (bif Nat.beq pc 94 then some (.istore 6, 96, [], 0, 0) else none) else (bif Nat.blt pc 98 then (bif Nat.beq pc 96 then some (.iload 6, 98, [], 0, 0) else none) else (bif Nat.beq pc 98 then some (.ifCond .eq 178, 101, [276], 0, 0) else none))) else (bif Nat.blt pc 102 then (bif Nat.beq pc 101 then some (.iload_n 3, 102, [], 0, 0) else none) else (bif Nat.blt pc 103 then (bif Nat.beq pc 102 then some (.aload_n 0, 103, [], 0, 0) else none) else (bif Nat.beq pc 103 then some (.getfield 114, 106, [6, 1, 241, 0, 0], 0, 0) else none)))))) else (bif Nat.blt pc 129 then (bif Nat.blt pc 119 then (bif Nat.blt pc 110 then (bif Nat.blt pc 109 then (bif Nat.beq pc 106 then some (.if_icmp .ge 170, 109, [276], 0, 0) else none) else (bif Nat.beq pc 109 then some (.aload_n 0, 110, [], 0, 0) else none)) else (bif Nat.blt pc 113 then (bif Nat.beq pc 110 then some (.getfield 166, 113, [6, 12, 252, 0, 0], 0, 0) else none) else (bif Nat.blt pc 116 then (bif Nat.beq pc 113 then some (.sipush 200, 116, [], 200, 0) else none) else (bif Nat.beq pc 116 then some (.if_icmp .ne 12, 119, [128], 0, 0) else none)))) else (bif Nat.blt pc 123 then (bif Nat.blt pc 120 then (bif Nat.beq pc 119 then some (.iconst 2, 120, [], 2, 0) else none) else (bif Nat.blt pc 122 then (bif Nat.beq pc 120 then some (.istore 4, 122, [], 0, 0) else none) else (bif Nat.beq pc 122 then some (.iconst 0, 123, [], 0, 0) else none))) else (bif Nat.blt pc 125 then (bif Nat.beq pc 123 then some (.istore 6, 125, [], 0, 0) else none) else (bif Nat.blt pc 128 then (bif Nat.beq pc 125 then some (.goto (-29), 128, [96], 0, 0) else none) else (bif Nat.beq pc 128 then some (.aload_n 0, 129, [], 0, 0) else none))))) else (bif Nat.blt pc 138 then (bif Nat.blt pc 133 then (bif Nat.blt pc 130 then (bif Nat.beq pc 129 then some (.dup, 130, [], 0, 0) else none) else (bif Nat.beq pc 130 then some (.getfield 166, 133, [6, 12, 252, 0, 0], 0, 0) else none)) else (bif Nat.blt pc 134 then (bif Nat.beq pc 133 then some (.iconst 1, 134, [], 1, 0) else none) else (bif Nat.blt pc 135 then (bif Nat.beq pc 134 then some (.iadd, 135, [], 0, 0) else none) else (bif Nat.beq pc 135 then some (.putfield 166, 138, [6, 12, 252, 0, 0], 0, 0) else none)))) else (bif Nat.blt pc 143 then (bif Nat.blt pc 139 then (bif Nat.beq pc 138 then some (.iconst 0, 139, [], 0, 0) else none) else (bif Nat.blt pc 141 then (bif Nat.beq pc 139 then some (.istore 7, 141, [], 0, 0) else none) else (bif Nat.beq pc 141 then some (.iload 7, 143, [], 0, 0) else none))) else (bif Nat.blt pc 145 then (bif Nat.beq pc 143 then some (.bipush 6, 145, [], 6, 0) else none) else (bif Nat.blt pc 148 then (bif Nat.beq pc 145 then some (.if_icmp .ge 32, 148, [177], 0, 0) else none) else (bif Nat.beq pc 148 then some (.aload_n 0, 149, [], 0, 0) else none)))))))) else (bif Nat.blt pc 224 then (bif Nat.blt pc 186 then (bif Nat.blt pc 165 then (bif Nat.blt pc 158 then (bif Nat.blt pc 154 then (bif Nat.blt pc 152 then (bif Nat.beq pc 149 then some (.getfield 25, 152, [6, 7, 247, 1, 347], 0, 0) else none) else (bif Nat.beq pc 152 then some (.bipush 6, 154, [], 6, 0) else none)) else (bif Nat.blt pc 155 then (bif Nat.beq pc 154 then some (.iload_n 3, 155, [], 0, 0) else none) else (bif Nat.blt pc 156 then (bif Nat.beq pc 155 then some (.imul, 156, [], 0, 0) else none) else (bif Nat.beq pc 156 then some (.iload 7, 158, [], 0, 0) else none)))) else (bif Nat.blt pc 161 then (bif Nat.blt pc 159 then (bif Nat.beq pc 158 then some (.iadd, 159, [], 0, 0) else none) else (bif Nat.blt pc 160 then (bif Nat.beq pc 159 then some (.dup2, 160, [], 0, 0) else none) else (bif Nat.beq pc 160 then some (.iaload, 161, [], 0, 0) else none))) else (bif Nat.blt pc 162 then (bif Nat.beq pc 161 then some (.iconst 1, 162, [], 1, 0) else none) else (bif Nat.blt pc 163 then (bif Nat.beq pc 162 then some (.aload_n 0, 163, [], 0, 0) else none) else (bif Nat.beq pc 163 then some (.iload 7, 165, [], 0, 0) else none))))) else (bif Nat.blt pc 174 then (bif Nat.blt pc 169 then (bif Nat.blt pc 168 then (bif Nat.beq pc 165 then some (.invokevirtual 139, 168, [118], 0, 0) else none) else (bif Nat.beq pc 168 then some (.ishl, 169, [], 0, 0) else none)) else (bif Nat.blt pc 170 then (bif Nat.beq pc 169 then some (.ior, 170, [], 0, 0) else none) else (bif Nat.blt pc 171 then (bif Nat.beq pc 170 then some (.iastore, 171, [], 0, 0) else none) else (bif Nat.beq pc 171 then some (.iinc 7 1, 174, [], 1, 0) else none)))) else (bif Nat.blt pc 179 then (bif Nat.blt pc 177 then (bif Nat.beq pc 174 then some (.goto (-33), 177, [141], 0, 0) else none) else (bif Nat.blt pc 178 then (bif Nat.beq pc 177 then some (.aload_n 0, 178, [], 0, 0) else none) else (bif Nat.beq pc 178 then some (.iload_n 3, 179, [], 0, 0) else none))) else (bif Nat.blt pc 182 then (bif Nat.beq pc 179 then some (.invokevirtual 175, 182, [123], 0, 0) else none) else (bif Nat.blt pc 184 then (bif Nat.beq pc 182 then some (.istore 7, 184, [], 0, 0) else none) else (bif Nat.beq pc 184 then some (.iload 7, 186, [], 0, 0) else none)))))) else (bif Nat.blt pc 205 then (bif Nat.blt pc 197 then (bif Nat.blt pc 190 then (bif Nat.blt pc 189 then (bif Nat.beq pc 186 then some (.ifCond .ne 11, 189, [197], 0, 0) else none) else (bif Nat.beq pc 189 then some (.aload_n 0, 190, [], 0, 0) else none)) else (bif Nat.blt pc 193 then (bif Nat.beq pc 190 then some (.getfield 132, 193, [6, 24, 264, 0, 0], 0, 0) else none) else (bif Nat.blt pc 194 then (bif Nat.beq pc 193 then some (.istore_n 3, 194, [], 0, 0) else none) else (bif Nat.beq pc 194 then some (.goto 79, 197, [273], 0, 0) else none)))) else (bif Nat.blt pc 202 then (bif Nat.blt pc 198 then (bif Nat.beq pc 197 then some (.aload_n 0, 198, [], 0, 0) else none) else (bif Nat.blt pc 201 then (bif Nat.beq pc 198 then some (.getfield 28, 201, [6, 8, 248, 1, 348], 0, 0) else none) else (bif Nat.beq pc 201 then some (.iload_n 3, 202, [], 0, 0) else none))) else (bif Nat.blt pc 203 then (bif Nat.beq pc 202 then some (.dup2, 203, [], 0, 0) else none) else (bif Nat.blt pc 204 then (bif Nat.beq pc 203 then some (.iaload, 204, [], 0, 0) else none) else (bif Nat.beq pc 204 then some (.iconst 1, 205, [], 1, 0) else none))))) else (bif Nat.blt pc 213 then (bif Nat.blt pc 208 then (bif Nat.blt pc 207 then (bif Nat.beq pc 205 then some (.iload 7, 207, [], 0, 0) else none) else (bif Nat.beq pc 207 then some (.ishl, 208, [], 0, 0) else none)) else (bif Nat.blt pc 209 then (bif Nat.beq pc 208 then some (.ior, 209, [], 0, 0) else none) else (bif Nat.blt pc 210 then (bif Nat.beq pc 209 then some (.iastore, 210, [], 0, 0) else none) else (bif Nat.beq pc 210 then some (.iinc 5 1, 213, [], 1, 0) else none)))) else (bif Nat.blt pc 220 then (bif Nat.blt pc 215 then (bif Nat.beq pc 213 then some (.iload 5, 215, [], 0, 0) else none) else (bif Nat.blt pc 217 then (bif Nat.beq pc 215 then some (.bipush 9, 217, [], 9, 0) else none) else (bif Nat.beq pc 217 then some (.if_icmp .ne 12, 220, [229], 0, 0) else none))) else (bif Nat.blt pc 221 then (bif Nat.beq pc 220 then some (.iconst 2, 221, [], 2, 0) else none) else (bif Nat.blt pc 223 then (bif Nat.beq pc 221 then some (.istore 4, 223, [], 0, 0) else none) else (bif Nat.beq pc 223 then some (.iconst 0, 224, [], 0, 0) else none))))))) else (bif Nat.blt pc 265 then (bif Nat.blt pc 244 then (bif Nat.blt pc 234 then (bif Nat.blt pc 229 then (bif Nat.blt pc 226 then (bif Nat.beq pc 224 then some (.istore 6, 226, [], 0, 0) else none) else (bif Nat.beq pc 226 then some (.goto 47, 229, [273], 0, 0) else none)) else (bif Nat.blt pc 230 then (bif Nat.beq pc 229 then some (.aload_n 0, 230, [], 0, 0) else none) else (bif Nat.blt pc 233 then (bif Nat.beq pc 230 then some (.getfield 22, 233, [6, 6, 246, 1, 346], 0, 0) else none) else (bif Nat.beq pc 233 then some (.iload_n 3, 234, [], 0, 0) else none)))) else (bif Nat.blt pc 239 then (bif Nat.blt pc 235 then (bif Nat.beq pc 234 then some (.iaload, 235, [], 0, 0) else none) else (bif Nat.blt pc 238 then (bif Nat.beq pc 235 then some (.ifCond .ge 23, 238, [258], 0, 0) else none) else (bif Nat.beq pc 238 then some (.iconst 1, 239, [], 1, 0) else none))) else (bif Nat.blt pc 241 then (bif Nat.beq pc 239 then some (.istore 4, 241, [], 0, 0) else none) else (bif Nat.blt pc 242 then (bif Nat.beq pc 241 then some (.aload_n 0, 242, [], 0, 0) else none) else (bif Nat.beq pc 242 then some (.iload 7, 244, [], 0, 0) else none))))) else (bif Nat.blt pc 253 then (bif Nat.blt pc 248 then (bif Nat.blt pc 247 then (bif Nat.beq pc 244 then some (.putfield 169, 247, [6, 14, 254, 0, 0], 0, 0) else none) else (bif Nat.beq pc 247 then some (.aload_n 0, 248, [], 0, 0) else none)) else (bif Nat.blt pc 249 then (bif Nat.beq pc 248 then some (.iload_n 3, 249, [], 0, 0) else none) else (bif Nat.blt pc 252 then (bif Nat.beq pc 249 then some (.putfield 172, 252, [6, 15, 255, 0, 0], 0, 0) else none) else (bif Nat.beq pc 252 then some (.iconst 0, 253, [], 0, 0) else none)))) else (bif Nat.blt pc 259 then (bif Nat.blt pc 255 then (bif Nat.beq pc 253 then some (.istore 6, 255, [], 0, 0) else none) else (bif Nat.blt pc 258 then (bif Nat.beq pc 255 then some (.goto 18, 258, [273], 0, 0) else none) else (bif Nat.beq pc 258 then some (.aload_n 0, 259, [], 0, 0) else none))) else (bif Nat.blt pc 262 then (bif Nat.beq pc 259 then some (.getfield 46, 262, [6, 22, 262, 1, 362], 0, 0) else none) else (bif Nat.blt pc 263 then (bif Nat.beq pc 262 then some (.iconst 2, 263, [], 2, 0) else none) else (bif Nat.beq pc 263 then some (.iload 7, 265, [], 0, 0) else none)))))) else (bif Nat.blt pc 282 then (bif Nat.blt pc 272 then (bif Nat.blt pc 267 then (bif Nat.blt pc 266 then (bif Nat.beq pc 265 then some (.iastore, 266, [], 0, 0) else none) else (bif Nat.beq pc 266 then some (.aload_n 0, 267, [], 0, 0) else none)) else (bif Nat.blt pc 270 then (bif Nat.beq pc 267 then some (.getfield 22, 270, [6, 6, 246, 1, 346], 0, 0) else none) else (bif Nat.blt pc 271 then (bif Nat.beq pc 270 then some (.iload_n 3, 271, [], 0, 0) else none) else (bif Nat.beq pc 271 then some (.iaload, 272, [], 0, 0) else none)))) else (bif Nat.blt pc 277 then (bif Nat.blt pc 273 then (bif Nat.beq pc 272 then some (.istore_n 3, 273, [], 0, 0) else none) else (bif Nat.blt pc 276 then (bif Nat.beq pc 273 then some (.goto (-177), 276, [96], 0, 0) else none) else (bif Nat.beq pc 276 then some (.aload_n 0, 277, [], 0, 0) else none))) else (bif Nat.blt pc 278 then (bif Nat.beq pc 277 then some (.dup, 278, [], 0, 0) else none) else (bif Nat.blt pc 281 then (bif Nat.beq pc 278 then some (.getfield 85, 281, [6, 9, 249, 3, 0], 0, 0) else none) else (bif Nat.beq pc 281 then some (.aload_n 0, 282, [], 0, 0) else none))))) else (bif Nat.blt pc 292 then (bif Nat.blt pc 287 then (bif Nat.blt pc 285 then (bif Nat.beq pc 282 then some (.getfield 166, 285, [6, 12, 252, 0, 0], 0, 0) else none) else (bif Nat.blt pc 286 then (bif Nat.beq pc 285 then some (.i2l, 286, [], 0, 0) else none) else (bif Nat.beq pc 286 then some (.ladd, 287, [], 0, 0) else none))) else (bif Nat.blt pc 290 then (bif Nat.beq pc 287 then some (.putfield 85, 290, [6, 9, 249, 3, 0], 0, 0) else none) else (bif Nat.blt pc 291 then (bif Nat.beq pc 290 then some (.aload_n 0, 291, [], 0, 0) else none) else (bif Nat.beq pc 291 then some (.dup, 292, [], 0, 0) else none)))) else (bif Nat.blt pc 297 then (bif Nat.blt pc 295 then (bif Nat.beq pc 292 then some (.getfield 89, 295, [6, 10, 250, 0, 0], 0, 0) else none) else (bif Nat.blt pc 296 then (bif Nat.beq pc 295 then some (.iconst 1, 296, [], 1, 0) else none) else (bif Nat.beq pc 296 then some (.iadd, 297, [], 0, 0) else none))) else (bif Nat.blt pc 300 then (bif Nat.beq pc 297 then some (.putfield 89, 300, [6, 10, 250, 0, 0], 0, 0) else none) else (bif Nat.blt pc 302 then (bif Nat.beq pc 300 then some (.iload 4, 302, [], 0, 0) else none) else (bif Nat.beq pc 302 then some (.ireturn, 303, [0], 0, 0) else none)))))))))
def k_X6_ran (pc : Nat) : Option mE := (bif Nat.blt pc 42 then (bif Nat.blt pc 21 then (bif Nat.blt pc 9 then (bif Nat.blt pc 2 then (bif Nat.blt pc 1 then (bif Nat.beq pc 0 then some (.aload_n 0, 1, [], 0, 0) else none) else (bif Nat.beq pc 1 then some (.iconst 0, 2, [], 0, 0) else none)) else (bif Nat.blt pc 5 then (bif Nat.beq pc 2 then some (.putfield 65, 5, [6, 0, 240, 0, 0], 0, 0) else none) else (bif Nat.blt pc 6 then (bif Nat.beq pc 5 then some (.aload_n 0, 6, [], 0, 0) else none) else (bif Nat.beq pc 6 then some (.getfield 120, 9, [6, 11, 251, 2, 0], 0, 0) else none)))) else (bif Nat.blt pc 14 then (bif Nat.blt pc 12 then (bif Nat.beq pc 9 then some (.ifCond .eq 15, 12, [24], 0, 0) else none) else (bif Nat.blt pc 13 then (bif Nat.beq pc 12 then some (.iload_n 1, 13, [], 0, 0) else none) else (bif Nat.beq pc 13 then some (.i2l, 14, [], 0, 0) else none))) else (bif Nat.blt pc 15 then (bif Nat.beq pc 14 then some (.lconst 0, 15, [], 0, 0) else none) else (bif Nat.blt pc 18 then (bif Nat.beq pc 15 then some (.ldc2_w 79, 18, [], 0, 4) else none) else (bif Nat.beq pc 18 then some (.invokestatic 71, 21, [109], 0, 0) else none))))) else (bif Nat.blt pc 32 then (bif Nat.blt pc 27 then (bif Nat.blt pc 24 then (bif Nat.beq pc 21 then some (.ifCond .ne 7, 24, [28], 0, 0) else none) else (bif Nat.beq pc 24 then some (.ldc2_w 178, 27, [], 0, (-9223372036854775808)) else none)) else (bif Nat.blt pc 28 then (bif Nat.beq pc 27 then some (.lreturn, 28, [], 0, 0) else none) else (bif Nat.blt pc 29 then (bif Nat.beq pc 28 then some (.iload_n 1, 29, [], 0, 0) else none) else (bif Nat.beq pc 29 then some (.ifCond .ne 11, 32, [40], 0, 0) else none)))) else (bif Nat.blt pc 37 then (bif Nat.blt pc 33 then (bif Nat.beq pc 32 then some (.aload_n 0, 33, [], 0, 0) else none) else (bif Nat.blt pc 36 then (bif Nat.beq pc 33 then some (.getfield 166, 36, [6, 12, 252, 0, 0], 0, 0) else none) else (bif Nat.beq pc 36 then some (.i2l, 37, [], 0, 0) else none))) else (bif Nat.blt pc 40 then (bif Nat.beq pc 37 then some (.goto 47, 40, [84], 0, 0) else none) else (bif Nat.blt pc 41 then (bif Nat.beq pc 40 then some (.iload_n 1, 41, [], 0, 0) else none) else (bif Nat.beq pc 41 then some (.iconst 1, 42, [], 1, 0) else none)))))) else (bif Nat.blt pc 63 then (bif Nat.blt pc 53 then (bif Nat.blt pc 46 then (bif Nat.blt pc 45 then (bif Nat.beq pc 42 then some (.if_icmp .ne 11, 45, [53], 0, 0) else none) else (bif Nat.beq pc 45 then some (.aload_n 0, 46, [], 0, 0) else none)) else (bif Nat.blt pc 49 then (bif Nat.beq pc 46 then some (.getfield 163, 49, [6, 13, 253, 0, 0], 0, 0) else none) else (bif Nat.blt pc 50 then (bif Nat.beq pc 49 then some (.i2l, 50, [], 0, 0) else none) else (bif Nat.beq pc 50 then some (.goto 34, 53, [84], 0, 0) else none)))) else (bif Nat.blt pc 58 then (bif Nat.blt pc 54 then (bif Nat.beq pc 53 then some (.iload_n 1, 54, [], 0, 0) else none) else (bif Nat.blt pc 55 then (bif Nat.beq pc 54 then some (.iconst 2, 55, [], 2, 0) else none) else (bif Nat.beq pc 55 then some (.if_icmp .ne 11, 58, [66], 0, 0) else none))) else (bif Nat.blt pc 59 then (bif Nat.beq pc 58 then some (.aload_n 0, 59, [], 0, 0) else none) else (bif Nat.blt pc 62 then (bif Nat.beq pc 59 then some (.getfield 169, 62, [6, 14, 254, 0, 0], 0, 0) else none) else (bif Nat.beq pc 62 then some (.i2l, 63, [], 0, 0) else none))))) else (bif Nat.blt pc 75 then (bif Nat.blt pc 68 then (bif Nat.blt pc 66 then (bif Nat.beq pc 63 then some (.goto 21, 66, [84], 0, 0) else none) else (bif Nat.blt pc 67 then (bif Nat.beq pc 66 then some (.iload_n 1, 67, [], 0, 0) else none) else (bif Nat.beq pc 67 then some (.iconst 3, 68, [], 3, 0) else none))) else (bif Nat.blt pc 71 then (bif Nat.beq pc 68 then some (.if_icmp .ne 11, 71, [79], 0, 0) else none) else (bif Nat.blt pc 72 then (bif Nat.beq pc 71 then some (.aload_n 0, 72, [], 0, 0) else none) else (bif Nat.beq pc 72 then some (.getfield 172, 75, [6, 15, 255, 0, 0], 0, 0) else none)))) else (bif Nat.blt pc 80 then (bif Nat.blt pc 76 then (bif Nat.beq pc 75 then some (.i2l, 76, [], 0, 0) else none) else (bif Nat.blt pc 79 then (bif Nat.beq pc 76 then some (.goto 8, 79, [84], 0, 0) else none) else (bif Nat.beq pc 79 then some (.aload_n 0, 80, [], 0, 0) else none))) else (bif Nat.blt pc 83 then (bif Nat.beq pc 80 then some (.getfield 126, 83, [6, 16, 256, 0, 0], 0, 0) else none) else (bif Nat.blt pc 84 then (bif Nat.beq pc 83 then some (.i2l, 84, [], 0, 0) else none) else (bif Nat.beq pc 84 then some (.lreturn, 85, [], 0, 0) else none)))))))
def k_X6_variable (pc : Nat) : Option mE := (bif Nat.blt pc 70 then (bif Nat.blt pc 35 then (bif Nat.blt pc 18 then (bif Nat.blt pc 7 then (bif Nat.blt pc 2 then (bif Nat.blt pc 1 then (bif Nat.beq pc 0 then some (.aload_n 0, 1, [], 0, 0) else none) else (bif Nat.beq pc 1 then some (.iconst 0, 2, [], 0, 0) else none)) else (bif Nat.blt pc 5 then (bif Nat.beq pc 2 then some (.putfield 65, 5, [6, 0, 240, 0, 0], 0, 0) else none) else (bif Nat.blt pc 6 then (bif Nat.beq pc 5 then some (.iload_n 1, 6, [], 0, 0) else none) else (bif Nat.beq pc 6 then some (.i2l, 7, [], 0, 0) else none)))) else (bif Nat.blt pc 11 then (bif Nat.blt pc 8 then (bif Nat.beq pc 7 then some (.lconst 0, 8, [], 0, 0) else none) else (bif Nat.beq pc 8 then some (.ldc2_w 69, 11, [], 0, 5) else none)) else (bif Nat.blt pc 14 then (bif Nat.beq pc 11 then some (.invokestatic 71, 14, [109], 0, 0) else none) else (bif Nat.blt pc 17 then (bif Nat.beq pc 14 then some (.ifCond .ne 5, 17, [19], 0, 0) else none) else (bif Nat.beq pc 17 then some (.iconst (-1), 18, [], (-1), 0) else none))))) else (bif Nat.blt pc 25 then (bif Nat.blt pc 20 then (bif Nat.blt pc 19 then (bif Nat.beq pc 18 then some (.ireturn, 19, [0], 0, 0) else none) else (bif Nat.beq pc 19 then some (.iload_n 2, 20, [], 0, 0) else none)) else (bif Nat.blt pc 21 then (bif Nat.beq pc 20 then some (.i2l, 21, [], 0, 0) else none) else (bif Nat.blt pc 22 then (bif Nat.beq pc 21 then some (.lconst 0, 22, [], 0, 0) else none) else (bif Nat.beq pc 22 then some (.ldc2_w 75, 25, [], 0, 3) else none)))) else (bif Nat.blt pc 31 then (bif Nat.blt pc 28 then (bif Nat.beq pc 25 then some (.invokestatic 71, 28, [109], 0, 0) else none) else (bif Nat.beq pc 28 then some (.ifCond .ne 6, 31, [34], 0, 0) else none)) else (bif Nat.blt pc 33 then (bif Nat.beq pc 31 then some (.bipush (-2), 33, [], (-2), 0) else none) else (bif Nat.blt pc 34 then (bif Nat.beq pc 33 then some (.ireturn, 34, [0], 0, 0) else none) else (bif Nat.beq pc 34 then some (.aload_n 0, 35, [], 0, 0) else none)))))) else (bif Nat.blt pc 52 then (bif Nat.blt pc 45 then (bif Nat.blt pc 41 then (bif Nat.blt pc 38 then (bif Nat.beq pc 35 then some (.getfield 120, 38, [6, 11, 251, 2, 0], 0, 0) else none) else (bif Nat.beq pc 38 then some (.ifCond .ne 6, 41, [44], 0, 0) else none)) else (bif Nat.blt pc 43 then (bif Nat.beq pc 41 then some (.bipush (-3), 43, [], (-3), 0) else none) else (bif Nat.blt pc 44 then (bif Nat.beq pc 43 then some (.ireturn, 44, [0], 0, 0) else none) else (bif Nat.beq pc 44 then some (.aload_n 0, 45, [], 0, 0) else none)))) else (bif Nat.blt pc 49 then (bif Nat.blt pc 48 then (bif Nat.beq pc 45 then some (.getfield 43, 48, [6, 21, 261, 1, 361], 0, 0) else none) else (bif Nat.beq pc 48 then some (.iload_n 1, 49, [], 0, 0) else none)) else (bif Nat.blt pc 50 then (bif Nat.beq pc 49 then some (.iaload, 50, [], 0, 0) else none) else (bif Nat.blt pc 51 then (bif Nat.beq pc 50 then some (.istore_n 3, 51, [], 0, 0) else none) else (bif Nat.beq pc 51 then some (.aload_n 0, 52, [], 0, 0) else none))))) else (bif Nat.blt pc 62 then (bif Nat.blt pc 56 then (bif Nat.blt pc 53 then (bif Nat.beq pc 52 then some (.iload_n 1, 53, [], 0, 0) else none) else (bif Nat.beq pc 53 then some (.invokevirtual 139, 56, [118], 0, 0) else none)) else (bif Nat.blt pc 58 then (bif Nat.beq pc 56 then some (.istore 4, 58, [], 0, 0) else none) else (bif Nat.blt pc 59 then (bif Nat.beq pc 58 then some (.iload_n 2, 59, [], 0, 0) else none) else (bif Nat.beq pc 59 then some (.ifCond .ne 6, 62, [65], 0, 0) else none)))) else (bif Nat.blt pc 65 then (bif Nat.blt pc 64 then (bif Nat.beq pc 62 then some (.iload 4, 64, [], 0, 0) else none) else (bif Nat.beq pc 64 then some (.ireturn, 65, [0], 0, 0) else none)) else (bif Nat.blt pc 66 then (bif Nat.beq pc 65 then some (.iload_n 2, 66, [], 0, 0) else none) else (bif Nat.blt pc 67 then (bif Nat.beq pc 66 then some (.iconst 1, 67, [], 1, 0) else none) else (bif Nat.beq pc 67 then some (.if_icmp .ne 14, 70, [81], 0, 0) else none))))))) else (bif Nat.blt pc 106 then (bif Nat.blt pc 88 then (bif Nat.blt pc 80 then (bif Nat.blt pc 74 then (bif Nat.blt pc 71 then (bif Nat.beq pc 70 then some (.iload_n 3, 71, [], 0, 0) else none) else (bif Nat.beq pc 71 then some (.ifCond .ge 8, 74, [79], 0, 0) else none)) else (bif Nat.blt pc 76 then (bif Nat.beq pc 74 then some (.bipush (-3), 76, [], (-3), 0) else none) else (bif Nat.blt pc 79 then (bif Nat.beq pc 76 then some (.goto 4, 79, [80], 0, 0) else none) else (bif Nat.beq pc 79 then some (.iload_n 3, 80, [], 0, 0) else none)))) else (bif Nat.blt pc 82 then (bif Nat.blt pc 81 then (bif Nat.beq pc 80 then some (.ireturn, 81, [0], 0, 0) else none) else (bif Nat.beq pc 81 then some (.iload_n 2, 82, [], 0, 0) else none)) else (bif Nat.blt pc 83 then (bif Nat.beq pc 82 then some (.iconst 2, 83, [], 2, 0) else none) else (bif Nat.blt pc 86 then (bif Nat.beq pc 83 then some (.if_icmp .ne 21, 86, [104], 0, 0) else none) else (bif Nat.beq pc 86 then some (.iload 4, 88, [], 0, 0) else none))))) else (bif Nat.blt pc 98 then (bif Nat.blt pc 92 then (bif Nat.blt pc 89 then (bif Nat.beq pc 88 then some (.iconst 5, 89, [], 5, 0) else none) else (bif Nat.beq pc 89 then some (.if_icmp .ge 8, 92, [97], 0, 0) else none)) else (bif Nat.blt pc 94 then (bif Nat.beq pc 92 then some (.bipush (-3), 94, [], (-3), 0) else none) else (bif Nat.blt pc 97 then (bif Nat.beq pc 94 then some (.goto 9, 97, [103], 0, 0) else none) else (bif Nat.beq pc 97 then some (.aload_n 0, 98, [], 0, 0) else none)))) else (bif Nat.blt pc 102 then (bif Nat.blt pc 101 then (bif Nat.beq pc 98 then some (.getfield 37, 101, [6, 19, 259, 1, 359], 0, 0) else none) else (bif Nat.beq pc 101 then some (.iload_n 3, 102, [], 0, 0) else none)) else (bif Nat.blt pc 103 then (bif Nat.beq pc 102 then some (.iaload, 103, [], 0, 0) else none) else (bif Nat.blt pc 104 then (bif Nat.beq pc 103 then some (.ireturn, 104, [0], 0, 0) else none) else (bif Nat.beq pc 104 then some (.iload 4, 106, [], 0, 0) else none)))))) else (bif Nat.blt pc 126 then (bif Nat.blt pc 117 then (bif Nat.blt pc 111 then (bif Nat.blt pc 109 then (bif Nat.beq pc 106 then some (.ifCond .eq 9, 109, [115], 0, 0) else none) else (bif Nat.beq pc 109 then some (.iload 4, 111, [], 0, 0) else none)) else (bif Nat.blt pc 112 then (bif Nat.beq pc 111 then some (.iconst 4, 112, [], 4, 0) else none) else (bif Nat.blt pc 115 then (bif Nat.beq pc 112 then some (.if_icmp .le 8, 115, [120], 0, 0) else none) else (bif Nat.beq pc 115 then some (.bipush (-3), 117, [], (-3), 0) else none)))) else (bif Nat.blt pc 121 then (bif Nat.blt pc 120 then (bif Nat.beq pc 117 then some (.goto 27, 120, [144], 0, 0) else none) else (bif Nat.beq pc 120 then some (.aload_n 0, 121, [], 0, 0) else none)) else (bif Nat.blt pc 124 then (bif Nat.beq pc 121 then some (.getfield 34, 124, [6, 18, 258, 1, 358], 0, 0) else none) else (bif Nat.blt pc 125 then (bif Nat.beq pc 124 then some (.iload_n 3, 125, [], 0, 0) else none) else (bif Nat.beq pc 125 then some (.iaload, 126, [], 0, 0) else none))))) else (bif Nat.blt pc 137 then (bif Nat.blt pc 130 then (bif Nat.blt pc 129 then (bif Nat.beq pc 126 then some (.ifCond .ge 7, 129, [133], 0, 0) else none) else (bif Nat.beq pc 129 then some (.iconst 0, 130, [], 0, 0) else none)) else (bif Nat.blt pc 133 then (bif Nat.beq pc 130 then some (.goto 14, 133, [144], 0, 0) else none) else (bif Nat.blt pc 134 then (bif Nat.beq pc 133 then some (.aload_n 0, 134, [], 0, 0) else none) else (bif Nat.beq pc 134 then some (.getfield 31, 137, [6, 17, 257, 1, 357], 0, 0) else none)))) else (bif Nat.blt pc 142 then (bif Nat.blt pc 138 then (bif Nat.beq pc 137 then some (.aload_n 0, 138, [], 0, 0) else none) else (bif Nat.blt pc 141 then (bif Nat.beq pc 138 then some (.getfield 34, 141, [6, 18, 258, 1, 358], 0, 0) else none) else (bif Nat.beq pc 141 then some (.iload_n 3, 142, [], 0, 0) else none))) else (bif Nat.blt pc 143 then (bif Nat.beq pc 142 then some (.iaload, 143, [], 0, 0) else none) else (bif Nat.blt pc 144 then (bif Nat.beq pc 143 then some (.iaload, 144, [], 0, 0) else none) else (bif Nat.beq pc 144 then some (.ireturn, 145, [0], 0, 0) else none))))))))
def k_X6_number (pc : Nat) : Option mE := (bif Nat.blt pc 18 then (bif Nat.blt pc 9 then (bif Nat.blt pc 2 then (bif Nat.blt pc 1 then (bif Nat.beq pc 0 then some (.aload_n 0, 1, [], 0, 0) else none) else (bif Nat.beq pc 1 then some (.iconst 0, 2, [], 0, 0) else none)) else (bif Nat.blt pc 5 then (bif Nat.beq pc 2 then some (.putfield 65, 5, [6, 0, 240, 0, 0], 0, 0) else none) else (bif Nat.blt pc 6 then (bif Nat.beq pc 5 then some (.aload_n 0, 6, [], 0, 0) else none) else (bif Nat.beq pc 6 then some (.getfield 120, 9, [6, 11, 251, 2, 0], 0, 0) else none)))) else (bif Nat.blt pc 13 then (bif Nat.blt pc 12 then (bif Nat.beq pc 9 then some (.ifCond .eq 25, 12, [34], 0, 0) else none) else (bif Nat.beq pc 12 then some (.iload_n 1, 13, [], 0, 0) else none)) else (bif Nat.blt pc 14 then (bif Nat.beq pc 13 then some (.i2l, 14, [], 0, 0) else none) else (bif Nat.blt pc 15 then (bif Nat.beq pc 14 then some (.lconst 0, 15, [], 0, 0) else none) else (bif Nat.beq pc 15 then some (.ldc2_w 75, 18, [], 0, 3) else none))))) else (bif Nat.blt pc 29 then (bif Nat.blt pc 24 then (bif Nat.blt pc 21 then (bif Nat.beq pc 18 then some (.invokestatic 71, 21, [109], 0, 0) else none) else (bif Nat.beq pc 21 then some (.ifCond .eq 13, 24, [34], 0, 0) else none)) else (bif Nat.blt pc 25 then (bif Nat.beq pc 24 then some (.aload_n 0, 25, [], 0, 0) else none) else (bif Nat.blt pc 28 then (bif Nat.beq pc 25 then some (.getfield 46, 28, [6, 22, 262, 1, 362], 0, 0) else none) else (bif Nat.beq pc 28 then some (.iload_n 1, 29, [], 0, 0) else none)))) else (bif Nat.blt pc 31 then (bif Nat.blt pc 30 then (bif Nat.beq pc 29 then some (.iaload, 30, [], 0, 0) else none) else (bif Nat.beq pc 30 then some (.i2l, 31, [], 0, 0) else none)) else (bif Nat.blt pc 34 then (bif Nat.beq pc 31 then some (.goto 6, 34, [37], 0, 0) else none) else (bif Nat.blt pc 37 then (bif Nat.beq pc 34 then some (.ldc2_w 178, 37, [], 0, (-9223372036854775808)) else none) else (bif Nat.beq pc 37 then some (.lreturn, 38, [], 0, 0) else none))))))
def k_X6_seen (pc : Nat) : Option mE := (bif Nat.blt pc 23 then (bif Nat.blt pc 9 then (bif Nat.blt pc 5 then (bif Nat.blt pc 1 then (bif Nat.beq pc 0 then some (.aload_n 0, 1, [], 0, 0) else none) else (bif Nat.blt pc 2 then (bif Nat.beq pc 1 then some (.iconst 0, 2, [], 0, 0) else none) else (bif Nat.beq pc 2 then some (.putfield 65, 5, [6, 0, 240, 0, 0], 0, 0) else none))) else (bif Nat.blt pc 7 then (bif Nat.blt pc 6 then (bif Nat.beq pc 5 then some (.iload_n 1, 6, [], 0, 0) else none) else (bif Nat.beq pc 6 then some (.i2l, 7, [], 0, 0) else none)) else (bif Nat.blt pc 8 then (bif Nat.beq pc 7 then some (.lconst 0, 8, [], 0, 0) else none) else (bif Nat.beq pc 8 then some (.aload_n 0, 9, [], 0, 0) else none)))) else (bif Nat.blt pc 15 then (bif Nat.blt pc 13 then (bif Nat.blt pc 12 then (bif Nat.beq pc 9 then some (.getfield 114, 12, [6, 1, 241, 0, 0], 0, 0) else none) else (bif Nat.beq pc 12 then some (.iconst 1, 13, [], 1, 0) else none)) else (bif Nat.blt pc 14 then (bif Nat.beq pc 13 then some (.isub, 14, [], 0, 0) else none) else (bif Nat.beq pc 14 then some (.i2l, 15, [], 0, 0) else none))) else (bif Nat.blt pc 21 then (bif Nat.blt pc 18 then (bif Nat.beq pc 15 then some (.invokestatic 71, 18, [109], 0, 0) else none) else (bif Nat.beq pc 18 then some (.ifCond .eq 29, 21, [47], 0, 0) else none)) else (bif Nat.blt pc 22 then (bif Nat.beq pc 21 then some (.iload_n 2, 22, [], 0, 0) else none) else (bif Nat.beq pc 22 then some (.i2l, 23, [], 0, 0) else none))))) else (bif Nat.blt pc 39 then (bif Nat.blt pc 30 then (bif Nat.blt pc 24 then (bif Nat.beq pc 23 then some (.lconst 0, 24, [], 0, 0) else none) else (bif Nat.blt pc 27 then (bif Nat.beq pc 24 then some (.ldc2_w 69, 27, [], 0, 5) else none) else (bif Nat.beq pc 27 then some (.invokestatic 71, 30, [109], 0, 0) else none))) else (bif Nat.blt pc 34 then (bif Nat.blt pc 33 then (bif Nat.beq pc 30 then some (.ifCond .eq 17, 33, [47], 0, 0) else none) else (bif Nat.beq pc 33 then some (.aload_n 0, 34, [], 0, 0) else none)) else (bif Nat.blt pc 37 then (bif Nat.beq pc 34 then some (.getfield 25, 37, [6, 7, 247, 1, 347], 0, 0) else none) else (bif Nat.beq pc 37 then some (.bipush 6, 39, [], 6, 0) else none)))) else (bif Nat.blt pc 43 then (bif Nat.blt pc 41 then (bif Nat.blt pc 40 then (bif Nat.beq pc 39 then some (.iload_n 1, 40, [], 0, 0) else none) else (bif Nat.beq pc 40 then some (.imul, 41, [], 0, 0) else none)) else (bif Nat.blt pc 42 then (bif Nat.beq pc 41 then some (.iload_n 2, 42, [], 0, 0) else none) else (bif Nat.beq pc 42 then some (.iadd, 43, [], 0, 0) else none))) else (bif Nat.blt pc 47 then (bif Nat.blt pc 44 then (bif Nat.beq pc 43 then some (.iaload, 44, [], 0, 0) else none) else (bif Nat.beq pc 44 then some (.goto 4, 47, [48], 0, 0) else none)) else (bif Nat.blt pc 48 then (bif Nat.beq pc 47 then some (.iconst (-1), 48, [], (-1), 0) else none) else (bif Nat.beq pc 48 then some (.ireturn, 49, [0], 0, 0) else none))))))
def k_X6_had (pc : Nat) : Option mE := (bif Nat.blt pc 14 then (bif Nat.blt pc 7 then (bif Nat.blt pc 2 then (bif Nat.blt pc 1 then (bif Nat.beq pc 0 then some (.aload_n 0, 1, [], 0, 0) else none) else (bif Nat.beq pc 1 then some (.iconst 0, 2, [], 0, 0) else none)) else (bif Nat.blt pc 5 then (bif Nat.beq pc 2 then some (.putfield 65, 5, [6, 0, 240, 0, 0], 0, 0) else none) else (bif Nat.blt pc 6 then (bif Nat.beq pc 5 then some (.iload_n 1, 6, [], 0, 0) else none) else (bif Nat.beq pc 6 then some (.i2l, 7, [], 0, 0) else none)))) else (bif Nat.blt pc 9 then (bif Nat.blt pc 8 then (bif Nat.beq pc 7 then some (.lconst 0, 8, [], 0, 0) else none) else (bif Nat.beq pc 8 then some (.aload_n 0, 9, [], 0, 0) else none)) else (bif Nat.blt pc 12 then (bif Nat.beq pc 9 then some (.getfield 114, 12, [6, 1, 241, 0, 0], 0, 0) else none) else (bif Nat.blt pc 13 then (bif Nat.beq pc 12 then some (.iconst 1, 13, [], 1, 0) else none) else (bif Nat.beq pc 13 then some (.isub, 14, [], 0, 0) else none))))) else (bif Nat.blt pc 25 then (bif Nat.blt pc 18 then (bif Nat.blt pc 15 then (bif Nat.beq pc 14 then some (.i2l, 15, [], 0, 0) else none) else (bif Nat.beq pc 15 then some (.invokestatic 71, 18, [109], 0, 0) else none)) else (bif Nat.blt pc 21 then (bif Nat.beq pc 18 then some (.ifCond .eq 12, 21, [30], 0, 0) else none) else (bif Nat.blt pc 22 then (bif Nat.beq pc 21 then some (.aload_n 0, 22, [], 0, 0) else none) else (bif Nat.beq pc 22 then some (.getfield 28, 25, [6, 8, 248, 1, 348], 0, 0) else none)))) else (bif Nat.blt pc 27 then (bif Nat.blt pc 26 then (bif Nat.beq pc 25 then some (.iload_n 1, 26, [], 0, 0) else none) else (bif Nat.beq pc 26 then some (.iaload, 27, [], 0, 0) else none)) else (bif Nat.blt pc 30 then (bif Nat.beq pc 27 then some (.goto 4, 30, [31], 0, 0) else none) else (bif Nat.blt pc 31 then (bif Nat.beq pc 30 then some (.iconst (-1), 31, [], (-1), 0) else none) else (bif Nat.beq pc 31 then some (.ireturn, 32, [0], 0, 0) else none))))))
def k_X6_bitsOf (pc : Nat) : Option mE := (bif Nat.blt pc 16 then (bif Nat.blt pc 5 then (bif Nat.blt pc 2 then (bif Nat.blt pc 1 then (bif Nat.beq pc 0 then some (.iconst 0, 1, [], 0, 0) else none) else (bif Nat.beq pc 1 then some (.istore_n 1, 2, [], 0, 0) else none)) else (bif Nat.blt pc 3 then (bif Nat.beq pc 2 then some (.iconst 1, 3, [], 1, 0) else none) else (bif Nat.blt pc 4 then (bif Nat.beq pc 3 then some (.istore_n 2, 4, [], 0, 0) else none) else (bif Nat.beq pc 4 then some (.iload_n 2, 5, [], 0, 0) else none)))) else (bif Nat.blt pc 11 then (bif Nat.blt pc 7 then (bif Nat.beq pc 5 then some (.bipush 10, 7, [], 10, 0) else none) else (bif Nat.blt pc 10 then (bif Nat.beq pc 7 then some (.if_icmp .ge 27, 10, [34], 0, 0) else none) else (bif Nat.beq pc 10 then some (.iload_n 1, 11, [], 0, 0) else none))) else (bif Nat.blt pc 12 then (bif Nat.beq pc 11 then some (.iload_n 2, 12, [], 0, 0) else none) else (bif Nat.blt pc 13 then (bif Nat.beq pc 12 then some (.iload_n 0, 13, [], 0, 0) else none) else (bif Nat.beq pc 13 then some (.invokestatic 123, 16, [117], 0, 0) else none))))) else (bif Nat.blt pc 26 then (bif Nat.blt pc 21 then (bif Nat.blt pc 19 then (bif Nat.beq pc 16 then some (.ifCond .eq 9, 19, [25], 0, 0) else none) else (bif Nat.blt pc 20 then (bif Nat.beq pc 19 then some (.iconst 1, 20, [], 1, 0) else none) else (bif Nat.beq pc 20 then some (.iload_n 2, 21, [], 0, 0) else none))) else (bif Nat.blt pc 22 then (bif Nat.beq pc 21 then some (.ishl, 22, [], 0, 0) else none) else (bif Nat.blt pc 25 then (bif Nat.beq pc 22 then some (.goto 4, 25, [26], 0, 0) else none) else (bif Nat.beq pc 25 then some (.iconst 0, 26, [], 0, 0) else none)))) else (bif Nat.blt pc 31 then (bif Nat.blt pc 27 then (bif Nat.beq pc 26 then some (.ior, 27, [], 0, 0) else none) else (bif Nat.blt pc 28 then (bif Nat.beq pc 27 then some (.istore_n 1, 28, [], 0, 0) else none) else (bif Nat.beq pc 28 then some (.iinc 2 1, 31, [], 1, 0) else none))) else (bif Nat.blt pc 34 then (bif Nat.beq pc 31 then some (.goto (-27), 34, [4], 0, 0) else none) else (bif Nat.blt pc 35 then (bif Nat.beq pc 34 then some (.iload_n 1, 35, [], 0, 0) else none) else (bif Nat.beq pc 35 then some (.ireturn, 36, [0], 0, 0) else none))))))
def k_X6_adds (pc : Nat) : Option mE := (bif Nat.blt pc 17 then (bif Nat.blt pc 7 then (bif Nat.blt pc 4 then (bif Nat.blt pc 1 then (bif Nat.beq pc 0 then some (.aload_n 0, 1, [], 0, 0) else none) else (bif Nat.beq pc 1 then some (.getfield 59, 4, [6, 28, 268, 1, 368], 0, 0) else none)) else (bif Nat.blt pc 5 then (bif Nat.beq pc 4 then some (.iload_n 1, 5, [], 0, 0) else none) else (bif Nat.blt pc 6 then (bif Nat.beq pc 5 then some (.iaload, 6, [], 0, 0) else none) else (bif Nat.beq pc 6 then some (.iload_n 2, 7, [], 0, 0) else none)))) else (bif Nat.blt pc 12 then (bif Nat.blt pc 8 then (bif Nat.beq pc 7 then some (.ior, 8, [], 0, 0) else none) else (bif Nat.blt pc 9 then (bif Nat.beq pc 8 then some (.aload_n 0, 9, [], 0, 0) else none) else (bif Nat.beq pc 9 then some (.getfield 59, 12, [6, 28, 268, 1, 368], 0, 0) else none))) else (bif Nat.blt pc 13 then (bif Nat.beq pc 12 then some (.iload_n 1, 13, [], 0, 0) else none) else (bif Nat.blt pc 14 then (bif Nat.beq pc 13 then some (.iaload, 14, [], 0, 0) else none) else (bif Nat.beq pc 14 then some (.if_icmp .eq 18, 17, [32], 0, 0) else none))))) else (bif Nat.blt pc 25 then (bif Nat.blt pc 22 then (bif Nat.blt pc 18 then (bif Nat.beq pc 17 then some (.aload_n 0, 18, [], 0, 0) else none) else (bif Nat.blt pc 21 then (bif Nat.beq pc 18 then some (.getfield 59, 21, [6, 28, 268, 1, 368], 0, 0) else none) else (bif Nat.beq pc 21 then some (.iload_n 1, 22, [], 0, 0) else none))) else (bif Nat.blt pc 23 then (bif Nat.beq pc 22 then some (.dup2, 23, [], 0, 0) else none) else (bif Nat.blt pc 24 then (bif Nat.beq pc 23 then some (.iaload, 24, [], 0, 0) else none) else (bif Nat.beq pc 24 then some (.iload_n 2, 25, [], 0, 0) else none)))) else (bif Nat.blt pc 28 then (bif Nat.blt pc 26 then (bif Nat.beq pc 25 then some (.ior, 26, [], 0, 0) else none) else (bif Nat.blt pc 27 then (bif Nat.beq pc 26 then some (.iastore, 27, [], 0, 0) else none) else (bif Nat.beq pc 27 then some (.aload_n 0, 28, [], 0, 0) else none))) else (bif Nat.blt pc 29 then (bif Nat.beq pc 28 then some (.iconst 1, 29, [], 1, 0) else none) else (bif Nat.blt pc 32 then (bif Nat.beq pc 29 then some (.putfield 180, 32, [6, 29, 269, 2, 0], 0, 0) else none) else (bif Nat.beq pc 32 then some (.return_, 33, [], 0, 0) else none))))))
def k_X6_takes (pc : Nat) : Option mE := (bif Nat.blt pc 17 then (bif Nat.blt pc 8 then (bif Nat.blt pc 2 then (bif Nat.blt pc 1 then (bif Nat.beq pc 0 then some (.iconst 0, 1, [], 0, 0) else none) else (bif Nat.beq pc 1 then some (.istore_n 2, 2, [], 0, 0) else none)) else (bif Nat.blt pc 3 then (bif Nat.beq pc 2 then some (.iload_n 2, 3, [], 0, 0) else none) else (bif Nat.blt pc 5 then (bif Nat.beq pc 3 then some (.bipush 6, 5, [], 6, 0) else none) else (bif Nat.beq pc 5 then some (.if_icmp .ge 26, 8, [31], 0, 0) else none)))) else (bif Nat.blt pc 12 then (bif Nat.blt pc 9 then (bif Nat.beq pc 8 then some (.aload_n 0, 9, [], 0, 0) else none) else (bif Nat.beq pc 9 then some (.getfield 62, 12, [6, 30, 270, 1, 370], 0, 0) else none)) else (bif Nat.blt pc 13 then (bif Nat.beq pc 12 then some (.iload_n 2, 13, [], 0, 0) else none) else (bif Nat.blt pc 14 then (bif Nat.beq pc 13 then some (.aload_n 0, 14, [], 0, 0) else none) else (bif Nat.beq pc 14 then some (.getfield 52, 17, [6, 26, 266, 1, 366], 0, 0) else none))))) else (bif Nat.blt pc 23 then (bif Nat.blt pc 20 then (bif Nat.blt pc 19 then (bif Nat.beq pc 17 then some (.bipush 6, 19, [], 6, 0) else none) else (bif Nat.beq pc 19 then some (.iload_n 1, 20, [], 0, 0) else none)) else (bif Nat.blt pc 21 then (bif Nat.beq pc 20 then some (.imul, 21, [], 0, 0) else none) else (bif Nat.blt pc 22 then (bif Nat.beq pc 21 then some (.iload_n 2, 22, [], 0, 0) else none) else (bif Nat.beq pc 22 then some (.iadd, 23, [], 0, 0) else none)))) else (bif Nat.blt pc 25 then (bif Nat.blt pc 24 then (bif Nat.beq pc 23 then some (.iaload, 24, [], 0, 0) else none) else (bif Nat.beq pc 24 then some (.iastore, 25, [], 0, 0) else none)) else (bif Nat.blt pc 28 then (bif Nat.beq pc 25 then some (.iinc 2 1, 28, [], 1, 0) else none) else (bif Nat.blt pc 31 then (bif Nat.beq pc 28 then some (.goto (-26), 31, [2], 0, 0) else none) else (bif Nat.beq pc 31 then some (.return_, 32, [], 0, 0) else none))))))
def k_X6_comes (pc : Nat) : Option mE := (bif Nat.blt pc 76 then (bif Nat.blt pc 39 then (bif Nat.blt pc 17 then (bif Nat.blt pc 9 then (bif Nat.blt pc 2 then (bif Nat.blt pc 1 then (bif Nat.beq pc 0 then some (.iload_n 1, 1, [], 0, 0) else none) else (bif Nat.beq pc 1 then some (.aload_n 0, 2, [], 0, 0) else none)) else (bif Nat.blt pc 5 then (bif Nat.beq pc 2 then some (.getfield 114, 5, [6, 1, 241, 0, 0], 0, 0) else none) else (bif Nat.blt pc 8 then (bif Nat.beq pc 5 then some (.if_icmp .ge 7, 8, [12], 0, 0) else none) else (bif Nat.beq pc 8 then some (.iconst 1, 9, [], 1, 0) else none)))) else (bif Nat.blt pc 14 then (bif Nat.blt pc 12 then (bif Nat.beq pc 9 then some (.goto 4, 12, [13], 0, 0) else none) else (bif Nat.blt pc 13 then (bif Nat.beq pc 12 then some (.iconst 0, 13, [], 0, 0) else none) else (bif Nat.beq pc 13 then some (.istore_n 2, 14, [], 0, 0) else none))) else (bif Nat.blt pc 15 then (bif Nat.beq pc 14 then some (.iconst 0, 15, [], 0, 0) else none) else (bif Nat.blt pc 16 then (bif Nat.beq pc 15 then some (.istore_n 3, 16, [], 0, 0) else none) else (bif Nat.beq pc 16 then some (.iload_n 3, 17, [], 0, 0) else none))))) else (bif Nat.blt pc 27 then (bif Nat.blt pc 22 then (bif Nat.blt pc 19 then (bif Nat.beq pc 17 then some (.bipush 6, 19, [], 6, 0) else none) else (bif Nat.beq pc 19 then some (.if_icmp .ge 28, 22, [47], 0, 0) else none)) else (bif Nat.blt pc 23 then (bif Nat.beq pc 22 then some (.iload_n 2, 23, [], 0, 0) else none) else (bif Nat.blt pc 26 then (bif Nat.beq pc 23 then some (.ifCond .eq 16, 26, [39], 0, 0) else none) else (bif Nat.beq pc 26 then some (.aload_n 0, 27, [], 0, 0) else none)))) else (bif Nat.blt pc 32 then (bif Nat.blt pc 30 then (bif Nat.beq pc 27 then some (.getfield 62, 30, [6, 30, 270, 1, 370], 0, 0) else none) else (bif Nat.blt pc 31 then (bif Nat.beq pc 30 then some (.iload_n 3, 31, [], 0, 0) else none) else (bif Nat.beq pc 31 then some (.iaload, 32, [], 0, 0) else none))) else (bif Nat.blt pc 35 then (bif Nat.beq pc 32 then some (.ifCond .eq 7, 35, [39], 0, 0) else none) else (bif Nat.blt pc 36 then (bif Nat.beq pc 35 then some (.iconst 1, 36, [], 1, 0) else none) else (bif Nat.beq pc 36 then some (.goto 4, 39, [40], 0, 0) else none)))))) else (bif Nat.blt pc 58 then (bif Nat.blt pc 48 then (bif Nat.blt pc 41 then (bif Nat.blt pc 40 then (bif Nat.beq pc 39 then some (.iconst 0, 40, [], 0, 0) else none) else (bif Nat.beq pc 40 then some (.istore_n 2, 41, [], 0, 0) else none)) else (bif Nat.blt pc 44 then (bif Nat.beq pc 41 then some (.iinc 3 1, 44, [], 1, 0) else none) else (bif Nat.blt pc 47 then (bif Nat.beq pc 44 then some (.goto (-28), 47, [16], 0, 0) else none) else (bif Nat.beq pc 47 then some (.iload_n 2, 48, [], 0, 0) else none)))) else (bif Nat.blt pc 53 then (bif Nat.blt pc 51 then (bif Nat.beq pc 48 then some (.ifCond .ne 4, 51, [52], 0, 0) else none) else (bif Nat.blt pc 52 then (bif Nat.beq pc 51 then some (.return_, 52, [], 0, 0) else none) else (bif Nat.beq pc 52 then some (.aload_n 0, 53, [], 0, 0) else none))) else (bif Nat.blt pc 56 then (bif Nat.beq pc 53 then some (.getfield 55, 56, [6, 27, 267, 1, 367], 0, 0) else none) else (bif Nat.blt pc 57 then (bif Nat.beq pc 56 then some (.iload_n 1, 57, [], 0, 0) else none) else (bif Nat.beq pc 57 then some (.baload, 58, [], 0, 0) else none))))) else (bif Nat.blt pc 68 then (bif Nat.blt pc 65 then (bif Nat.blt pc 61 then (bif Nat.beq pc 58 then some (.ifCond .ne 15, 61, [73], 0, 0) else none) else (bif Nat.blt pc 62 then (bif Nat.beq pc 61 then some (.aload_n 0, 62, [], 0, 0) else none) else (bif Nat.beq pc 62 then some (.getfield 55, 65, [6, 27, 267, 1, 367], 0, 0) else none))) else (bif Nat.blt pc 66 then (bif Nat.beq pc 65 then some (.iload_n 1, 66, [], 0, 0) else none) else (bif Nat.blt pc 67 then (bif Nat.beq pc 66 then some (.iconst 1, 67, [], 1, 0) else none) else (bif Nat.beq pc 67 then some (.bastore, 68, [], 0, 0) else none)))) else (bif Nat.blt pc 73 then (bif Nat.blt pc 69 then (bif Nat.beq pc 68 then some (.aload_n 0, 69, [], 0, 0) else none) else (bif Nat.blt pc 70 then (bif Nat.beq pc 69 then some (.iconst 1, 70, [], 1, 0) else none) else (bif Nat.beq pc 70 then some (.putfield 180, 73, [6, 29, 269, 2, 0], 0, 0) else none))) else (bif Nat.blt pc 74 then (bif Nat.beq pc 73 then some (.iconst 0, 74, [], 0, 0) else none) else (bif Nat.blt pc 75 then (bif Nat.beq pc 74 then some (.istore_n 3, 75, [], 0, 0) else none) else (bif Nat.beq pc 75 then some (.iload_n 3, 76, [], 0, 0) else none))))))) else (bif Nat.blt pc 109 then (bif Nat.blt pc 93 then (bif Nat.blt pc 87 then (bif Nat.blt pc 81 then (bif Nat.blt pc 78 then (bif Nat.beq pc 76 then some (.bipush 6, 78, [], 6, 0) else none) else (bif Nat.beq pc 78 then some (.if_icmp .ge 66, 81, [144], 0, 0) else none)) else (bif Nat.blt pc 82 then (bif Nat.beq pc 81 then some (.aload_n 0, 82, [], 0, 0) else none) else (bif Nat.blt pc 85 then (bif Nat.beq pc 82 then some (.getfield 52, 85, [6, 26, 266, 1, 366], 0, 0) else none) else (bif Nat.beq pc 85 then some (.bipush 6, 87, [], 6, 0) else none)))) else (bif Nat.blt pc 90 then (bif Nat.blt pc 88 then (bif Nat.beq pc 87 then some (.iload_n 1, 88, [], 0, 0) else none) else (bif Nat.blt pc 89 then (bif Nat.beq pc 88 then some (.imul, 89, [], 0, 0) else none) else (bif Nat.beq pc 89 then some (.iload_n 3, 90, [], 0, 0) else none))) else (bif Nat.blt pc 91 then (bif Nat.beq pc 90 then some (.iadd, 91, [], 0, 0) else none) else (bif Nat.blt pc 92 then (bif Nat.beq pc 91 then some (.iaload, 92, [], 0, 0) else none) else (bif Nat.beq pc 92 then some (.aload_n 0, 93, [], 0, 0) else none))))) else (bif Nat.blt pc 100 then (bif Nat.blt pc 97 then (bif Nat.blt pc 96 then (bif Nat.beq pc 93 then some (.getfield 62, 96, [6, 30, 270, 1, 370], 0, 0) else none) else (bif Nat.beq pc 96 then some (.iload_n 3, 97, [], 0, 0) else none)) else (bif Nat.blt pc 98 then (bif Nat.beq pc 97 then some (.iaload, 98, [], 0, 0) else none) else (bif Nat.blt pc 99 then (bif Nat.beq pc 98 then some (.ior, 99, [], 0, 0) else none) else (bif Nat.beq pc 99 then some (.aload_n 0, 100, [], 0, 0) else none)))) else (bif Nat.blt pc 106 then (bif Nat.blt pc 103 then (bif Nat.beq pc 100 then some (.getfield 52, 103, [6, 26, 266, 1, 366], 0, 0) else none) else (bif Nat.blt pc 105 then (bif Nat.beq pc 103 then some (.bipush 6, 105, [], 6, 0) else none) else (bif Nat.beq pc 105 then some (.iload_n 1, 106, [], 0, 0) else none))) else (bif Nat.blt pc 107 then (bif Nat.beq pc 106 then some (.imul, 107, [], 0, 0) else none) else (bif Nat.blt pc 108 then (bif Nat.beq pc 107 then some (.iload_n 3, 108, [], 0, 0) else none) else (bif Nat.beq pc 108 then some (.iadd, 109, [], 0, 0) else none)))))) else (bif Nat.blt pc 125 then (bif Nat.blt pc 119 then (bif Nat.blt pc 113 then (bif Nat.blt pc 110 then (bif Nat.beq pc 109 then some (.iaload, 110, [], 0, 0) else none) else (bif Nat.beq pc 110 then some (.if_icmp .eq 28, 113, [138], 0, 0) else none)) else (bif Nat.blt pc 114 then (bif Nat.beq pc 113 then some (.aload_n 0, 114, [], 0, 0) else none) else (bif Nat.blt pc 117 then (bif Nat.beq pc 114 then some (.getfield 52, 117, [6, 26, 266, 1, 366], 0, 0) else none) else (bif Nat.beq pc 117 then some (.bipush 6, 119, [], 6, 0) else none)))) else (bif Nat.blt pc 122 then (bif Nat.blt pc 120 then (bif Nat.beq pc 119 then some (.iload_n 1, 120, [], 0, 0) else none) else (bif Nat.blt pc 121 then (bif Nat.beq pc 120 then some (.imul, 121, [], 0, 0) else none) else (bif Nat.beq pc 121 then some (.iload_n 3, 122, [], 0, 0) else none))) else (bif Nat.blt pc 123 then (bif Nat.beq pc 122 then some (.iadd, 123, [], 0, 0) else none) else (bif Nat.blt pc 124 then (bif Nat.beq pc 123 then some (.dup2, 124, [], 0, 0) else none) else (bif Nat.beq pc 124 then some (.iaload, 125, [], 0, 0) else none))))) else (bif Nat.blt pc 133 then (bif Nat.blt pc 130 then (bif Nat.blt pc 126 then (bif Nat.beq pc 125 then some (.aload_n 0, 126, [], 0, 0) else none) else (bif Nat.blt pc 129 then (bif Nat.beq pc 126 then some (.getfield 62, 129, [6, 30, 270, 1, 370], 0, 0) else none) else (bif Nat.beq pc 129 then some (.iload_n 3, 130, [], 0, 0) else none))) else (bif Nat.blt pc 131 then (bif Nat.beq pc 130 then some (.iaload, 131, [], 0, 0) else none) else (bif Nat.blt pc 132 then (bif Nat.beq pc 131 then some (.ior, 132, [], 0, 0) else none) else (bif Nat.beq pc 132 then some (.iastore, 133, [], 0, 0) else none)))) else (bif Nat.blt pc 138 then (bif Nat.blt pc 134 then (bif Nat.beq pc 133 then some (.aload_n 0, 134, [], 0, 0) else none) else (bif Nat.blt pc 135 then (bif Nat.beq pc 134 then some (.iconst 1, 135, [], 1, 0) else none) else (bif Nat.beq pc 135 then some (.putfield 180, 138, [6, 29, 269, 2, 0], 0, 0) else none))) else (bif Nat.blt pc 141 then (bif Nat.beq pc 138 then some (.iinc 3 1, 141, [], 1, 0) else none) else (bif Nat.blt pc 144 then (bif Nat.beq pc 141 then some (.goto (-66), 144, [75], 0, 0) else none) else (bif Nat.beq pc 144 then some (.return_, 145, [], 0, 0) else none))))))))
def k_X6_copies (pc : Nat) : Option mE := (bif Nat.blt pc 40 then (bif Nat.blt pc 21 then (bif Nat.blt pc 7 then (bif Nat.blt pc 3 then (bif Nat.blt pc 1 then (bif Nat.beq pc 0 then some (.iconst 0, 1, [], 0, 0) else none) else (bif Nat.blt pc 2 then (bif Nat.beq pc 1 then some (.istore_n 2, 2, [], 0, 0) else none) else (bif Nat.beq pc 2 then some (.iconst 5, 3, [], 5, 0) else none))) else (bif Nat.blt pc 4 then (bif Nat.beq pc 3 then some (.istore_n 3, 4, [], 0, 0) else none) else (bif Nat.blt pc 5 then (bif Nat.beq pc 4 then some (.iload_n 3, 5, [], 0, 0) else none) else (bif Nat.beq pc 5 then some (.bipush 10, 7, [], 10, 0) else none)))) else (bif Nat.blt pc 13 then (bif Nat.blt pc 10 then (bif Nat.beq pc 7 then some (.if_icmp .ge 85, 10, [92], 0, 0) else none) else (bif Nat.blt pc 11 then (bif Nat.beq pc 10 then some (.iconst 5, 11, [], 5, 0) else none) else (bif Nat.beq pc 11 then some (.istore 4, 13, [], 0, 0) else none))) else (bif Nat.blt pc 17 then (bif Nat.blt pc 15 then (bif Nat.beq pc 13 then some (.iload 4, 15, [], 0, 0) else none) else (bif Nat.beq pc 15 then some (.bipush 10, 17, [], 10, 0) else none)) else (bif Nat.blt pc 20 then (bif Nat.beq pc 17 then some (.if_icmp .ge 69, 20, [86], 0, 0) else none) else (bif Nat.beq pc 20 then some (.iload_n 0, 21, [], 0, 0) else none))))) else (bif Nat.blt pc 30 then (bif Nat.blt pc 24 then (bif Nat.blt pc 22 then (bif Nat.beq pc 21 then some (.iload_n 3, 22, [], 0, 0) else none) else (bif Nat.blt pc 23 then (bif Nat.beq pc 22 then some (.ishr, 23, [], 0, 0) else none) else (bif Nat.beq pc 23 then some (.iconst 1, 24, [], 1, 0) else none))) else (bif Nat.blt pc 26 then (bif Nat.blt pc 25 then (bif Nat.beq pc 24 then some (.iand, 25, [], 0, 0) else none) else (bif Nat.beq pc 25 then some (.iconst 1, 26, [], 1, 0) else none)) else (bif Nat.blt pc 29 then (bif Nat.beq pc 26 then some (.if_icmp .ne 36, 29, [62], 0, 0) else none) else (bif Nat.beq pc 29 then some (.iload_n 1, 30, [], 0, 0) else none)))) else (bif Nat.blt pc 34 then (bif Nat.blt pc 32 then (bif Nat.beq pc 30 then some (.iload 4, 32, [], 0, 0) else none) else (bif Nat.blt pc 33 then (bif Nat.beq pc 32 then some (.ishr, 33, [], 0, 0) else none) else (bif Nat.beq pc 33 then some (.iconst 1, 34, [], 1, 0) else none))) else (bif Nat.blt pc 36 then (bif Nat.blt pc 35 then (bif Nat.beq pc 34 then some (.iand, 35, [], 0, 0) else none) else (bif Nat.beq pc 35 then some (.iconst 1, 36, [], 1, 0) else none)) else (bif Nat.blt pc 39 then (bif Nat.beq pc 36 then some (.if_icmp .ne 26, 39, [62], 0, 0) else none) else (bif Nat.beq pc 39 then some (.iload_n 3, 40, [], 0, 0) else none)))))) else (bif Nat.blt pc 68 then (bif Nat.blt pc 55 then (bif Nat.blt pc 46 then (bif Nat.blt pc 42 then (bif Nat.beq pc 40 then some (.iload 4, 42, [], 0, 0) else none) else (bif Nat.blt pc 45 then (bif Nat.beq pc 42 then some (.if_icmp .eq 16, 45, [58], 0, 0) else none) else (bif Nat.beq pc 45 then some (.iload_n 3, 46, [], 0, 0) else none))) else (bif Nat.blt pc 51 then (bif Nat.blt pc 48 then (bif Nat.beq pc 46 then some (.bipush 6, 48, [], 6, 0) else none) else (bif Nat.beq pc 48 then some (.if_icmp .le 14, 51, [62], 0, 0) else none)) else (bif Nat.blt pc 53 then (bif Nat.beq pc 51 then some (.iload 4, 53, [], 0, 0) else none) else (bif Nat.beq pc 53 then some (.bipush 6, 55, [], 6, 0) else none)))) else (bif Nat.blt pc 62 then (bif Nat.blt pc 58 then (bif Nat.beq pc 55 then some (.if_icmp .le 7, 58, [62], 0, 0) else none) else (bif Nat.blt pc 59 then (bif Nat.beq pc 58 then some (.iconst 1, 59, [], 1, 0) else none) else (bif Nat.beq pc 59 then some (.goto 4, 62, [63], 0, 0) else none))) else (bif Nat.blt pc 65 then (bif Nat.blt pc 63 then (bif Nat.beq pc 62 then some (.iconst 0, 63, [], 0, 0) else none) else (bif Nat.beq pc 63 then some (.istore 5, 65, [], 0, 0) else none)) else (bif Nat.blt pc 66 then (bif Nat.beq pc 65 then some (.iload_n 2, 66, [], 0, 0) else none) else (bif Nat.beq pc 66 then some (.iload 5, 68, [], 0, 0) else none))))) else (bif Nat.blt pc 79 then (bif Nat.blt pc 73 then (bif Nat.blt pc 71 then (bif Nat.beq pc 68 then some (.ifCond .eq 9, 71, [77], 0, 0) else none) else (bif Nat.blt pc 72 then (bif Nat.beq pc 71 then some (.iconst 1, 72, [], 1, 0) else none) else (bif Nat.beq pc 72 then some (.iload_n 3, 73, [], 0, 0) else none))) else (bif Nat.blt pc 77 then (bif Nat.blt pc 74 then (bif Nat.beq pc 73 then some (.ishl, 74, [], 0, 0) else none) else (bif Nat.beq pc 74 then some (.goto 4, 77, [78], 0, 0) else none)) else (bif Nat.blt pc 78 then (bif Nat.beq pc 77 then some (.iconst 0, 78, [], 0, 0) else none) else (bif Nat.beq pc 78 then some (.ior, 79, [], 0, 0) else none)))) else (bif Nat.blt pc 86 then (bif Nat.blt pc 80 then (bif Nat.beq pc 79 then some (.istore_n 2, 80, [], 0, 0) else none) else (bif Nat.blt pc 83 then (bif Nat.beq pc 80 then some (.iinc 4 1, 83, [], 1, 0) else none) else (bif Nat.beq pc 83 then some (.goto (-70), 86, [13], 0, 0) else none))) else (bif Nat.blt pc 92 then (bif Nat.blt pc 89 then (bif Nat.beq pc 86 then some (.iinc 3 1, 89, [], 1, 0) else none) else (bif Nat.beq pc 89 then some (.goto (-85), 92, [4], 0, 0) else none)) else (bif Nat.blt pc 93 then (bif Nat.beq pc 92 then some (.iload_n 2, 93, [], 0, 0) else none) else (bif Nat.beq pc 93 then some (.ireturn, 94, [0], 0, 0) else none)))))))
def k_X6_goOn (pc : Nat) : Option mE := (bif Nat.blt pc 445 then (bif Nat.blt pc 271 then (bif Nat.blt pc 80 then (bif Nat.blt pc 40 then (bif Nat.blt pc 18 then (bif Nat.blt pc 10 then (bif Nat.blt pc 5 then (bif Nat.blt pc 1 then (bif Nat.beq pc 0 then some (.aload_n 0, 1, [], 0, 0) else none) else (bif Nat.blt pc 2 then (bif Nat.beq pc 1 then some (.iload_n 1, 2, [], 0, 0) else none) else (bif Nat.beq pc 2 then some (.invokevirtual 183, 5, [136], 0, 0) else none))) else (bif Nat.blt pc 6 then (bif Nat.beq pc 5 then some (.aload_n 0, 6, [], 0, 0) else none) else (bif Nat.blt pc 9 then (bif Nat.beq pc 6 then some (.getfield 13, 9, [6, 3, 243, 1, 343], 0, 0) else none) else (bif Nat.beq pc 9 then some (.iload_n 1, 10, [], 0, 0) else none)))) else (bif Nat.blt pc 13 then (bif Nat.blt pc 11 then (bif Nat.beq pc 10 then some (.iaload, 11, [], 0, 0) else none) else (bif Nat.blt pc 12 then (bif Nat.beq pc 11 then some (.istore_n 2, 12, [], 0, 0) else none) else (bif Nat.beq pc 12 then some (.aload_n 0, 13, [], 0, 0) else none))) else (bif Nat.blt pc 16 then (bif Nat.beq pc 13 then some (.getfield 16, 16, [6, 4, 244, 1, 344], 0, 0) else none) else (bif Nat.blt pc 17 then (bif Nat.beq pc 16 then some (.iload_n 1, 17, [], 0, 0) else none) else (bif Nat.beq pc 17 then some (.iaload, 18, [], 0, 0) else none))))) else (bif Nat.blt pc 27 then (bif Nat.blt pc 23 then (bif Nat.blt pc 19 then (bif Nat.beq pc 18 then some (.istore_n 3, 19, [], 0, 0) else none) else (bif Nat.blt pc 20 then (bif Nat.beq pc 19 then some (.aload_n 0, 20, [], 0, 0) else none) else (bif Nat.beq pc 20 then some (.getfield 19, 23, [6, 5, 245, 1, 345], 0, 0) else none))) else (bif Nat.blt pc 24 then (bif Nat.beq pc 23 then some (.iload_n 1, 24, [], 0, 0) else none) else (bif Nat.blt pc 25 then (bif Nat.beq pc 24 then some (.iaload, 25, [], 0, 0) else none) else (bif Nat.beq pc 25 then some (.istore 4, 27, [], 0, 0) else none)))) else (bif Nat.blt pc 32 then (bif Nat.blt pc 28 then (bif Nat.beq pc 27 then some (.aload_n 0, 28, [], 0, 0) else none) else (bif Nat.blt pc 31 then (bif Nat.beq pc 28 then some (.getfield 7, 31, [6, 2, 242, 1, 342], 0, 0) else none) else (bif Nat.beq pc 31 then some (.iload_n 1, 32, [], 0, 0) else none))) else (bif Nat.blt pc 36 then (bif Nat.blt pc 33 then (bif Nat.beq pc 32 then some (.iaload, 33, [], 0, 0) else none) else (bif Nat.beq pc 33 then some (.invokestatic 98, 36, [110], 0, 0) else none)) else (bif Nat.blt pc 37 then (bif Nat.beq pc 36 then some (.iconst 1, 37, [], 1, 0) else none) else (bif Nat.beq pc 37 then some (.if_icmp .ne 17, 40, [54], 0, 0) else none)))))) else (bif Nat.blt pc 58 then (bif Nat.blt pc 49 then (bif Nat.blt pc 46 then (bif Nat.blt pc 41 then (bif Nat.beq pc 40 then some (.aload_n 0, 41, [], 0, 0) else none) else (bif Nat.blt pc 44 then (bif Nat.beq pc 41 then some (.getfield 52, 44, [6, 26, 266, 1, 366], 0, 0) else none) else (bif Nat.beq pc 44 then some (.bipush 6, 46, [], 6, 0) else none))) else (bif Nat.blt pc 47 then (bif Nat.beq pc 46 then some (.iload_n 1, 47, [], 0, 0) else none) else (bif Nat.blt pc 48 then (bif Nat.beq pc 47 then some (.imul, 48, [], 0, 0) else none) else (bif Nat.beq pc 48 then some (.iload_n 2, 49, [], 0, 0) else none)))) else (bif Nat.blt pc 54 then (bif Nat.blt pc 50 then (bif Nat.beq pc 49 then some (.iadd, 50, [], 0, 0) else none) else (bif Nat.blt pc 51 then (bif Nat.beq pc 50 then some (.iaload, 51, [], 0, 0) else none) else (bif Nat.beq pc 51 then some (.goto 4, 54, [55], 0, 0) else none))) else (bif Nat.blt pc 55 then (bif Nat.beq pc 54 then some (.iconst 0, 55, [], 0, 0) else none) else (bif Nat.blt pc 57 then (bif Nat.beq pc 55 then some (.istore 5, 57, [], 0, 0) else none) else (bif Nat.beq pc 57 then some (.aload_n 0, 58, [], 0, 0) else none))))) else (bif Nat.blt pc 70 then (bif Nat.blt pc 63 then (bif Nat.blt pc 61 then (bif Nat.beq pc 58 then some (.getfield 7, 61, [6, 2, 242, 1, 342], 0, 0) else none) else (bif Nat.blt pc 62 then (bif Nat.beq pc 61 then some (.iload_n 1, 62, [], 0, 0) else none) else (bif Nat.beq pc 62 then some (.iaload, 63, [], 0, 0) else none))) else (bif Nat.blt pc 66 then (bif Nat.beq pc 63 then some (.invokestatic 106, 66, [111], 0, 0) else none) else (bif Nat.blt pc 67 then (bif Nat.beq pc 66 then some (.iconst 1, 67, [], 1, 0) else none) else (bif Nat.beq pc 67 then some (.if_icmp .ne 17, 70, [84], 0, 0) else none)))) else (bif Nat.blt pc 76 then (bif Nat.blt pc 71 then (bif Nat.beq pc 70 then some (.aload_n 0, 71, [], 0, 0) else none) else (bif Nat.blt pc 74 then (bif Nat.beq pc 71 then some (.getfield 52, 74, [6, 26, 266, 1, 366], 0, 0) else none) else (bif Nat.beq pc 74 then some (.bipush 6, 76, [], 6, 0) else none))) else (bif Nat.blt pc 78 then (bif Nat.blt pc 77 then (bif Nat.beq pc 76 then some (.iload_n 1, 77, [], 0, 0) else none) else (bif Nat.beq pc 77 then some (.imul, 78, [], 0, 0) else none)) else (bif Nat.blt pc 79 then (bif Nat.beq pc 78 then some (.iload_n 3, 79, [], 0, 0) else none) else (bif Nat.beq pc 79 then some (.iadd, 80, [], 0, 0) else none))))))) else (bif Nat.blt pc 230 then (bif Nat.blt pc 209 then (bif Nat.blt pc 91 then (bif Nat.blt pc 85 then (bif Nat.blt pc 81 then (bif Nat.beq pc 80 then some (.iaload, 81, [], 0, 0) else none) else (bif Nat.blt pc 84 then (bif Nat.beq pc 81 then some (.goto 4, 84, [85], 0, 0) else none) else (bif Nat.beq pc 84 then some (.iconst 0, 85, [], 0, 0) else none))) else (bif Nat.blt pc 87 then (bif Nat.beq pc 85 then some (.istore 6, 87, [], 0, 0) else none) else (bif Nat.blt pc 88 then (bif Nat.beq pc 87 then some (.aload_n 0, 88, [], 0, 0) else none) else (bif Nat.beq pc 88 then some (.getfield 7, 91, [6, 2, 242, 1, 342], 0, 0) else none)))) else (bif Nat.blt pc 204 then (bif Nat.blt pc 92 then (bif Nat.beq pc 91 then some (.iload_n 1, 92, [], 0, 0) else none) else (bif Nat.blt pc 93 then (bif Nat.beq pc 92 then some (.iaload, 93, [], 0, 0) else none) else (bif Nat.beq pc 93 then some (.tableswitch 720 0 23 #[111, 121, 121, 133, 144, 181, 211, 245, 280, 310, 380, 536, 536, 550, 565, 579, 720, 720, 720, 593, 602, 608, 609, 608], 204, [813, 204, 214, 214, 226, 237, 274, 304, 338, 373, 403, 473, 629, 629, 643, 658, 672, 813, 813, 813, 686, 695, 701, 702, 701], 0, 0) else none))) else (bif Nat.blt pc 205 then (bif Nat.beq pc 204 then some (.aload_n 0, 205, [], 0, 0) else none) else (bif Nat.blt pc 208 then (bif Nat.beq pc 205 then some (.getfield 62, 208, [6, 30, 270, 1, 370], 0, 0) else none) else (bif Nat.beq pc 208 then some (.iload_n 2, 209, [], 0, 0) else none))))) else (bif Nat.blt pc 219 then (bif Nat.blt pc 214 then (bif Nat.blt pc 210 then (bif Nat.beq pc 209 then some (.iconst 1, 210, [], 1, 0) else none) else (bif Nat.blt pc 211 then (bif Nat.beq pc 210 then some (.iastore, 211, [], 0, 0) else none) else (bif Nat.beq pc 211 then some (.goto 602, 214, [813], 0, 0) else none))) else (bif Nat.blt pc 215 then (bif Nat.beq pc 214 then some (.aload_n 0, 215, [], 0, 0) else none) else (bif Nat.blt pc 218 then (bif Nat.beq pc 215 then some (.getfield 62, 218, [6, 30, 270, 1, 370], 0, 0) else none) else (bif Nat.beq pc 218 then some (.iload_n 2, 219, [], 0, 0) else none)))) else (bif Nat.blt pc 222 then (bif Nat.blt pc 220 then (bif Nat.beq pc 219 then some (.iconst 1, 220, [], 1, 0) else none) else (bif Nat.blt pc 221 then (bif Nat.beq pc 220 then some (.iload_n 3, 221, [], 0, 0) else none) else (bif Nat.beq pc 221 then some (.ishl, 222, [], 0, 0) else none))) else (bif Nat.blt pc 226 then (bif Nat.blt pc 223 then (bif Nat.beq pc 222 then some (.iastore, 223, [], 0, 0) else none) else (bif Nat.beq pc 223 then some (.goto 590, 226, [813], 0, 0) else none)) else (bif Nat.blt pc 227 then (bif Nat.beq pc 226 then some (.aload_n 0, 227, [], 0, 0) else none) else (bif Nat.beq pc 227 then some (.getfield 62, 230, [6, 30, 270, 1, 370], 0, 0) else none)))))) else (bif Nat.blt pc 250 then (bif Nat.blt pc 241 then (bif Nat.blt pc 234 then (bif Nat.blt pc 231 then (bif Nat.beq pc 230 then some (.iload_n 2, 231, [], 0, 0) else none) else (bif Nat.blt pc 233 then (bif Nat.beq pc 231 then some (.iload 6, 233, [], 0, 0) else none) else (bif Nat.beq pc 233 then some (.iastore, 234, [], 0, 0) else none))) else (bif Nat.blt pc 237 then (bif Nat.beq pc 234 then some (.goto 579, 237, [813], 0, 0) else none) else (bif Nat.blt pc 238 then (bif Nat.beq pc 237 then some (.aload_n 0, 238, [], 0, 0) else none) else (bif Nat.beq pc 238 then some (.getfield 62, 241, [6, 30, 270, 1, 370], 0, 0) else none)))) else (bif Nat.blt pc 245 then (bif Nat.blt pc 242 then (bif Nat.beq pc 241 then some (.iload_n 2, 242, [], 0, 0) else none) else (bif Nat.blt pc 244 then (bif Nat.beq pc 242 then some (.iload 5, 244, [], 0, 0) else none) else (bif Nat.beq pc 244 then some (.iload_n 3, 245, [], 0, 0) else none))) else (bif Nat.blt pc 248 then (bif Nat.beq pc 245 then some (.invokestatic 187, 248, [134], 0, 0) else none) else (bif Nat.blt pc 249 then (bif Nat.beq pc 248 then some (.iand, 249, [], 0, 0) else none) else (bif Nat.beq pc 249 then some (.iastore, 250, [], 0, 0) else none))))) else (bif Nat.blt pc 261 then (bif Nat.blt pc 256 then (bif Nat.blt pc 251 then (bif Nat.beq pc 250 then some (.aload_n 0, 251, [], 0, 0) else none) else (bif Nat.blt pc 253 then (bif Nat.beq pc 251 then some (.iload 4, 253, [], 0, 0) else none) else (bif Nat.beq pc 253 then some (.invokevirtual 190, 256, [137], 0, 0) else none))) else (bif Nat.blt pc 257 then (bif Nat.beq pc 256 then some (.aload_n 0, 257, [], 0, 0) else none) else (bif Nat.blt pc 260 then (bif Nat.beq pc 257 then some (.getfield 62, 260, [6, 30, 270, 1, 370], 0, 0) else none) else (bif Nat.beq pc 260 then some (.iload_n 2, 261, [], 0, 0) else none)))) else (bif Nat.blt pc 267 then (bif Nat.blt pc 263 then (bif Nat.beq pc 261 then some (.iload 5, 263, [], 0, 0) else none) else (bif Nat.blt pc 264 then (bif Nat.beq pc 263 then some (.iload_n 3, 264, [], 0, 0) else none) else (bif Nat.beq pc 264 then some (.invokestatic 187, 267, [134], 0, 0) else none))) else (bif Nat.blt pc 269 then (bif Nat.blt pc 268 then (bif Nat.beq pc 267 then some (.iconst (-1), 268, [], (-1), 0) else none) else (bif Nat.beq pc 268 then some (.ixor, 269, [], 0, 0) else none)) else (bif Nat.blt pc 270 then (bif Nat.beq pc 269 then some (.iand, 270, [], 0, 0) else none) else (bif Nat.beq pc 270 then some (.iastore, 271, [], 0, 0) else none)))))))) else (bif Nat.blt pc 356 then (bif Nat.blt pc 315 then (bif Nat.blt pc 291 then (bif Nat.blt pc 282 then (bif Nat.blt pc 278 then (bif Nat.blt pc 274 then (bif Nat.beq pc 271 then some (.goto 542, 274, [813], 0, 0) else none) else (bif Nat.blt pc 275 then (bif Nat.beq pc 274 then some (.aload_n 0, 275, [], 0, 0) else none) else (bif Nat.beq pc 275 then some (.getfield 62, 278, [6, 30, 270, 1, 370], 0, 0) else none))) else (bif Nat.blt pc 279 then (bif Nat.beq pc 278 then some (.iload_n 2, 279, [], 0, 0) else none) else (bif Nat.blt pc 281 then (bif Nat.beq pc 279 then some (.iload 5, 281, [], 0, 0) else none) else (bif Nat.beq pc 281 then some (.iconst 1, 282, [], 1, 0) else none)))) else (bif Nat.blt pc 285 then (bif Nat.blt pc 283 then (bif Nat.beq pc 282 then some (.iand, 283, [], 0, 0) else none) else (bif Nat.blt pc 284 then (bif Nat.beq pc 283 then some (.iastore, 284, [], 0, 0) else none) else (bif Nat.beq pc 284 then some (.aload_n 0, 285, [], 0, 0) else none))) else (bif Nat.blt pc 287 then (bif Nat.beq pc 285 then some (.iload 4, 287, [], 0, 0) else none) else (bif Nat.blt pc 290 then (bif Nat.beq pc 287 then some (.invokevirtual 190, 290, [137], 0, 0) else none) else (bif Nat.beq pc 290 then some (.aload_n 0, 291, [], 0, 0) else none))))) else (bif Nat.blt pc 301 then (bif Nat.blt pc 297 then (bif Nat.blt pc 294 then (bif Nat.beq pc 291 then some (.getfield 62, 294, [6, 30, 270, 1, 370], 0, 0) else none) else (bif Nat.blt pc 295 then (bif Nat.beq pc 294 then some (.iload_n 2, 295, [], 0, 0) else none) else (bif Nat.beq pc 295 then some (.iload 5, 297, [], 0, 0) else none))) else (bif Nat.blt pc 299 then (bif Nat.beq pc 297 then some (.bipush (-2), 299, [], (-2), 0) else none) else (bif Nat.blt pc 300 then (bif Nat.beq pc 299 then some (.iand, 300, [], 0, 0) else none) else (bif Nat.beq pc 300 then some (.iastore, 301, [], 0, 0) else none)))) else (bif Nat.blt pc 308 then (bif Nat.blt pc 304 then (bif Nat.beq pc 301 then some (.goto 512, 304, [813], 0, 0) else none) else (bif Nat.blt pc 305 then (bif Nat.beq pc 304 then some (.aload_n 0, 305, [], 0, 0) else none) else (bif Nat.beq pc 305 then some (.getfield 62, 308, [6, 30, 270, 1, 370], 0, 0) else none))) else (bif Nat.blt pc 311 then (bif Nat.blt pc 309 then (bif Nat.beq pc 308 then some (.iload_n 2, 309, [], 0, 0) else none) else (bif Nat.beq pc 309 then some (.iload 5, 311, [], 0, 0) else none)) else (bif Nat.blt pc 312 then (bif Nat.beq pc 311 then some (.iload_n 3, 312, [], 0, 0) else none) else (bif Nat.beq pc 312 then some (.invokestatic 187, 315, [134], 0, 0) else none)))))) else (bif Nat.blt pc 333 then (bif Nat.blt pc 323 then (bif Nat.blt pc 318 then (bif Nat.blt pc 316 then (bif Nat.beq pc 315 then some (.iconst 1, 316, [], 1, 0) else none) else (bif Nat.blt pc 317 then (bif Nat.beq pc 316 then some (.ior, 317, [], 0, 0) else none) else (bif Nat.beq pc 317 then some (.iand, 318, [], 0, 0) else none))) else (bif Nat.blt pc 319 then (bif Nat.beq pc 318 then some (.iastore, 319, [], 0, 0) else none) else (bif Nat.blt pc 320 then (bif Nat.beq pc 319 then some (.aload_n 0, 320, [], 0, 0) else none) else (bif Nat.beq pc 320 then some (.getfield 62, 323, [6, 30, 270, 1, 370], 0, 0) else none)))) else (bif Nat.blt pc 328 then (bif Nat.blt pc 325 then (bif Nat.beq pc 323 then some (.iload 4, 325, [], 0, 0) else none) else (bif Nat.blt pc 327 then (bif Nat.beq pc 325 then some (.iload 5, 327, [], 0, 0) else none) else (bif Nat.beq pc 327 then some (.iload_n 3, 328, [], 0, 0) else none))) else (bif Nat.blt pc 331 then (bif Nat.beq pc 328 then some (.invokestatic 187, 331, [134], 0, 0) else none) else (bif Nat.blt pc 332 then (bif Nat.beq pc 331 then some (.iconst 1, 332, [], 1, 0) else none) else (bif Nat.beq pc 332 then some (.ior, 333, [], 0, 0) else none))))) else (bif Nat.blt pc 343 then (bif Nat.blt pc 338 then (bif Nat.blt pc 334 then (bif Nat.beq pc 333 then some (.iand, 334, [], 0, 0) else none) else (bif Nat.blt pc 335 then (bif Nat.beq pc 334 then some (.iastore, 335, [], 0, 0) else none) else (bif Nat.beq pc 335 then some (.goto 478, 338, [813], 0, 0) else none))) else (bif Nat.blt pc 340 then (bif Nat.beq pc 338 then some (.iload 6, 340, [], 0, 0) else none) else (bif Nat.blt pc 342 then (bif Nat.beq pc 340 then some (.bipush 30, 342, [], 30, 0) else none) else (bif Nat.beq pc 342 then some (.iand, 343, [], 0, 0) else none)))) else (bif Nat.blt pc 348 then (bif Nat.blt pc 346 then (bif Nat.beq pc 343 then some (.ifCond .ne 4, 346, [347], 0, 0) else none) else (bif Nat.blt pc 347 then (bif Nat.beq pc 346 then some (.return_, 347, [], 0, 0) else none) else (bif Nat.beq pc 347 then some (.aload_n 0, 348, [], 0, 0) else none))) else (bif Nat.blt pc 352 then (bif Nat.blt pc 351 then (bif Nat.beq pc 348 then some (.getfield 62, 351, [6, 30, 270, 1, 370], 0, 0) else none) else (bif Nat.beq pc 351 then some (.iload_n 3, 352, [], 0, 0) else none)) else (bif Nat.blt pc 354 then (bif Nat.beq pc 352 then some (.iload 6, 354, [], 0, 0) else none) else (bif Nat.beq pc 354 then some (.bipush 30, 356, [], 30, 0) else none))))))) else (bif Nat.blt pc 395 then (bif Nat.blt pc 374 then (bif Nat.blt pc 364 then (bif Nat.blt pc 359 then (bif Nat.blt pc 357 then (bif Nat.beq pc 356 then some (.iand, 357, [], 0, 0) else none) else (bif Nat.blt pc 358 then (bif Nat.beq pc 357 then some (.iastore, 358, [], 0, 0) else none) else (bif Nat.beq pc 358 then some (.aload_n 0, 359, [], 0, 0) else none))) else (bif Nat.blt pc 362 then (bif Nat.beq pc 359 then some (.getfield 62, 362, [6, 30, 270, 1, 370], 0, 0) else none) else (bif Nat.blt pc 363 then (bif Nat.beq pc 362 then some (.iload_n 2, 363, [], 0, 0) else none) else (bif Nat.beq pc 363 then some (.aload_n 0, 364, [], 0, 0) else none)))) else (bif Nat.blt pc 369 then (bif Nat.blt pc 367 then (bif Nat.beq pc 364 then some (.getfield 59, 367, [6, 28, 268, 1, 368], 0, 0) else none) else (bif Nat.blt pc 368 then (bif Nat.beq pc 367 then some (.iconst 0, 368, [], 0, 0) else none) else (bif Nat.beq pc 368 then some (.iaload, 369, [], 0, 0) else none))) else (bif Nat.blt pc 370 then (bif Nat.beq pc 369 then some (.iastore, 370, [], 0, 0) else none) else (bif Nat.blt pc 373 then (bif Nat.beq pc 370 then some (.goto 443, 373, [813], 0, 0) else none) else (bif Nat.beq pc 373 then some (.aload_n 0, 374, [], 0, 0) else none))))) else (bif Nat.blt pc 384 then (bif Nat.blt pc 380 then (bif Nat.blt pc 377 then (bif Nat.beq pc 374 then some (.getfield 62, 377, [6, 30, 270, 1, 370], 0, 0) else none) else (bif Nat.blt pc 378 then (bif Nat.beq pc 377 then some (.iload_n 2, 378, [], 0, 0) else none) else (bif Nat.beq pc 378 then some (.iload 5, 380, [], 0, 0) else none))) else (bif Nat.blt pc 382 then (bif Nat.beq pc 380 then some (.bipush 30, 382, [], 30, 0) else none) else (bif Nat.blt pc 383 then (bif Nat.beq pc 382 then some (.iand, 383, [], 0, 0) else none) else (bif Nat.beq pc 383 then some (.iastore, 384, [], 0, 0) else none)))) else (bif Nat.blt pc 389 then (bif Nat.blt pc 385 then (bif Nat.beq pc 384 then some (.aload_n 0, 385, [], 0, 0) else none) else (bif Nat.blt pc 388 then (bif Nat.beq pc 385 then some (.getfield 62, 388, [6, 30, 270, 1, 370], 0, 0) else none) else (bif Nat.beq pc 388 then some (.iload_n 2, 389, [], 0, 0) else none))) else (bif Nat.blt pc 393 then (bif Nat.blt pc 390 then (bif Nat.beq pc 389 then some (.iaload, 390, [], 0, 0) else none) else (bif Nat.beq pc 390 then some (.ifCond .eq 423, 393, [813], 0, 0) else none)) else (bif Nat.blt pc 394 then (bif Nat.beq pc 393 then some (.aload_n 0, 394, [], 0, 0) else none) else (bif Nat.beq pc 394 then some (.iconst 0, 395, [], 0, 0) else none)))))) else (bif Nat.blt pc 423 then (bif Nat.blt pc 409 then (bif Nat.blt pc 403 then (bif Nat.blt pc 397 then (bif Nat.beq pc 395 then some (.iload 6, 397, [], 0, 0) else none) else (bif Nat.blt pc 400 then (bif Nat.beq pc 397 then some (.invokevirtual 193, 400, [135], 0, 0) else none) else (bif Nat.beq pc 400 then some (.goto 413, 403, [813], 0, 0) else none))) else (bif Nat.blt pc 405 then (bif Nat.beq pc 403 then some (.iload 6, 405, [], 0, 0) else none) else (bif Nat.blt pc 408 then (bif Nat.beq pc 405 then some (.sipush 384, 408, [], 384, 0) else none) else (bif Nat.beq pc 408 then some (.iand, 409, [], 0, 0) else none)))) else (bif Nat.blt pc 414 then (bif Nat.blt pc 412 then (bif Nat.beq pc 409 then some (.ifCond .ne 4, 412, [413], 0, 0) else none) else (bif Nat.blt pc 413 then (bif Nat.beq pc 412 then some (.return_, 413, [], 0, 0) else none) else (bif Nat.beq pc 413 then some (.aload_n 0, 414, [], 0, 0) else none))) else (bif Nat.blt pc 418 then (bif Nat.blt pc 417 then (bif Nat.beq pc 414 then some (.getfield 62, 417, [6, 30, 270, 1, 370], 0, 0) else none) else (bif Nat.beq pc 417 then some (.iload_n 3, 418, [], 0, 0) else none)) else (bif Nat.blt pc 420 then (bif Nat.beq pc 418 then some (.iload 6, 420, [], 0, 0) else none) else (bif Nat.beq pc 420 then some (.sipush 384, 423, [], 384, 0) else none))))) else (bif Nat.blt pc 432 then (bif Nat.blt pc 426 then (bif Nat.blt pc 424 then (bif Nat.beq pc 423 then some (.iand, 424, [], 0, 0) else none) else (bif Nat.blt pc 425 then (bif Nat.beq pc 424 then some (.iastore, 425, [], 0, 0) else none) else (bif Nat.beq pc 425 then some (.aload_n 0, 426, [], 0, 0) else none))) else (bif Nat.blt pc 429 then (bif Nat.beq pc 426 then some (.getfield 62, 429, [6, 30, 270, 1, 370], 0, 0) else none) else (bif Nat.blt pc 430 then (bif Nat.beq pc 429 then some (.iload_n 2, 430, [], 0, 0) else none) else (bif Nat.beq pc 430 then some (.iload 6, 432, [], 0, 0) else none)))) else (bif Nat.blt pc 439 then (bif Nat.blt pc 435 then (bif Nat.beq pc 432 then some (.sipush 128, 435, [], 128, 0) else none) else (bif Nat.blt pc 436 then (bif Nat.beq pc 435 then some (.iand, 436, [], 0, 0) else none) else (bif Nat.beq pc 436 then some (.ifCond .eq 12, 439, [448], 0, 0) else none))) else (bif Nat.blt pc 443 then (bif Nat.blt pc 440 then (bif Nat.beq pc 439 then some (.aload_n 0, 440, [], 0, 0) else none) else (bif Nat.beq pc 440 then some (.getfield 59, 443, [6, 28, 268, 1, 368], 0, 0) else none)) else (bif Nat.blt pc 444 then (bif Nat.beq pc 443 then some (.iconst 1, 444, [], 1, 0) else none) else (bif Nat.beq pc 444 then some (.iaload, 445, [], 0, 0) else none))))))))) else (bif Nat.blt pc 636 then (bif Nat.blt pc 543 then (bif Nat.blt pc 493 then (bif Nat.blt pc 468 then (bif Nat.blt pc 458 then (bif Nat.blt pc 451 then (bif Nat.blt pc 448 then (bif Nat.beq pc 445 then some (.goto 4, 448, [449], 0, 0) else none) else (bif Nat.blt pc 449 then (bif Nat.beq pc 448 then some (.iconst 0, 449, [], 0, 0) else none) else (bif Nat.beq pc 449 then some (.iload 6, 451, [], 0, 0) else none))) else (bif Nat.blt pc 454 then (bif Nat.beq pc 451 then some (.sipush 256, 454, [], 256, 0) else none) else (bif Nat.blt pc 455 then (bif Nat.beq pc 454 then some (.iand, 455, [], 0, 0) else none) else (bif Nat.beq pc 455 then some (.ifCond .eq 12, 458, [467], 0, 0) else none)))) else (bif Nat.blt pc 463 then (bif Nat.blt pc 459 then (bif Nat.beq pc 458 then some (.aload_n 0, 459, [], 0, 0) else none) else (bif Nat.blt pc 462 then (bif Nat.beq pc 459 then some (.getfield 59, 462, [6, 28, 268, 1, 368], 0, 0) else none) else (bif Nat.beq pc 462 then some (.iconst 2, 463, [], 2, 0) else none))) else (bif Nat.blt pc 464 then (bif Nat.beq pc 463 then some (.iaload, 464, [], 0, 0) else none) else (bif Nat.blt pc 467 then (bif Nat.beq pc 464 then some (.goto 4, 467, [468], 0, 0) else none) else (bif Nat.beq pc 467 then some (.iconst 0, 468, [], 0, 0) else none))))) else (bif Nat.blt pc 478 then (bif Nat.blt pc 473 then (bif Nat.blt pc 469 then (bif Nat.beq pc 468 then some (.ior, 469, [], 0, 0) else none) else (bif Nat.blt pc 470 then (bif Nat.beq pc 469 then some (.iastore, 470, [], 0, 0) else none) else (bif Nat.beq pc 470 then some (.goto 343, 473, [813], 0, 0) else none))) else (bif Nat.blt pc 475 then (bif Nat.beq pc 473 then some (.iload 6, 475, [], 0, 0) else none) else (bif Nat.blt pc 477 then (bif Nat.beq pc 475 then some (.bipush 31, 477, [], 31, 0) else none) else (bif Nat.beq pc 477 then some (.iand, 478, [], 0, 0) else none)))) else (bif Nat.blt pc 486 then (bif Nat.blt pc 481 then (bif Nat.beq pc 478 then some (.ifCond .eq 12, 481, [490], 0, 0) else none) else (bif Nat.blt pc 483 then (bif Nat.beq pc 481 then some (.iload 5, 483, [], 0, 0) else none) else (bif Nat.beq pc 483 then some (.sipush 128, 486, [], 128, 0) else none))) else (bif Nat.blt pc 490 then (bif Nat.blt pc 487 then (bif Nat.beq pc 486 then some (.iand, 487, [], 0, 0) else none) else (bif Nat.beq pc 487 then some (.goto 4, 490, [491], 0, 0) else none)) else (bif Nat.blt pc 491 then (bif Nat.beq pc 490 then some (.iconst 0, 491, [], 0, 0) else none) else (bif Nat.beq pc 491 then some (.iload 6, 493, [], 0, 0) else none)))))) else (bif Nat.blt pc 517 then (bif Nat.blt pc 505 then (bif Nat.blt pc 499 then (bif Nat.blt pc 495 then (bif Nat.beq pc 493 then some (.bipush 25, 495, [], 25, 0) else none) else (bif Nat.blt pc 496 then (bif Nat.beq pc 495 then some (.iand, 496, [], 0, 0) else none) else (bif Nat.beq pc 496 then some (.ifCond .eq 12, 499, [508], 0, 0) else none))) else (bif Nat.blt pc 501 then (bif Nat.beq pc 499 then some (.iload 5, 501, [], 0, 0) else none) else (bif Nat.blt pc 504 then (bif Nat.beq pc 501 then some (.sipush 256, 504, [], 256, 0) else none) else (bif Nat.beq pc 504 then some (.iand, 505, [], 0, 0) else none)))) else (bif Nat.blt pc 510 then (bif Nat.blt pc 508 then (bif Nat.beq pc 505 then some (.goto 4, 508, [509], 0, 0) else none) else (bif Nat.blt pc 509 then (bif Nat.beq pc 508 then some (.iconst 0, 509, [], 0, 0) else none) else (bif Nat.beq pc 509 then some (.ior, 510, [], 0, 0) else none))) else (bif Nat.blt pc 512 then (bif Nat.beq pc 510 then some (.istore 7, 512, [], 0, 0) else none) else (bif Nat.blt pc 514 then (bif Nat.beq pc 512 then some (.iload 5, 514, [], 0, 0) else none) else (bif Nat.beq pc 514 then some (.sipush 128, 517, [], 128, 0) else none))))) else (bif Nat.blt pc 529 then (bif Nat.blt pc 523 then (bif Nat.blt pc 518 then (bif Nat.beq pc 517 then some (.iand, 518, [], 0, 0) else none) else (bif Nat.blt pc 521 then (bif Nat.beq pc 518 then some (.ifCond .eq 11, 521, [529], 0, 0) else none) else (bif Nat.beq pc 521 then some (.iload 6, 523, [], 0, 0) else none))) else (bif Nat.blt pc 525 then (bif Nat.beq pc 523 then some (.bipush 31, 525, [], 31, 0) else none) else (bif Nat.blt pc 526 then (bif Nat.beq pc 525 then some (.iand, 526, [], 0, 0) else none) else (bif Nat.beq pc 526 then some (.goto 4, 529, [530], 0, 0) else none)))) else (bif Nat.blt pc 535 then (bif Nat.blt pc 530 then (bif Nat.beq pc 529 then some (.iconst 0, 530, [], 0, 0) else none) else (bif Nat.blt pc 532 then (bif Nat.beq pc 530 then some (.iload 5, 532, [], 0, 0) else none) else (bif Nat.beq pc 532 then some (.sipush 256, 535, [], 256, 0) else none))) else (bif Nat.blt pc 539 then (bif Nat.blt pc 536 then (bif Nat.beq pc 535 then some (.iand, 536, [], 0, 0) else none) else (bif Nat.beq pc 536 then some (.ifCond .eq 11, 539, [547], 0, 0) else none)) else (bif Nat.blt pc 541 then (bif Nat.beq pc 539 then some (.iload 6, 541, [], 0, 0) else none) else (bif Nat.beq pc 541 then some (.bipush 25, 543, [], 25, 0) else none))))))) else (bif Nat.blt pc 589 then (bif Nat.blt pc 564 then (bif Nat.blt pc 552 then (bif Nat.blt pc 548 then (bif Nat.blt pc 544 then (bif Nat.beq pc 543 then some (.iand, 544, [], 0, 0) else none) else (bif Nat.blt pc 547 then (bif Nat.beq pc 544 then some (.goto 4, 547, [548], 0, 0) else none) else (bif Nat.beq pc 547 then some (.iconst 0, 548, [], 0, 0) else none))) else (bif Nat.blt pc 549 then (bif Nat.beq pc 548 then some (.ior, 549, [], 0, 0) else none) else (bif Nat.blt pc 551 then (bif Nat.beq pc 549 then some (.istore 8, 551, [], 0, 0) else none) else (bif Nat.beq pc 551 then some (.aload_n 0, 552, [], 0, 0) else none)))) else (bif Nat.blt pc 558 then (bif Nat.blt pc 553 then (bif Nat.beq pc 552 then some (.iconst 1, 553, [], 1, 0) else none) else (bif Nat.blt pc 555 then (bif Nat.beq pc 553 then some (.iload 5, 555, [], 0, 0) else none) else (bif Nat.beq pc 555 then some (.sipush 128, 558, [], 128, 0) else none))) else (bif Nat.blt pc 559 then (bif Nat.beq pc 558 then some (.iand, 559, [], 0, 0) else none) else (bif Nat.blt pc 562 then (bif Nat.beq pc 559 then some (.ifCond .eq 11, 562, [570], 0, 0) else none) else (bif Nat.beq pc 562 then some (.iload 6, 564, [], 0, 0) else none))))) else (bif Nat.blt pc 575 then (bif Nat.blt pc 570 then (bif Nat.blt pc 566 then (bif Nat.beq pc 564 then some (.bipush 31, 566, [], 31, 0) else none) else (bif Nat.blt pc 567 then (bif Nat.beq pc 566 then some (.iand, 567, [], 0, 0) else none) else (bif Nat.beq pc 567 then some (.goto 4, 570, [571], 0, 0) else none))) else (bif Nat.blt pc 571 then (bif Nat.beq pc 570 then some (.iconst 0, 571, [], 0, 0) else none) else (bif Nat.blt pc 574 then (bif Nat.beq pc 571 then some (.invokevirtual 193, 574, [135], 0, 0) else none) else (bif Nat.beq pc 574 then some (.aload_n 0, 575, [], 0, 0) else none)))) else (bif Nat.blt pc 581 then (bif Nat.blt pc 576 then (bif Nat.beq pc 575 then some (.iconst 2, 576, [], 2, 0) else none) else (bif Nat.blt pc 578 then (bif Nat.beq pc 576 then some (.iload 5, 578, [], 0, 0) else none) else (bif Nat.beq pc 578 then some (.sipush 256, 581, [], 256, 0) else none))) else (bif Nat.blt pc 585 then (bif Nat.blt pc 582 then (bif Nat.beq pc 581 then some (.iand, 582, [], 0, 0) else none) else (bif Nat.beq pc 582 then some (.ifCond .eq 11, 585, [593], 0, 0) else none)) else (bif Nat.blt pc 587 then (bif Nat.beq pc 585 then some (.iload 6, 587, [], 0, 0) else none) else (bif Nat.beq pc 587 then some (.bipush 25, 589, [], 25, 0) else none)))))) else (bif Nat.blt pc 611 then (bif Nat.blt pc 601 then (bif Nat.blt pc 594 then (bif Nat.blt pc 590 then (bif Nat.beq pc 589 then some (.iand, 590, [], 0, 0) else none) else (bif Nat.blt pc 593 then (bif Nat.beq pc 590 then some (.goto 4, 593, [594], 0, 0) else none) else (bif Nat.beq pc 593 then some (.iconst 0, 594, [], 0, 0) else none))) else (bif Nat.blt pc 597 then (bif Nat.beq pc 594 then some (.invokevirtual 193, 597, [135], 0, 0) else none) else (bif Nat.blt pc 598 then (bif Nat.beq pc 597 then some (.aload_n 0, 598, [], 0, 0) else none) else (bif Nat.beq pc 598 then some (.getfield 62, 601, [6, 30, 270, 1, 370], 0, 0) else none)))) else (bif Nat.blt pc 605 then (bif Nat.blt pc 602 then (bif Nat.beq pc 601 then some (.iload_n 2, 602, [], 0, 0) else none) else (bif Nat.blt pc 604 then (bif Nat.beq pc 602 then some (.iload 7, 604, [], 0, 0) else none) else (bif Nat.beq pc 604 then some (.iastore, 605, [], 0, 0) else none))) else (bif Nat.blt pc 609 then (bif Nat.blt pc 606 then (bif Nat.beq pc 605 then some (.aload_n 0, 606, [], 0, 0) else none) else (bif Nat.beq pc 606 then some (.getfield 62, 609, [6, 30, 270, 1, 370], 0, 0) else none)) else (bif Nat.blt pc 610 then (bif Nat.beq pc 609 then some (.iload_n 3, 610, [], 0, 0) else none) else (bif Nat.beq pc 610 then some (.iload_n 2, 611, [], 0, 0) else none))))) else (bif Nat.blt pc 623 then (bif Nat.blt pc 617 then (bif Nat.blt pc 612 then (bif Nat.beq pc 611 then some (.iload_n 3, 612, [], 0, 0) else none) else (bif Nat.blt pc 615 then (bif Nat.beq pc 612 then some (.if_icmp .ne 11, 615, [623], 0, 0) else none) else (bif Nat.beq pc 615 then some (.iload 7, 617, [], 0, 0) else none))) else (bif Nat.blt pc 619 then (bif Nat.beq pc 617 then some (.iload 8, 619, [], 0, 0) else none) else (bif Nat.blt pc 620 then (bif Nat.beq pc 619 then some (.iand, 620, [], 0, 0) else none) else (bif Nat.beq pc 620 then some (.goto 5, 623, [625], 0, 0) else none)))) else (bif Nat.blt pc 629 then (bif Nat.blt pc 625 then (bif Nat.beq pc 623 then some (.iload 8, 625, [], 0, 0) else none) else (bif Nat.blt pc 626 then (bif Nat.beq pc 625 then some (.iastore, 626, [], 0, 0) else none) else (bif Nat.beq pc 626 then some (.goto 187, 629, [813], 0, 0) else none))) else (bif Nat.blt pc 633 then (bif Nat.blt pc 630 then (bif Nat.beq pc 629 then some (.aload_n 0, 630, [], 0, 0) else none) else (bif Nat.beq pc 630 then some (.getfield 62, 633, [6, 30, 270, 1, 370], 0, 0) else none)) else (bif Nat.blt pc 634 then (bif Nat.beq pc 633 then some (.iload_n 3, 634, [], 0, 0) else none) else (bif Nat.beq pc 634 then some (.iload 6, 636, [], 0, 0) else none)))))))) else (bif Nat.blt pc 731 then (bif Nat.blt pc 681 then (bif Nat.blt pc 658 then (bif Nat.blt pc 647 then (bif Nat.blt pc 640 then (bif Nat.blt pc 638 then (bif Nat.beq pc 636 then some (.bipush 20, 638, [], 20, 0) else none) else (bif Nat.blt pc 639 then (bif Nat.beq pc 638 then some (.iand, 639, [], 0, 0) else none) else (bif Nat.beq pc 639 then some (.iastore, 640, [], 0, 0) else none))) else (bif Nat.blt pc 643 then (bif Nat.beq pc 640 then some (.goto 173, 643, [813], 0, 0) else none) else (bif Nat.blt pc 644 then (bif Nat.beq pc 643 then some (.aload_n 0, 644, [], 0, 0) else none) else (bif Nat.beq pc 644 then some (.getfield 62, 647, [6, 30, 270, 1, 370], 0, 0) else none)))) else (bif Nat.blt pc 653 then (bif Nat.blt pc 648 then (bif Nat.beq pc 647 then some (.iload_n 3, 648, [], 0, 0) else none) else (bif Nat.blt pc 650 then (bif Nat.beq pc 648 then some (.iload 6, 650, [], 0, 0) else none) else (bif Nat.beq pc 650 then some (.sipush 992, 653, [], 992, 0) else none))) else (bif Nat.blt pc 654 then (bif Nat.beq pc 653 then some (.iand, 654, [], 0, 0) else none) else (bif Nat.blt pc 655 then (bif Nat.beq pc 654 then some (.iastore, 655, [], 0, 0) else none) else (bif Nat.beq pc 655 then some (.goto 158, 658, [813], 0, 0) else none))))) else (bif Nat.blt pc 668 then (bif Nat.blt pc 663 then (bif Nat.blt pc 659 then (bif Nat.beq pc 658 then some (.aload_n 0, 659, [], 0, 0) else none) else (bif Nat.blt pc 662 then (bif Nat.beq pc 659 then some (.getfield 62, 662, [6, 30, 270, 1, 370], 0, 0) else none) else (bif Nat.beq pc 662 then some (.iload_n 3, 663, [], 0, 0) else none))) else (bif Nat.blt pc 665 then (bif Nat.beq pc 663 then some (.iload 6, 665, [], 0, 0) else none) else (bif Nat.blt pc 667 then (bif Nat.beq pc 665 then some (.bipush 32, 667, [], 32, 0) else none) else (bif Nat.beq pc 667 then some (.iand, 668, [], 0, 0) else none)))) else (bif Nat.blt pc 673 then (bif Nat.blt pc 669 then (bif Nat.beq pc 668 then some (.iastore, 669, [], 0, 0) else none) else (bif Nat.blt pc 672 then (bif Nat.beq pc 669 then some (.goto 144, 672, [813], 0, 0) else none) else (bif Nat.beq pc 672 then some (.aload_n 0, 673, [], 0, 0) else none))) else (bif Nat.blt pc 677 then (bif Nat.blt pc 676 then (bif Nat.beq pc 673 then some (.getfield 62, 676, [6, 30, 270, 1, 370], 0, 0) else none) else (bif Nat.beq pc 676 then some (.iload_n 2, 677, [], 0, 0) else none)) else (bif Nat.blt pc 679 then (bif Nat.beq pc 677 then some (.iload 5, 679, [], 0, 0) else none) else (bif Nat.beq pc 679 then some (.bipush 32, 681, [], 32, 0) else none)))))) else (bif Nat.blt pc 702 then (bif Nat.blt pc 692 then (bif Nat.blt pc 686 then (bif Nat.blt pc 682 then (bif Nat.beq pc 681 then some (.iand, 682, [], 0, 0) else none) else (bif Nat.blt pc 683 then (bif Nat.beq pc 682 then some (.iastore, 683, [], 0, 0) else none) else (bif Nat.beq pc 683 then some (.goto 130, 686, [813], 0, 0) else none))) else (bif Nat.blt pc 687 then (bif Nat.beq pc 686 then some (.aload_n 0, 687, [], 0, 0) else none) else (bif Nat.blt pc 689 then (bif Nat.beq pc 687 then some (.iload 4, 689, [], 0, 0) else none) else (bif Nat.beq pc 689 then some (.invokevirtual 190, 692, [137], 0, 0) else none)))) else (bif Nat.blt pc 697 then (bif Nat.blt pc 695 then (bif Nat.beq pc 692 then some (.goto 121, 695, [813], 0, 0) else none) else (bif Nat.blt pc 696 then (bif Nat.beq pc 695 then some (.aload_n 0, 696, [], 0, 0) else none) else (bif Nat.beq pc 696 then some (.iload_n 2, 697, [], 0, 0) else none))) else (bif Nat.blt pc 700 then (bif Nat.beq pc 697 then some (.invokevirtual 190, 700, [137], 0, 0) else none) else (bif Nat.blt pc 701 then (bif Nat.beq pc 700 then some (.return_, 701, [], 0, 0) else none) else (bif Nat.beq pc 701 then some (.return_, 702, [], 0, 0) else none))))) else (bif Nat.blt pc 715 then (bif Nat.blt pc 709 then (bif Nat.blt pc 704 then (bif Nat.beq pc 702 then some (.iload 5, 704, [], 0, 0) else none) else (bif Nat.blt pc 706 then (bif Nat.beq pc 704 then some (.iload 6, 706, [], 0, 0) else none) else (bif Nat.beq pc 706 then some (.invokestatic 197, 709, [138], 0, 0) else none))) else (bif Nat.blt pc 711 then (bif Nat.beq pc 709 then some (.istore 7, 711, [], 0, 0) else none) else (bif Nat.blt pc 713 then (bif Nat.beq pc 711 then some (.iload 6, 713, [], 0, 0) else none) else (bif Nat.beq pc 713 then some (.iload 5, 715, [], 0, 0) else none)))) else (bif Nat.blt pc 722 then (bif Nat.blt pc 718 then (bif Nat.beq pc 715 then some (.invokestatic 197, 718, [138], 0, 0) else none) else (bif Nat.blt pc 720 then (bif Nat.beq pc 718 then some (.istore 8, 720, [], 0, 0) else none) else (bif Nat.beq pc 720 then some (.iload 5, 722, [], 0, 0) else none))) else (bif Nat.blt pc 726 then (bif Nat.blt pc 725 then (bif Nat.beq pc 722 then some (.sipush 128, 725, [], 128, 0) else none) else (bif Nat.beq pc 725 then some (.iand, 726, [], 0, 0) else none)) else (bif Nat.blt pc 729 then (bif Nat.beq pc 726 then some (.ifCond .eq 26, 729, [752], 0, 0) else none) else (bif Nat.beq pc 729 then some (.iload 6, 731, [], 0, 0) else none))))))) else (bif Nat.blt pc 777 then (bif Nat.blt pc 752 then (bif Nat.blt pc 741 then (bif Nat.blt pc 738 then (bif Nat.blt pc 734 then (bif Nat.beq pc 731 then some (.sipush 256, 734, [], 256, 0) else none) else (bif Nat.blt pc 735 then (bif Nat.beq pc 734 then some (.iand, 735, [], 0, 0) else none) else (bif Nat.beq pc 735 then some (.ifCond .eq 17, 738, [752], 0, 0) else none))) else (bif Nat.blt pc 739 then (bif Nat.beq pc 738 then some (.aload_n 0, 739, [], 0, 0) else none) else (bif Nat.blt pc 740 then (bif Nat.beq pc 739 then some (.iconst 2, 740, [], 2, 0) else none) else (bif Nat.beq pc 740 then some (.aload_n 0, 741, [], 0, 0) else none)))) else (bif Nat.blt pc 746 then (bif Nat.blt pc 744 then (bif Nat.beq pc 741 then some (.getfield 59, 744, [6, 28, 268, 1, 368], 0, 0) else none) else (bif Nat.blt pc 745 then (bif Nat.beq pc 744 then some (.iconst 1, 745, [], 1, 0) else none) else (bif Nat.beq pc 745 then some (.iaload, 746, [], 0, 0) else none))) else (bif Nat.blt pc 748 then (bif Nat.beq pc 746 then some (.bipush 25, 748, [], 25, 0) else none) else (bif Nat.blt pc 749 then (bif Nat.beq pc 748 then some (.iand, 749, [], 0, 0) else none) else (bif Nat.beq pc 749 then some (.invokevirtual 193, 752, [135], 0, 0) else none))))) else (bif Nat.blt pc 766 then (bif Nat.blt pc 758 then (bif Nat.blt pc 754 then (bif Nat.beq pc 752 then some (.iload 5, 754, [], 0, 0) else none) else (bif Nat.blt pc 757 then (bif Nat.beq pc 754 then some (.sipush 256, 757, [], 256, 0) else none) else (bif Nat.beq pc 757 then some (.iand, 758, [], 0, 0) else none))) else (bif Nat.blt pc 761 then (bif Nat.beq pc 758 then some (.ifCond .eq 23, 761, [781], 0, 0) else none) else (bif Nat.blt pc 763 then (bif Nat.beq pc 761 then some (.iload 6, 763, [], 0, 0) else none) else (bif Nat.beq pc 763 then some (.sipush 128, 766, [], 128, 0) else none)))) else (bif Nat.blt pc 771 then (bif Nat.blt pc 767 then (bif Nat.beq pc 766 then some (.iand, 767, [], 0, 0) else none) else (bif Nat.blt pc 770 then (bif Nat.beq pc 767 then some (.ifCond .eq 14, 770, [781], 0, 0) else none) else (bif Nat.beq pc 770 then some (.aload_n 0, 771, [], 0, 0) else none))) else (bif Nat.blt pc 773 then (bif Nat.blt pc 772 then (bif Nat.beq pc 771 then some (.iconst 1, 772, [], 1, 0) else none) else (bif Nat.beq pc 772 then some (.aload_n 0, 773, [], 0, 0) else none)) else (bif Nat.blt pc 776 then (bif Nat.beq pc 773 then some (.getfield 59, 776, [6, 28, 268, 1, 368], 0, 0) else none) else (bif Nat.beq pc 776 then some (.iconst 2, 777, [], 2, 0) else none)))))) else (bif Nat.blt pc 799 then (bif Nat.blt pc 788 then (bif Nat.blt pc 782 then (bif Nat.blt pc 778 then (bif Nat.beq pc 777 then some (.iaload, 778, [], 0, 0) else none) else (bif Nat.blt pc 781 then (bif Nat.beq pc 778 then some (.invokevirtual 193, 781, [135], 0, 0) else none) else (bif Nat.beq pc 781 then some (.aload_n 0, 782, [], 0, 0) else none))) else (bif Nat.blt pc 785 then (bif Nat.beq pc 782 then some (.getfield 62, 785, [6, 30, 270, 1, 370], 0, 0) else none) else (bif Nat.blt pc 786 then (bif Nat.beq pc 785 then some (.iload_n 2, 786, [], 0, 0) else none) else (bif Nat.beq pc 786 then some (.iload 7, 788, [], 0, 0) else none)))) else (bif Nat.blt pc 793 then (bif Nat.blt pc 789 then (bif Nat.beq pc 788 then some (.iastore, 789, [], 0, 0) else none) else (bif Nat.blt pc 790 then (bif Nat.beq pc 789 then some (.aload_n 0, 790, [], 0, 0) else none) else (bif Nat.beq pc 790 then some (.getfield 62, 793, [6, 30, 270, 1, 370], 0, 0) else none))) else (bif Nat.blt pc 795 then (bif Nat.blt pc 794 then (bif Nat.beq pc 793 then some (.iload_n 3, 794, [], 0, 0) else none) else (bif Nat.beq pc 794 then some (.iload_n 2, 795, [], 0, 0) else none)) else (bif Nat.blt pc 796 then (bif Nat.beq pc 795 then some (.iload_n 3, 796, [], 0, 0) else none) else (bif Nat.beq pc 796 then some (.if_icmp .ne 11, 799, [807], 0, 0) else none))))) else (bif Nat.blt pc 810 then (bif Nat.blt pc 804 then (bif Nat.blt pc 801 then (bif Nat.beq pc 799 then some (.iload 7, 801, [], 0, 0) else none) else (bif Nat.blt pc 803 then (bif Nat.beq pc 801 then some (.iload 8, 803, [], 0, 0) else none) else (bif Nat.beq pc 803 then some (.iand, 804, [], 0, 0) else none))) else (bif Nat.blt pc 807 then (bif Nat.beq pc 804 then some (.goto 5, 807, [809], 0, 0) else none) else (bif Nat.blt pc 809 then (bif Nat.beq pc 807 then some (.iload 8, 809, [], 0, 0) else none) else (bif Nat.beq pc 809 then some (.iastore, 810, [], 0, 0) else none)))) else (bif Nat.blt pc 815 then (bif Nat.blt pc 813 then (bif Nat.beq pc 810 then some (.goto 3, 813, [813], 0, 0) else none) else (bif Nat.blt pc 814 then (bif Nat.beq pc 813 then some (.aload_n 0, 814, [], 0, 0) else none) else (bif Nat.beq pc 814 then some (.iload_n 1, 815, [], 0, 0) else none))) else (bif Nat.blt pc 817 then (bif Nat.blt pc 816 then (bif Nat.beq pc 815 then some (.iconst 1, 816, [], 1, 0) else none) else (bif Nat.beq pc 816 then some (.iadd, 817, [], 0, 0) else none)) else (bif Nat.blt pc 820 then (bif Nat.beq pc 817 then some (.invokevirtual 190, 820, [137], 0, 0) else none) else (bif Nat.beq pc 820 then some (.return_, 821, [], 0, 0) else none))))))))))
def k_X6_faultsOf (pc : Nat) : Option mE := (bif Nat.blt pc 262 then (bif Nat.blt pc 74 then (bif Nat.blt pc 36 then (bif Nat.blt pc 15 then (bif Nat.blt pc 7 then (bif Nat.blt pc 4 then (bif Nat.blt pc 1 then (bif Nat.beq pc 0 then some (.aload_n 0, 1, [], 0, 0) else none) else (bif Nat.beq pc 1 then some (.getfield 13, 4, [6, 3, 243, 1, 343], 0, 0) else none)) else (bif Nat.blt pc 5 then (bif Nat.beq pc 4 then some (.iload_n 1, 5, [], 0, 0) else none) else (bif Nat.blt pc 6 then (bif Nat.beq pc 5 then some (.iaload, 6, [], 0, 0) else none) else (bif Nat.beq pc 6 then some (.istore_n 2, 7, [], 0, 0) else none)))) else (bif Nat.blt pc 12 then (bif Nat.blt pc 8 then (bif Nat.beq pc 7 then some (.aload_n 0, 8, [], 0, 0) else none) else (bif Nat.blt pc 11 then (bif Nat.beq pc 8 then some (.getfield 16, 11, [6, 4, 244, 1, 344], 0, 0) else none) else (bif Nat.beq pc 11 then some (.iload_n 1, 12, [], 0, 0) else none))) else (bif Nat.blt pc 13 then (bif Nat.beq pc 12 then some (.iaload, 13, [], 0, 0) else none) else (bif Nat.blt pc 14 then (bif Nat.beq pc 13 then some (.istore_n 3, 14, [], 0, 0) else none) else (bif Nat.beq pc 14 then some (.aload_n 0, 15, [], 0, 0) else none))))) else (bif Nat.blt pc 27 then (bif Nat.blt pc 20 then (bif Nat.blt pc 18 then (bif Nat.beq pc 15 then some (.getfield 7, 18, [6, 2, 242, 1, 342], 0, 0) else none) else (bif Nat.blt pc 19 then (bif Nat.beq pc 18 then some (.iload_n 1, 19, [], 0, 0) else none) else (bif Nat.beq pc 19 then some (.iaload, 20, [], 0, 0) else none))) else (bif Nat.blt pc 23 then (bif Nat.beq pc 20 then some (.invokestatic 98, 23, [110], 0, 0) else none) else (bif Nat.blt pc 24 then (bif Nat.beq pc 23 then some (.iconst 1, 24, [], 1, 0) else none) else (bif Nat.beq pc 24 then some (.if_icmp .ne 17, 27, [41], 0, 0) else none)))) else (bif Nat.blt pc 33 then (bif Nat.blt pc 28 then (bif Nat.beq pc 27 then some (.aload_n 0, 28, [], 0, 0) else none) else (bif Nat.blt pc 31 then (bif Nat.beq pc 28 then some (.getfield 52, 31, [6, 26, 266, 1, 366], 0, 0) else none) else (bif Nat.beq pc 31 then some (.bipush 6, 33, [], 6, 0) else none))) else (bif Nat.blt pc 34 then (bif Nat.beq pc 33 then some (.iload_n 1, 34, [], 0, 0) else none) else (bif Nat.blt pc 35 then (bif Nat.beq pc 34 then some (.imul, 35, [], 0, 0) else none) else (bif Nat.beq pc 35 then some (.iload_n 2, 36, [], 0, 0) else none)))))) else (bif Nat.blt pc 54 then (bif Nat.blt pc 44 then (bif Nat.blt pc 38 then (bif Nat.blt pc 37 then (bif Nat.beq pc 36 then some (.iadd, 37, [], 0, 0) else none) else (bif Nat.beq pc 37 then some (.iaload, 38, [], 0, 0) else none)) else (bif Nat.blt pc 41 then (bif Nat.beq pc 38 then some (.goto 4, 41, [42], 0, 0) else none) else (bif Nat.blt pc 42 then (bif Nat.beq pc 41 then some (.iconst 0, 42, [], 0, 0) else none) else (bif Nat.beq pc 42 then some (.istore 4, 44, [], 0, 0) else none)))) else (bif Nat.blt pc 49 then (bif Nat.blt pc 45 then (bif Nat.beq pc 44 then some (.aload_n 0, 45, [], 0, 0) else none) else (bif Nat.blt pc 48 then (bif Nat.beq pc 45 then some (.getfield 7, 48, [6, 2, 242, 1, 342], 0, 0) else none) else (bif Nat.beq pc 48 then some (.iload_n 1, 49, [], 0, 0) else none))) else (bif Nat.blt pc 50 then (bif Nat.beq pc 49 then some (.iaload, 50, [], 0, 0) else none) else (bif Nat.blt pc 53 then (bif Nat.beq pc 50 then some (.invokestatic 106, 53, [111], 0, 0) else none) else (bif Nat.beq pc 53 then some (.iconst 1, 54, [], 1, 0) else none))))) else (bif Nat.blt pc 65 then (bif Nat.blt pc 61 then (bif Nat.blt pc 57 then (bif Nat.beq pc 54 then some (.if_icmp .ne 17, 57, [71], 0, 0) else none) else (bif Nat.blt pc 58 then (bif Nat.beq pc 57 then some (.aload_n 0, 58, [], 0, 0) else none) else (bif Nat.beq pc 58 then some (.getfield 52, 61, [6, 26, 266, 1, 366], 0, 0) else none))) else (bif Nat.blt pc 63 then (bif Nat.beq pc 61 then some (.bipush 6, 63, [], 6, 0) else none) else (bif Nat.blt pc 64 then (bif Nat.beq pc 63 then some (.iload_n 1, 64, [], 0, 0) else none) else (bif Nat.beq pc 64 then some (.imul, 65, [], 0, 0) else none)))) else (bif Nat.blt pc 68 then (bif Nat.blt pc 66 then (bif Nat.beq pc 65 then some (.iload_n 3, 66, [], 0, 0) else none) else (bif Nat.blt pc 67 then (bif Nat.beq pc 66 then some (.iadd, 67, [], 0, 0) else none) else (bif Nat.beq pc 67 then some (.iaload, 68, [], 0, 0) else none))) else (bif Nat.blt pc 71 then (bif Nat.beq pc 68 then some (.goto 4, 71, [72], 0, 0) else none) else (bif Nat.blt pc 72 then (bif Nat.beq pc 71 then some (.iconst 0, 72, [], 0, 0) else none) else (bif Nat.beq pc 72 then some (.istore 5, 74, [], 0, 0) else none))))))) else (bif Nat.blt pc 214 then (bif Nat.blt pc 195 then (bif Nat.blt pc 184 then (bif Nat.blt pc 78 then (bif Nat.blt pc 75 then (bif Nat.beq pc 74 then some (.aload_n 0, 75, [], 0, 0) else none) else (bif Nat.beq pc 75 then some (.getfield 7, 78, [6, 2, 242, 1, 342], 0, 0) else none)) else (bif Nat.blt pc 79 then (bif Nat.beq pc 78 then some (.iload_n 1, 79, [], 0, 0) else none) else (bif Nat.blt pc 80 then (bif Nat.beq pc 79 then some (.iaload, 80, [], 0, 0) else none) else (bif Nat.beq pc 80 then some (.tableswitch 356 1 22 #[104, 108, 356, 356, 356, 112, 132, 140, 148, 173, 277, 277, 285, 294, 317, 356, 356, 340, 356, 356, 343, 347], 184, [436, 184, 188, 436, 436, 436, 192, 212, 220, 228, 253, 357, 357, 365, 374, 397, 436, 436, 420, 436, 436, 423, 427], 0, 0) else none)))) else (bif Nat.blt pc 191 then (bif Nat.blt pc 187 then (bif Nat.beq pc 184 then some (.sipush 256, 187, [], 256, 0) else none) else (bif Nat.blt pc 188 then (bif Nat.beq pc 187 then some (.ireturn, 188, [0], 0, 0) else none) else (bif Nat.beq pc 188 then some (.sipush 288, 191, [], 288, 0) else none))) else (bif Nat.blt pc 192 then (bif Nat.beq pc 191 then some (.ireturn, 192, [0], 0, 0) else none) else (bif Nat.blt pc 194 then (bif Nat.beq pc 192 then some (.iload 4, 194, [], 0, 0) else none) else (bif Nat.beq pc 194 then some (.iload_n 3, 195, [], 0, 0) else none))))) else (bif Nat.blt pc 203 then (bif Nat.blt pc 200 then (bif Nat.blt pc 198 then (bif Nat.beq pc 195 then some (.invokestatic 187, 198, [134], 0, 0) else none) else (bif Nat.blt pc 199 then (bif Nat.beq pc 198 then some (.iconst 1, 199, [], 1, 0) else none) else (bif Nat.beq pc 199 then some (.ior, 200, [], 0, 0) else none))) else (bif Nat.blt pc 201 then (bif Nat.beq pc 200 then some (.iconst (-1), 201, [], (-1), 0) else none) else (bif Nat.blt pc 202 then (bif Nat.beq pc 201 then some (.ixor, 202, [], 0, 0) else none) else (bif Nat.beq pc 202 then some (.iand, 203, [], 0, 0) else none)))) else (bif Nat.blt pc 210 then (bif Nat.blt pc 206 then (bif Nat.beq pc 203 then some (.ifCond .eq 7, 206, [210], 0, 0) else none) else (bif Nat.blt pc 207 then (bif Nat.beq pc 206 then some (.iconst 4, 207, [], 4, 0) else none) else (bif Nat.beq pc 207 then some (.goto 4, 210, [211], 0, 0) else none))) else (bif Nat.blt pc 211 then (bif Nat.beq pc 210 then some (.iconst 0, 211, [], 0, 0) else none) else (bif Nat.blt pc 212 then (bif Nat.beq pc 211 then some (.ireturn, 212, [0], 0, 0) else none) else (bif Nat.beq pc 212 then some (.iload 5, 214, [], 0, 0) else none)))))) else (bif Nat.blt pc 238 then (bif Nat.blt pc 224 then (bif Nat.blt pc 219 then (bif Nat.blt pc 216 then (bif Nat.beq pc 214 then some (.bipush 30, 216, [], 30, 0) else none) else (bif Nat.beq pc 216 then some (.invokestatic 200, 219, [141], 0, 0) else none)) else (bif Nat.blt pc 220 then (bif Nat.beq pc 219 then some (.ireturn, 220, [0], 0, 0) else none) else (bif Nat.blt pc 222 then (bif Nat.beq pc 220 then some (.iload 4, 222, [], 0, 0) else none) else (bif Nat.beq pc 222 then some (.bipush 30, 224, [], 30, 0) else none)))) else (bif Nat.blt pc 230 then (bif Nat.blt pc 227 then (bif Nat.beq pc 224 then some (.invokestatic 200, 227, [141], 0, 0) else none) else (bif Nat.blt pc 228 then (bif Nat.beq pc 227 then some (.ireturn, 228, [0], 0, 0) else none) else (bif Nat.beq pc 228 then some (.iload 5, 230, [], 0, 0) else none))) else (bif Nat.blt pc 233 then (bif Nat.beq pc 230 then some (.sipush 384, 233, [], 384, 0) else none) else (bif Nat.blt pc 236 then (bif Nat.beq pc 233 then some (.invokestatic 200, 236, [141], 0, 0) else none) else (bif Nat.beq pc 236 then some (.iload 5, 238, [], 0, 0) else none))))) else (bif Nat.blt pc 251 then (bif Nat.blt pc 245 then (bif Nat.blt pc 241 then (bif Nat.beq pc 238 then some (.sipush 384, 241, [], 384, 0) else none) else (bif Nat.blt pc 242 then (bif Nat.beq pc 241 then some (.iand, 242, [], 0, 0) else none) else (bif Nat.beq pc 242 then some (.ifCond .eq 8, 245, [250], 0, 0) else none))) else (bif Nat.blt pc 247 then (bif Nat.beq pc 245 then some (.bipush 8, 247, [], 8, 0) else none) else (bif Nat.blt pc 250 then (bif Nat.beq pc 247 then some (.goto 4, 250, [251], 0, 0) else none) else (bif Nat.beq pc 250 then some (.iconst 0, 251, [], 0, 0) else none)))) else (bif Nat.blt pc 255 then (bif Nat.blt pc 252 then (bif Nat.beq pc 251 then some (.ior, 252, [], 0, 0) else none) else (bif Nat.blt pc 253 then (bif Nat.beq pc 252 then some (.ireturn, 253, [0], 0, 0) else none) else (bif Nat.beq pc 253 then some (.iload 4, 255, [], 0, 0) else none))) else (bif Nat.blt pc 258 then (bif Nat.beq pc 255 then some (.sipush (-386), 258, [], (-386), 0) else none) else (bif Nat.blt pc 259 then (bif Nat.beq pc 258 then some (.iand, 259, [], 0, 0) else none) else (bif Nat.beq pc 259 then some (.ifCond .ne 11, 262, [270], 0, 0) else none)))))))) else (bif Nat.blt pc 351 then (bif Nat.blt pc 304 then (bif Nat.blt pc 282 then (bif Nat.blt pc 271 then (bif Nat.blt pc 266 then (bif Nat.blt pc 264 then (bif Nat.beq pc 262 then some (.iload 5, 264, [], 0, 0) else none) else (bif Nat.beq pc 264 then some (.bipush (-32), 266, [], (-32), 0) else none)) else (bif Nat.blt pc 267 then (bif Nat.beq pc 266 then some (.iand, 267, [], 0, 0) else none) else (bif Nat.blt pc 270 then (bif Nat.beq pc 267 then some (.ifCond .eq 7, 270, [274], 0, 0) else none) else (bif Nat.beq pc 270 then some (.iconst 4, 271, [], 4, 0) else none)))) else (bif Nat.blt pc 277 then (bif Nat.blt pc 274 then (bif Nat.beq pc 271 then some (.goto 4, 274, [275], 0, 0) else none) else (bif Nat.blt pc 275 then (bif Nat.beq pc 274 then some (.iconst 0, 275, [], 0, 0) else none) else (bif Nat.beq pc 275 then some (.istore 6, 277, [], 0, 0) else none))) else (bif Nat.blt pc 279 then (bif Nat.beq pc 277 then some (.iload 6, 279, [], 0, 0) else none) else (bif Nat.blt pc 281 then (bif Nat.beq pc 279 then some (.iload 4, 281, [], 0, 0) else none) else (bif Nat.beq pc 281 then some (.iconst 1, 282, [], 1, 0) else none))))) else (bif Nat.blt pc 294 then (bif Nat.blt pc 288 then (bif Nat.blt pc 283 then (bif Nat.beq pc 282 then some (.iand, 283, [], 0, 0) else none) else (bif Nat.blt pc 286 then (bif Nat.beq pc 283 then some (.ifCond .eq 15, 286, [298], 0, 0) else none) else (bif Nat.beq pc 286 then some (.iload 5, 288, [], 0, 0) else none))) else (bif Nat.blt pc 290 then (bif Nat.beq pc 288 then some (.bipush 31, 290, [], 31, 0) else none) else (bif Nat.blt pc 291 then (bif Nat.beq pc 290 then some (.iand, 291, [], 0, 0) else none) else (bif Nat.beq pc 291 then some (.ifCond .eq 7, 294, [298], 0, 0) else none)))) else (bif Nat.blt pc 299 then (bif Nat.blt pc 295 then (bif Nat.beq pc 294 then some (.iconst 2, 295, [], 2, 0) else none) else (bif Nat.blt pc 298 then (bif Nat.beq pc 295 then some (.goto 4, 298, [299], 0, 0) else none) else (bif Nat.beq pc 298 then some (.iconst 0, 299, [], 0, 0) else none))) else (bif Nat.blt pc 300 then (bif Nat.beq pc 299 then some (.ior, 300, [], 0, 0) else none) else (bif Nat.blt pc 302 then (bif Nat.beq pc 300 then some (.istore 6, 302, [], 0, 0) else none) else (bif Nat.beq pc 302 then some (.iload 6, 304, [], 0, 0) else none)))))) else (bif Nat.blt pc 327 then (bif Nat.blt pc 315 then (bif Nat.blt pc 309 then (bif Nat.blt pc 306 then (bif Nat.beq pc 304 then some (.iload 4, 306, [], 0, 0) else none) else (bif Nat.beq pc 306 then some (.sipush 384, 309, [], 384, 0) else none)) else (bif Nat.blt pc 310 then (bif Nat.beq pc 309 then some (.iand, 310, [], 0, 0) else none) else (bif Nat.blt pc 313 then (bif Nat.beq pc 310 then some (.ifCond .eq 16, 313, [326], 0, 0) else none) else (bif Nat.beq pc 313 then some (.iload 5, 315, [], 0, 0) else none)))) else (bif Nat.blt pc 321 then (bif Nat.blt pc 317 then (bif Nat.beq pc 315 then some (.bipush 31, 317, [], 31, 0) else none) else (bif Nat.blt pc 318 then (bif Nat.beq pc 317 then some (.iand, 318, [], 0, 0) else none) else (bif Nat.beq pc 318 then some (.ifCond .eq 8, 321, [326], 0, 0) else none))) else (bif Nat.blt pc 323 then (bif Nat.beq pc 321 then some (.bipush 8, 323, [], 8, 0) else none) else (bif Nat.blt pc 326 then (bif Nat.beq pc 323 then some (.goto 4, 326, [327], 0, 0) else none) else (bif Nat.beq pc 326 then some (.iconst 0, 327, [], 0, 0) else none))))) else (bif Nat.blt pc 338 then (bif Nat.blt pc 332 then (bif Nat.blt pc 328 then (bif Nat.beq pc 327 then some (.ior, 328, [], 0, 0) else none) else (bif Nat.blt pc 330 then (bif Nat.beq pc 328 then some (.istore 6, 330, [], 0, 0) else none) else (bif Nat.beq pc 330 then some (.iload 6, 332, [], 0, 0) else none))) else (bif Nat.blt pc 334 then (bif Nat.beq pc 332 then some (.iload 4, 334, [], 0, 0) else none) else (bif Nat.blt pc 337 then (bif Nat.beq pc 334 then some (.sipush 256, 337, [], 256, 0) else none) else (bif Nat.beq pc 337 then some (.iand, 338, [], 0, 0) else none)))) else (bif Nat.blt pc 345 then (bif Nat.blt pc 341 then (bif Nat.beq pc 338 then some (.ifCond .eq 16, 341, [354], 0, 0) else none) else (bif Nat.blt pc 343 then (bif Nat.beq pc 341 then some (.iload 5, 343, [], 0, 0) else none) else (bif Nat.beq pc 343 then some (.bipush 6, 345, [], 6, 0) else none))) else (bif Nat.blt pc 346 then (bif Nat.beq pc 345 then some (.iand, 346, [], 0, 0) else none) else (bif Nat.blt pc 349 then (bif Nat.beq pc 346 then some (.ifCond .eq 8, 349, [354], 0, 0) else none) else (bif Nat.beq pc 349 then some (.bipush 16, 351, [], 16, 0) else none))))))) else (bif Nat.blt pc 396 then (bif Nat.blt pc 373 then (bif Nat.blt pc 359 then (bif Nat.blt pc 355 then (bif Nat.blt pc 354 then (bif Nat.beq pc 351 then some (.goto 4, 354, [355], 0, 0) else none) else (bif Nat.beq pc 354 then some (.iconst 0, 355, [], 0, 0) else none)) else (bif Nat.blt pc 356 then (bif Nat.beq pc 355 then some (.ior, 356, [], 0, 0) else none) else (bif Nat.blt pc 357 then (bif Nat.beq pc 356 then some (.ireturn, 357, [0], 0, 0) else none) else (bif Nat.beq pc 357 then some (.iload 5, 359, [], 0, 0) else none)))) else (bif Nat.blt pc 365 then (bif Nat.blt pc 361 then (bif Nat.beq pc 359 then some (.bipush 20, 361, [], 20, 0) else none) else (bif Nat.blt pc 364 then (bif Nat.beq pc 361 then some (.invokestatic 200, 364, [141], 0, 0) else none) else (bif Nat.beq pc 364 then some (.ireturn, 365, [0], 0, 0) else none))) else (bif Nat.blt pc 367 then (bif Nat.beq pc 365 then some (.iload 5, 367, [], 0, 0) else none) else (bif Nat.blt pc 370 then (bif Nat.beq pc 367 then some (.sipush 992, 370, [], 992, 0) else none) else (bif Nat.beq pc 370 then some (.invokestatic 200, 373, [141], 0, 0) else none))))) else (bif Nat.blt pc 385 then (bif Nat.blt pc 378 then (bif Nat.blt pc 374 then (bif Nat.beq pc 373 then some (.ireturn, 374, [0], 0, 0) else none) else (bif Nat.blt pc 376 then (bif Nat.beq pc 374 then some (.iload 5, 376, [], 0, 0) else none) else (bif Nat.beq pc 376 then some (.bipush 32, 378, [], 32, 0) else none))) else (bif Nat.blt pc 381 then (bif Nat.beq pc 378 then some (.invokestatic 200, 381, [141], 0, 0) else none) else (bif Nat.blt pc 383 then (bif Nat.beq pc 381 then some (.iload 5, 383, [], 0, 0) else none) else (bif Nat.beq pc 383 then some (.bipush 32, 385, [], 32, 0) else none)))) else (bif Nat.blt pc 391 then (bif Nat.blt pc 386 then (bif Nat.beq pc 385 then some (.iand, 386, [], 0, 0) else none) else (bif Nat.blt pc 389 then (bif Nat.beq pc 386 then some (.ifCond .eq 8, 389, [394], 0, 0) else none) else (bif Nat.beq pc 389 then some (.bipush 8, 391, [], 8, 0) else none))) else (bif Nat.blt pc 394 then (bif Nat.beq pc 391 then some (.goto 4, 394, [395], 0, 0) else none) else (bif Nat.blt pc 395 then (bif Nat.beq pc 394 then some (.iconst 0, 395, [], 0, 0) else none) else (bif Nat.beq pc 395 then some (.ior, 396, [], 0, 0) else none)))))) else (bif Nat.blt pc 419 then (bif Nat.blt pc 408 then (bif Nat.blt pc 401 then (bif Nat.blt pc 397 then (bif Nat.beq pc 396 then some (.ireturn, 397, [0], 0, 0) else none) else (bif Nat.blt pc 399 then (bif Nat.beq pc 397 then some (.iload 4, 399, [], 0, 0) else none) else (bif Nat.beq pc 399 then some (.bipush 32, 401, [], 32, 0) else none))) else (bif Nat.blt pc 404 then (bif Nat.beq pc 401 then some (.invokestatic 200, 404, [141], 0, 0) else none) else (bif Nat.blt pc 406 then (bif Nat.beq pc 404 then some (.iload 4, 406, [], 0, 0) else none) else (bif Nat.beq pc 406 then some (.bipush 32, 408, [], 32, 0) else none)))) else (bif Nat.blt pc 414 then (bif Nat.blt pc 409 then (bif Nat.beq pc 408 then some (.iand, 409, [], 0, 0) else none) else (bif Nat.blt pc 412 then (bif Nat.beq pc 409 then some (.ifCond .eq 8, 412, [417], 0, 0) else none) else (bif Nat.beq pc 412 then some (.bipush 8, 414, [], 8, 0) else none))) else (bif Nat.blt pc 417 then (bif Nat.beq pc 414 then some (.goto 4, 417, [418], 0, 0) else none) else (bif Nat.blt pc 418 then (bif Nat.beq pc 417 then some (.iconst 0, 418, [], 0, 0) else none) else (bif Nat.beq pc 418 then some (.ior, 419, [], 0, 0) else none))))) else (bif Nat.blt pc 428 then (bif Nat.blt pc 423 then (bif Nat.blt pc 420 then (bif Nat.beq pc 419 then some (.ireturn, 420, [0], 0, 0) else none) else (bif Nat.blt pc 422 then (bif Nat.beq pc 420 then some (.bipush 64, 422, [], 64, 0) else none) else (bif Nat.beq pc 422 then some (.ireturn, 423, [0], 0, 0) else none))) else (bif Nat.blt pc 426 then (bif Nat.beq pc 423 then some (.sipush 128, 426, [], 128, 0) else none) else (bif Nat.blt pc 427 then (bif Nat.beq pc 426 then some (.ireturn, 427, [0], 0, 0) else none) else (bif Nat.beq pc 427 then some (.aload_n 0, 428, [], 0, 0) else none)))) else (bif Nat.blt pc 435 then (bif Nat.blt pc 430 then (bif Nat.beq pc 428 then some (.iload 4, 430, [], 0, 0) else none) else (bif Nat.blt pc 432 then (bif Nat.beq pc 430 then some (.iload 5, 432, [], 0, 0) else none) else (bif Nat.beq pc 432 then some (.invokevirtual 203, 435, [142], 0, 0) else none))) else (bif Nat.blt pc 436 then (bif Nat.beq pc 435 then some (.ireturn, 436, [0], 0, 0) else none) else (bif Nat.blt pc 437 then (bif Nat.beq pc 436 then some (.iconst 0, 437, [], 0, 0) else none) else (bif Nat.beq pc 437 then some (.ireturn, 438, [0], 0, 0) else none)))))))))
def k_X6_casts (pc : Nat) : Option mE := (bif Nat.blt pc 14 then (bif Nat.blt pc 7 then (bif Nat.blt pc 2 then (bif Nat.blt pc 1 then (bif Nat.beq pc 0 then some (.iload_n 0, 1, [], 0, 0) else none) else (bif Nat.beq pc 1 then some (.iconst 1, 2, [], 1, 0) else none)) else (bif Nat.blt pc 3 then (bif Nat.beq pc 2 then some (.iand, 3, [], 0, 0) else none) else (bif Nat.blt pc 6 then (bif Nat.beq pc 3 then some (.ifCond .eq 7, 6, [10], 0, 0) else none) else (bif Nat.beq pc 6 then some (.iconst 2, 7, [], 2, 0) else none)))) else (bif Nat.blt pc 11 then (bif Nat.blt pc 10 then (bif Nat.beq pc 7 then some (.goto 4, 10, [11], 0, 0) else none) else (bif Nat.beq pc 10 then some (.iconst 0, 11, [], 0, 0) else none)) else (bif Nat.blt pc 12 then (bif Nat.beq pc 11 then some (.iload_n 0, 12, [], 0, 0) else none) else (bif Nat.blt pc 13 then (bif Nat.beq pc 12 then some (.iload_n 1, 13, [], 0, 0) else none) else (bif Nat.beq pc 13 then some (.iconst (-1), 14, [], (-1), 0) else none))))) else (bif Nat.blt pc 22 then (bif Nat.blt pc 16 then (bif Nat.blt pc 15 then (bif Nat.beq pc 14 then some (.ixor, 15, [], 0, 0) else none) else (bif Nat.beq pc 15 then some (.iand, 16, [], 0, 0) else none)) else (bif Nat.blt pc 18 then (bif Nat.beq pc 16 then some (.bipush (-2), 18, [], (-2), 0) else none) else (bif Nat.blt pc 19 then (bif Nat.beq pc 18 then some (.iand, 19, [], 0, 0) else none) else (bif Nat.beq pc 19 then some (.ifCond .eq 7, 22, [26], 0, 0) else none)))) else (bif Nat.blt pc 26 then (bif Nat.blt pc 23 then (bif Nat.beq pc 22 then some (.iconst 4, 23, [], 4, 0) else none) else (bif Nat.beq pc 23 then some (.goto 4, 26, [27], 0, 0) else none)) else (bif Nat.blt pc 27 then (bif Nat.beq pc 26 then some (.iconst 0, 27, [], 0, 0) else none) else (bif Nat.blt pc 28 then (bif Nat.beq pc 27 then some (.ior, 28, [], 0, 0) else none) else (bif Nat.beq pc 28 then some (.ireturn, 29, [0], 0, 0) else none))))))
def k_X6_copyFaults (pc : Nat) : Option mE := (bif Nat.blt pc 101 then (bif Nat.blt pc 46 then (bif Nat.blt pc 21 then (bif Nat.blt pc 9 then (bif Nat.blt pc 3 then (bif Nat.blt pc 1 then (bif Nat.beq pc 0 then some (.iload_n 1, 1, [], 0, 0) else none) else (bif Nat.blt pc 2 then (bif Nat.beq pc 1 then some (.iload_n 2, 2, [], 0, 0) else none) else (bif Nat.beq pc 2 then some (.ior, 3, [], 0, 0) else none))) else (bif Nat.blt pc 5 then (bif Nat.blt pc 4 then (bif Nat.beq pc 3 then some (.iconst 1, 4, [], 1, 0) else none) else (bif Nat.beq pc 4 then some (.iand, 5, [], 0, 0) else none)) else (bif Nat.blt pc 8 then (bif Nat.beq pc 5 then some (.ifCond .eq 7, 8, [12], 0, 0) else none) else (bif Nat.beq pc 8 then some (.iconst 2, 9, [], 2, 0) else none)))) else (bif Nat.blt pc 14 then (bif Nat.blt pc 12 then (bif Nat.beq pc 9 then some (.goto 4, 12, [13], 0, 0) else none) else (bif Nat.blt pc 13 then (bif Nat.beq pc 12 then some (.iconst 0, 13, [], 0, 0) else none) else (bif Nat.beq pc 13 then some (.istore_n 3, 14, [], 0, 0) else none))) else (bif Nat.blt pc 17 then (bif Nat.blt pc 15 then (bif Nat.beq pc 14 then some (.iconst 1, 15, [], 1, 0) else none) else (bif Nat.beq pc 15 then some (.istore 4, 17, [], 0, 0) else none)) else (bif Nat.blt pc 19 then (bif Nat.beq pc 17 then some (.iload 4, 19, [], 0, 0) else none) else (bif Nat.beq pc 19 then some (.bipush 10, 21, [], 10, 0) else none))))) else (bif Nat.blt pc 35 then (bif Nat.blt pc 27 then (bif Nat.blt pc 24 then (bif Nat.beq pc 21 then some (.if_icmp .ge 199, 24, [220], 0, 0) else none) else (bif Nat.blt pc 25 then (bif Nat.beq pc 24 then some (.iconst 1, 25, [], 1, 0) else none) else (bif Nat.beq pc 25 then some (.istore 5, 27, [], 0, 0) else none))) else (bif Nat.blt pc 31 then (bif Nat.blt pc 29 then (bif Nat.beq pc 27 then some (.iload 5, 29, [], 0, 0) else none) else (bif Nat.beq pc 29 then some (.bipush 10, 31, [], 10, 0) else none)) else (bif Nat.blt pc 34 then (bif Nat.beq pc 31 then some (.if_icmp .ge 183, 34, [214], 0, 0) else none) else (bif Nat.beq pc 34 then some (.iload_n 1, 35, [], 0, 0) else none)))) else (bif Nat.blt pc 39 then (bif Nat.blt pc 37 then (bif Nat.beq pc 35 then some (.iload 4, 37, [], 0, 0) else none) else (bif Nat.blt pc 38 then (bif Nat.beq pc 37 then some (.ishr, 38, [], 0, 0) else none) else (bif Nat.beq pc 38 then some (.iconst 1, 39, [], 1, 0) else none))) else (bif Nat.blt pc 43 then (bif Nat.blt pc 40 then (bif Nat.beq pc 39 then some (.iand, 40, [], 0, 0) else none) else (bif Nat.beq pc 40 then some (.ifCond .eq 168, 43, [208], 0, 0) else none)) else (bif Nat.blt pc 44 then (bif Nat.beq pc 43 then some (.iload_n 2, 44, [], 0, 0) else none) else (bif Nat.beq pc 44 then some (.iload 5, 46, [], 0, 0) else none)))))) else (bif Nat.blt pc 74 then (bif Nat.blt pc 58 then (bif Nat.blt pc 49 then (bif Nat.blt pc 47 then (bif Nat.beq pc 46 then some (.ishr, 47, [], 0, 0) else none) else (bif Nat.blt pc 48 then (bif Nat.beq pc 47 then some (.iconst 1, 48, [], 1, 0) else none) else (bif Nat.beq pc 48 then some (.iand, 49, [], 0, 0) else none))) else (bif Nat.blt pc 55 then (bif Nat.blt pc 52 then (bif Nat.beq pc 49 then some (.ifCond .ne 6, 52, [55], 0, 0) else none) else (bif Nat.beq pc 52 then some (.goto 156, 55, [208], 0, 0) else none)) else (bif Nat.blt pc 57 then (bif Nat.beq pc 55 then some (.iload 4, 57, [], 0, 0) else none) else (bif Nat.beq pc 57 then some (.iconst 5, 58, [], 5, 0) else none)))) else (bif Nat.blt pc 64 then (bif Nat.blt pc 61 then (bif Nat.beq pc 58 then some (.if_icmp .lt 30, 61, [88], 0, 0) else none) else (bif Nat.blt pc 63 then (bif Nat.beq pc 61 then some (.iload 5, 63, [], 0, 0) else none) else (bif Nat.beq pc 63 then some (.iconst 5, 64, [], 5, 0) else none))) else (bif Nat.blt pc 69 then (bif Nat.blt pc 67 then (bif Nat.beq pc 64 then some (.if_icmp .lt 24, 67, [88], 0, 0) else none) else (bif Nat.beq pc 67 then some (.iload 4, 69, [], 0, 0) else none)) else (bif Nat.blt pc 71 then (bif Nat.beq pc 69 then some (.iload 5, 71, [], 0, 0) else none) else (bif Nat.beq pc 71 then some (.if_icmp .eq 25, 74, [96], 0, 0) else none))))) else (bif Nat.blt pc 89 then (bif Nat.blt pc 81 then (bif Nat.blt pc 76 then (bif Nat.beq pc 74 then some (.iload 4, 76, [], 0, 0) else none) else (bif Nat.blt pc 78 then (bif Nat.beq pc 76 then some (.bipush 7, 78, [], 7, 0) else none) else (bif Nat.beq pc 78 then some (.if_icmp .lt 10, 81, [88], 0, 0) else none))) else (bif Nat.blt pc 85 then (bif Nat.blt pc 83 then (bif Nat.beq pc 81 then some (.iload 5, 83, [], 0, 0) else none) else (bif Nat.beq pc 83 then some (.bipush 7, 85, [], 7, 0) else none)) else (bif Nat.blt pc 88 then (bif Nat.beq pc 85 then some (.if_icmp .ge 11, 88, [96], 0, 0) else none) else (bif Nat.beq pc 88 then some (.iload_n 3, 89, [], 0, 0) else none)))) else (bif Nat.blt pc 96 then (bif Nat.blt pc 92 then (bif Nat.blt pc 91 then (bif Nat.beq pc 89 then some (.bipush 16, 91, [], 16, 0) else none) else (bif Nat.beq pc 91 then some (.ior, 92, [], 0, 0) else none)) else (bif Nat.blt pc 93 then (bif Nat.beq pc 92 then some (.istore_n 3, 93, [], 0, 0) else none) else (bif Nat.beq pc 93 then some (.goto 115, 96, [208], 0, 0) else none))) else (bif Nat.blt pc 99 then (bif Nat.blt pc 97 then (bif Nat.beq pc 96 then some (.iload_n 3, 97, [], 0, 0) else none) else (bif Nat.beq pc 97 then some (.bipush 8, 99, [], 8, 0) else none)) else (bif Nat.blt pc 100 then (bif Nat.beq pc 99 then some (.ior, 100, [], 0, 0) else none) else (bif Nat.beq pc 100 then some (.istore_n 3, 101, [], 0, 0) else none))))))) else (bif Nat.blt pc 162 then (bif Nat.blt pc 129 then (bif Nat.blt pc 114 then (bif Nat.blt pc 108 then (bif Nat.blt pc 103 then (bif Nat.beq pc 101 then some (.iload 4, 103, [], 0, 0) else none) else (bif Nat.blt pc 105 then (bif Nat.beq pc 103 then some (.bipush 7, 105, [], 7, 0) else none) else (bif Nat.beq pc 105 then some (.if_icmp .ne 12, 108, [117], 0, 0) else none))) else (bif Nat.blt pc 112 then (bif Nat.blt pc 109 then (bif Nat.beq pc 108 then some (.aload_n 0, 109, [], 0, 0) else none) else (bif Nat.beq pc 109 then some (.getfield 59, 112, [6, 28, 268, 1, 368], 0, 0) else none)) else (bif Nat.blt pc 113 then (bif Nat.beq pc 112 then some (.iconst 1, 113, [], 1, 0) else none) else (bif Nat.beq pc 113 then some (.iaload, 114, [], 0, 0) else none)))) else (bif Nat.blt pc 121 then (bif Nat.blt pc 117 then (bif Nat.beq pc 114 then some (.goto 32, 117, [146], 0, 0) else none) else (bif Nat.blt pc 119 then (bif Nat.beq pc 117 then some (.iload 4, 119, [], 0, 0) else none) else (bif Nat.beq pc 119 then some (.bipush 8, 121, [], 8, 0) else none))) else (bif Nat.blt pc 125 then (bif Nat.blt pc 124 then (bif Nat.beq pc 121 then some (.if_icmp .ne 12, 124, [133], 0, 0) else none) else (bif Nat.beq pc 124 then some (.aload_n 0, 125, [], 0, 0) else none)) else (bif Nat.blt pc 128 then (bif Nat.beq pc 125 then some (.getfield 59, 128, [6, 28, 268, 1, 368], 0, 0) else none) else (bif Nat.beq pc 128 then some (.iconst 2, 129, [], 2, 0) else none))))) else (bif Nat.blt pc 145 then (bif Nat.blt pc 135 then (bif Nat.blt pc 130 then (bif Nat.beq pc 129 then some (.iaload, 130, [], 0, 0) else none) else (bif Nat.blt pc 133 then (bif Nat.beq pc 130 then some (.goto 16, 133, [146], 0, 0) else none) else (bif Nat.beq pc 133 then some (.iload 4, 135, [], 0, 0) else none))) else (bif Nat.blt pc 140 then (bif Nat.blt pc 137 then (bif Nat.beq pc 135 then some (.bipush 9, 137, [], 9, 0) else none) else (bif Nat.beq pc 137 then some (.if_icmp .ne 8, 140, [145], 0, 0) else none)) else (bif Nat.blt pc 142 then (bif Nat.beq pc 140 then some (.bipush 33, 142, [], 33, 0) else none) else (bif Nat.beq pc 142 then some (.goto 4, 145, [146], 0, 0) else none)))) else (bif Nat.blt pc 152 then (bif Nat.blt pc 148 then (bif Nat.blt pc 146 then (bif Nat.beq pc 145 then some (.iconst 1, 146, [], 1, 0) else none) else (bif Nat.beq pc 146 then some (.istore 6, 148, [], 0, 0) else none)) else (bif Nat.blt pc 150 then (bif Nat.beq pc 148 then some (.iload 5, 150, [], 0, 0) else none) else (bif Nat.beq pc 150 then some (.bipush 7, 152, [], 7, 0) else none))) else (bif Nat.blt pc 157 then (bif Nat.blt pc 155 then (bif Nat.beq pc 152 then some (.if_icmp .ne 8, 155, [160], 0, 0) else none) else (bif Nat.beq pc 155 then some (.bipush 31, 157, [], 31, 0) else none)) else (bif Nat.blt pc 160 then (bif Nat.beq pc 157 then some (.goto 30, 160, [187], 0, 0) else none) else (bif Nat.beq pc 160 then some (.iload 5, 162, [], 0, 0) else none)))))) else (bif Nat.blt pc 194 then (bif Nat.blt pc 179 then (bif Nat.blt pc 169 then (bif Nat.blt pc 164 then (bif Nat.beq pc 162 then some (.bipush 8, 164, [], 8, 0) else none) else (bif Nat.blt pc 167 then (bif Nat.beq pc 164 then some (.if_icmp .ne 8, 167, [172], 0, 0) else none) else (bif Nat.beq pc 167 then some (.bipush 25, 169, [], 25, 0) else none))) else (bif Nat.blt pc 174 then (bif Nat.blt pc 172 then (bif Nat.beq pc 169 then some (.goto 18, 172, [187], 0, 0) else none) else (bif Nat.beq pc 172 then some (.iload 5, 174, [], 0, 0) else none)) else (bif Nat.blt pc 176 then (bif Nat.beq pc 174 then some (.bipush 9, 176, [], 9, 0) else none) else (bif Nat.beq pc 176 then some (.if_icmp .ne 8, 179, [184], 0, 0) else none)))) else (bif Nat.blt pc 187 then (bif Nat.blt pc 181 then (bif Nat.beq pc 179 then some (.bipush 33, 181, [], 33, 0) else none) else (bif Nat.blt pc 184 then (bif Nat.beq pc 181 then some (.goto 6, 184, [187], 0, 0) else none) else (bif Nat.beq pc 184 then some (.sipush 1023, 187, [], 1023, 0) else none))) else (bif Nat.blt pc 190 then (bif Nat.blt pc 189 then (bif Nat.beq pc 187 then some (.istore 7, 189, [], 0, 0) else none) else (bif Nat.beq pc 189 then some (.iload_n 3, 190, [], 0, 0) else none)) else (bif Nat.blt pc 192 then (bif Nat.beq pc 190 then some (.iload 6, 192, [], 0, 0) else none) else (bif Nat.beq pc 192 then some (.iload 7, 194, [], 0, 0) else none))))) else (bif Nat.blt pc 206 then (bif Nat.blt pc 197 then (bif Nat.blt pc 195 then (bif Nat.beq pc 194 then some (.iconst (-1), 195, [], (-1), 0) else none) else (bif Nat.blt pc 196 then (bif Nat.beq pc 195 then some (.ixor, 196, [], 0, 0) else none) else (bif Nat.beq pc 196 then some (.iand, 197, [], 0, 0) else none))) else (bif Nat.blt pc 202 then (bif Nat.blt pc 200 then (bif Nat.beq pc 197 then some (.ifCond .eq 8, 200, [205], 0, 0) else none) else (bif Nat.beq pc 200 then some (.bipush 16, 202, [], 16, 0) else none)) else (bif Nat.blt pc 205 then (bif Nat.beq pc 202 then some (.goto 4, 205, [206], 0, 0) else none) else (bif Nat.beq pc 205 then some (.iconst 0, 206, [], 0, 0) else none)))) else (bif Nat.blt pc 214 then (bif Nat.blt pc 208 then (bif Nat.blt pc 207 then (bif Nat.beq pc 206 then some (.ior, 207, [], 0, 0) else none) else (bif Nat.beq pc 207 then some (.istore_n 3, 208, [], 0, 0) else none)) else (bif Nat.blt pc 211 then (bif Nat.beq pc 208 then some (.iinc 5 1, 211, [], 1, 0) else none) else (bif Nat.beq pc 211 then some (.goto (-184), 214, [27], 0, 0) else none))) else (bif Nat.blt pc 220 then (bif Nat.blt pc 217 then (bif Nat.beq pc 214 then some (.iinc 4 1, 217, [], 1, 0) else none) else (bif Nat.beq pc 217 then some (.goto (-200), 220, [17], 0, 0) else none)) else (bif Nat.blt pc 221 then (bif Nat.beq pc 220 then some (.iload_n 3, 221, [], 0, 0) else none) else (bif Nat.beq pc 221 then some (.ireturn, 222, [0], 0, 0) else none))))))))
def k_X6_tell (pc : Nat) : Option mE := (bif Nat.blt pc 96 then (bif Nat.blt pc 49 then (bif Nat.blt pc 23 then (bif Nat.blt pc 10 then (bif Nat.blt pc 7 then (bif Nat.blt pc 1 then (bif Nat.beq pc 0 then some (.aload_n 0, 1, [], 0, 0) else none) else (bif Nat.blt pc 4 then (bif Nat.beq pc 1 then some (.getfield 92, 4, [6, 23, 263, 2, 0], 0, 0) else none) else (bif Nat.beq pc 4 then some (.ifCond .eq 4, 7, [8], 0, 0) else none))) else (bif Nat.blt pc 8 then (bif Nat.beq pc 7 then some (.return_, 8, [], 0, 0) else none) else (bif Nat.blt pc 9 then (bif Nat.beq pc 8 then some (.aload_n 0, 9, [], 0, 0) else none) else (bif Nat.beq pc 9 then some (.iconst 1, 10, [], 1, 0) else none)))) else (bif Nat.blt pc 15 then (bif Nat.blt pc 13 then (bif Nat.beq pc 10 then some (.putfield 92, 13, [6, 23, 263, 2, 0], 0, 0) else none) else (bif Nat.blt pc 14 then (bif Nat.beq pc 13 then some (.iconst 0, 14, [], 0, 0) else none) else (bif Nat.beq pc 14 then some (.istore_n 1, 15, [], 0, 0) else none))) else (bif Nat.blt pc 19 then (bif Nat.blt pc 16 then (bif Nat.beq pc 15 then some (.iload_n 1, 16, [], 0, 0) else none) else (bif Nat.beq pc 16 then some (.sipush 192, 19, [], 192, 0) else none)) else (bif Nat.blt pc 22 then (bif Nat.beq pc 19 then some (.if_icmp .ge 33, 22, [52], 0, 0) else none) else (bif Nat.beq pc 22 then some (.aload_n 0, 23, [], 0, 0) else none))))) else (bif Nat.blt pc 34 then (bif Nat.blt pc 28 then (bif Nat.blt pc 26 then (bif Nat.beq pc 23 then some (.getfield 52, 26, [6, 26, 266, 1, 366], 0, 0) else none) else (bif Nat.blt pc 27 then (bif Nat.beq pc 26 then some (.iload_n 1, 27, [], 0, 0) else none) else (bif Nat.beq pc 27 then some (.iload_n 1, 28, [], 0, 0) else none))) else (bif Nat.blt pc 30 then (bif Nat.beq pc 28 then some (.bipush 6, 30, [], 6, 0) else none) else (bif Nat.blt pc 33 then (bif Nat.beq pc 30 then some (.if_icmp .ge 14, 33, [44], 0, 0) else none) else (bif Nat.beq pc 33 then some (.aload_n 0, 34, [], 0, 0) else none)))) else (bif Nat.blt pc 41 then (bif Nat.blt pc 37 then (bif Nat.beq pc 34 then some (.getfield 114, 37, [6, 1, 241, 0, 0], 0, 0) else none) else (bif Nat.blt pc 40 then (bif Nat.beq pc 37 then some (.ifCond .le 7, 40, [44], 0, 0) else none) else (bif Nat.beq pc 40 then some (.iconst 1, 41, [], 1, 0) else none))) else (bif Nat.blt pc 45 then (bif Nat.blt pc 44 then (bif Nat.beq pc 41 then some (.goto 4, 44, [45], 0, 0) else none) else (bif Nat.beq pc 44 then some (.iconst 0, 45, [], 0, 0) else none)) else (bif Nat.blt pc 46 then (bif Nat.beq pc 45 then some (.iastore, 46, [], 0, 0) else none) else (bif Nat.beq pc 46 then some (.iinc 1 1, 49, [], 1, 0) else none)))))) else (bif Nat.blt pc 73 then (bif Nat.blt pc 60 then (bif Nat.blt pc 54 then (bif Nat.blt pc 52 then (bif Nat.beq pc 49 then some (.goto (-34), 52, [15], 0, 0) else none) else (bif Nat.blt pc 53 then (bif Nat.beq pc 52 then some (.iconst 0, 53, [], 0, 0) else none) else (bif Nat.beq pc 53 then some (.istore_n 1, 54, [], 0, 0) else none))) else (bif Nat.blt pc 55 then (bif Nat.beq pc 54 then some (.iload_n 1, 55, [], 0, 0) else none) else (bif Nat.blt pc 57 then (bif Nat.beq pc 55 then some (.bipush 32, 57, [], 32, 0) else none) else (bif Nat.beq pc 57 then some (.if_icmp .ge 31, 60, [88], 0, 0) else none)))) else (bif Nat.blt pc 65 then (bif Nat.blt pc 61 then (bif Nat.beq pc 60 then some (.aload_n 0, 61, [], 0, 0) else none) else (bif Nat.blt pc 64 then (bif Nat.beq pc 61 then some (.getfield 55, 64, [6, 27, 267, 1, 367], 0, 0) else none) else (bif Nat.beq pc 64 then some (.iload_n 1, 65, [], 0, 0) else none))) else (bif Nat.blt pc 69 then (bif Nat.blt pc 66 then (bif Nat.beq pc 65 then some (.iload_n 1, 66, [], 0, 0) else none) else (bif Nat.beq pc 66 then some (.ifCond .ne 14, 69, [80], 0, 0) else none)) else (bif Nat.blt pc 70 then (bif Nat.beq pc 69 then some (.aload_n 0, 70, [], 0, 0) else none) else (bif Nat.beq pc 70 then some (.getfield 114, 73, [6, 1, 241, 0, 0], 0, 0) else none))))) else (bif Nat.blt pc 85 then (bif Nat.blt pc 80 then (bif Nat.blt pc 76 then (bif Nat.beq pc 73 then some (.ifCond .le 7, 76, [80], 0, 0) else none) else (bif Nat.blt pc 77 then (bif Nat.beq pc 76 then some (.iconst 1, 77, [], 1, 0) else none) else (bif Nat.beq pc 77 then some (.goto 4, 80, [81], 0, 0) else none))) else (bif Nat.blt pc 81 then (bif Nat.beq pc 80 then some (.iconst 0, 81, [], 0, 0) else none) else (bif Nat.blt pc 82 then (bif Nat.beq pc 81 then some (.bastore, 82, [], 0, 0) else none) else (bif Nat.beq pc 82 then some (.iinc 1 1, 85, [], 1, 0) else none)))) else (bif Nat.blt pc 90 then (bif Nat.blt pc 88 then (bif Nat.beq pc 85 then some (.goto (-31), 88, [54], 0, 0) else none) else (bif Nat.blt pc 89 then (bif Nat.beq pc 88 then some (.iconst 0, 89, [], 0, 0) else none) else (bif Nat.beq pc 89 then some (.istore_n 1, 90, [], 0, 0) else none))) else (bif Nat.blt pc 92 then (bif Nat.blt pc 91 then (bif Nat.beq pc 90 then some (.iload_n 1, 91, [], 0, 0) else none) else (bif Nat.beq pc 91 then some (.iconst 3, 92, [], 3, 0) else none)) else (bif Nat.blt pc 95 then (bif Nat.beq pc 92 then some (.if_icmp .ge 16, 95, [108], 0, 0) else none) else (bif Nat.beq pc 95 then some (.aload_n 0, 96, [], 0, 0) else none))))))) else (bif Nat.blt pc 144 then (bif Nat.blt pc 121 then (bif Nat.blt pc 108 then (bif Nat.blt pc 101 then (bif Nat.blt pc 99 then (bif Nat.beq pc 96 then some (.getfield 59, 99, [6, 28, 268, 1, 368], 0, 0) else none) else (bif Nat.blt pc 100 then (bif Nat.beq pc 99 then some (.iload_n 1, 100, [], 0, 0) else none) else (bif Nat.beq pc 100 then some (.iconst 1, 101, [], 1, 0) else none))) else (bif Nat.blt pc 102 then (bif Nat.beq pc 101 then some (.iastore, 102, [], 0, 0) else none) else (bif Nat.blt pc 105 then (bif Nat.beq pc 102 then some (.iinc 1 1, 105, [], 1, 0) else none) else (bif Nat.beq pc 105 then some (.goto (-15), 108, [90], 0, 0) else none)))) else (bif Nat.blt pc 113 then (bif Nat.blt pc 109 then (bif Nat.beq pc 108 then some (.aload_n 0, 109, [], 0, 0) else none) else (bif Nat.blt pc 110 then (bif Nat.beq pc 109 then some (.iconst 1, 110, [], 1, 0) else none) else (bif Nat.beq pc 110 then some (.putfield 180, 113, [6, 29, 269, 2, 0], 0, 0) else none))) else (bif Nat.blt pc 117 then (bif Nat.blt pc 114 then (bif Nat.beq pc 113 then some (.aload_n 0, 114, [], 0, 0) else none) else (bif Nat.beq pc 114 then some (.getfield 180, 117, [6, 29, 269, 2, 0], 0, 0) else none)) else (bif Nat.blt pc 120 then (bif Nat.beq pc 117 then some (.ifCond .eq 76, 120, [193], 0, 0) else none) else (bif Nat.beq pc 120 then some (.aload_n 0, 121, [], 0, 0) else none))))) else (bif Nat.blt pc 129 then (bif Nat.blt pc 126 then (bif Nat.blt pc 122 then (bif Nat.beq pc 121 then some (.iconst 0, 122, [], 0, 0) else none) else (bif Nat.blt pc 125 then (bif Nat.beq pc 122 then some (.putfield 180, 125, [6, 29, 269, 2, 0], 0, 0) else none) else (bif Nat.beq pc 125 then some (.iconst 0, 126, [], 0, 0) else none))) else (bif Nat.blt pc 127 then (bif Nat.beq pc 126 then some (.istore_n 1, 127, [], 0, 0) else none) else (bif Nat.blt pc 128 then (bif Nat.beq pc 127 then some (.iload_n 1, 128, [], 0, 0) else none) else (bif Nat.beq pc 128 then some (.aload_n 0, 129, [], 0, 0) else none)))) else (bif Nat.blt pc 136 then (bif Nat.blt pc 132 then (bif Nat.beq pc 129 then some (.getfield 114, 132, [6, 1, 241, 0, 0], 0, 0) else none) else (bif Nat.blt pc 135 then (bif Nat.beq pc 132 then some (.if_icmp .ge 58, 135, [190], 0, 0) else none) else (bif Nat.beq pc 135 then some (.aload_n 0, 136, [], 0, 0) else none))) else (bif Nat.blt pc 140 then (bif Nat.blt pc 139 then (bif Nat.beq pc 136 then some (.getfield 55, 139, [6, 27, 267, 1, 367], 0, 0) else none) else (bif Nat.beq pc 139 then some (.iload_n 1, 140, [], 0, 0) else none)) else (bif Nat.blt pc 141 then (bif Nat.beq pc 140 then some (.baload, 141, [], 0, 0) else none) else (bif Nat.beq pc 141 then some (.ifCond .ne 6, 144, [147], 0, 0) else none)))))) else (bif Nat.blt pc 169 then (bif Nat.blt pc 156 then (bif Nat.blt pc 149 then (bif Nat.blt pc 147 then (bif Nat.beq pc 144 then some (.goto 40, 147, [184], 0, 0) else none) else (bif Nat.blt pc 148 then (bif Nat.beq pc 147 then some (.aload_n 0, 148, [], 0, 0) else none) else (bif Nat.beq pc 148 then some (.iload_n 1, 149, [], 0, 0) else none))) else (bif Nat.blt pc 152 then (bif Nat.beq pc 149 then some (.invokevirtual 206, 152, [139], 0, 0) else none) else (bif Nat.blt pc 153 then (bif Nat.beq pc 152 then some (.aload_n 0, 153, [], 0, 0) else none) else (bif Nat.beq pc 153 then some (.getfield 22, 156, [6, 6, 246, 1, 346], 0, 0) else none)))) else (bif Nat.blt pc 161 then (bif Nat.blt pc 157 then (bif Nat.beq pc 156 then some (.iload_n 1, 157, [], 0, 0) else none) else (bif Nat.blt pc 158 then (bif Nat.beq pc 157 then some (.iaload, 158, [], 0, 0) else none) else (bif Nat.beq pc 158 then some (.ifCond .lt 26, 161, [184], 0, 0) else none))) else (bif Nat.blt pc 163 then (bif Nat.blt pc 162 then (bif Nat.beq pc 161 then some (.aload_n 0, 162, [], 0, 0) else none) else (bif Nat.beq pc 162 then some (.iload_n 1, 163, [], 0, 0) else none)) else (bif Nat.blt pc 166 then (bif Nat.beq pc 163 then some (.invokevirtual 209, 166, [140], 0, 0) else none) else (bif Nat.beq pc 166 then some (.ifCond .eq 18, 169, [184], 0, 0) else none))))) else (bif Nat.blt pc 179 then (bif Nat.blt pc 174 then (bif Nat.blt pc 170 then (bif Nat.beq pc 169 then some (.aload_n 0, 170, [], 0, 0) else none) else (bif Nat.blt pc 171 then (bif Nat.beq pc 170 then some (.iload_n 1, 171, [], 0, 0) else none) else (bif Nat.beq pc 171 then some (.invokevirtual 183, 174, [136], 0, 0) else none))) else (bif Nat.blt pc 175 then (bif Nat.beq pc 174 then some (.aload_n 0, 175, [], 0, 0) else none) else (bif Nat.blt pc 176 then (bif Nat.beq pc 175 then some (.aload_n 0, 176, [], 0, 0) else none) else (bif Nat.beq pc 176 then some (.getfield 22, 179, [6, 6, 246, 1, 346], 0, 0) else none)))) else (bif Nat.blt pc 184 then (bif Nat.blt pc 180 then (bif Nat.beq pc 179 then some (.iload_n 1, 180, [], 0, 0) else none) else (bif Nat.blt pc 181 then (bif Nat.beq pc 180 then some (.iaload, 181, [], 0, 0) else none) else (bif Nat.beq pc 181 then some (.invokevirtual 190, 184, [137], 0, 0) else none))) else (bif Nat.blt pc 190 then (bif Nat.blt pc 187 then (bif Nat.beq pc 184 then some (.iinc 1 1, 187, [], 1, 0) else none) else (bif Nat.beq pc 187 then some (.goto (-60), 190, [127], 0, 0) else none)) else (bif Nat.blt pc 193 then (bif Nat.beq pc 190 then some (.goto (-77), 193, [113], 0, 0) else none) else (bif Nat.beq pc 193 then some (.return_, 194, [], 0, 0) else none))))))))
def k_X6_may (pc : Nat) : Option mE := (bif Nat.blt pc 24 then (bif Nat.blt pc 12 then (bif Nat.blt pc 6 then (bif Nat.blt pc 2 then (bif Nat.blt pc 1 then (bif Nat.beq pc 0 then some (.aload_n 0, 1, [], 0, 0) else none) else (bif Nat.beq pc 1 then some (.iconst 0, 2, [], 0, 0) else none)) else (bif Nat.blt pc 5 then (bif Nat.beq pc 2 then some (.putfield 65, 5, [6, 0, 240, 0, 0], 0, 0) else none) else (bif Nat.beq pc 5 then some (.iload_n 1, 6, [], 0, 0) else none))) else (bif Nat.blt pc 8 then (bif Nat.blt pc 7 then (bif Nat.beq pc 6 then some (.i2l, 7, [], 0, 0) else none) else (bif Nat.beq pc 7 then some (.lconst 0, 8, [], 0, 0) else none)) else (bif Nat.blt pc 9 then (bif Nat.beq pc 8 then some (.aload_n 0, 9, [], 0, 0) else none) else (bif Nat.beq pc 9 then some (.getfield 114, 12, [6, 1, 241, 0, 0], 0, 0) else none)))) else (bif Nat.blt pc 18 then (bif Nat.blt pc 14 then (bif Nat.blt pc 13 then (bif Nat.beq pc 12 then some (.iconst 1, 13, [], 1, 0) else none) else (bif Nat.beq pc 13 then some (.isub, 14, [], 0, 0) else none)) else (bif Nat.blt pc 15 then (bif Nat.beq pc 14 then some (.i2l, 15, [], 0, 0) else none) else (bif Nat.beq pc 15 then some (.invokestatic 71, 18, [109], 0, 0) else none))) else (bif Nat.blt pc 22 then (bif Nat.blt pc 21 then (bif Nat.beq pc 18 then some (.ifCond .eq 15, 21, [33], 0, 0) else none) else (bif Nat.beq pc 21 then some (.iload_n 2, 22, [], 0, 0) else none)) else (bif Nat.blt pc 23 then (bif Nat.beq pc 22 then some (.i2l, 23, [], 0, 0) else none) else (bif Nat.beq pc 23 then some (.lconst 0, 24, [], 0, 0) else none))))) else (bif Nat.blt pc 40 then (bif Nat.blt pc 34 then (bif Nat.blt pc 30 then (bif Nat.blt pc 27 then (bif Nat.beq pc 24 then some (.ldc2_w 69, 27, [], 0, 5) else none) else (bif Nat.beq pc 27 then some (.invokestatic 71, 30, [109], 0, 0) else none)) else (bif Nat.blt pc 33 then (bif Nat.beq pc 30 then some (.ifCond .ne 5, 33, [35], 0, 0) else none) else (bif Nat.beq pc 33 then some (.iconst (-1), 34, [], (-1), 0) else none))) else (bif Nat.blt pc 36 then (bif Nat.blt pc 35 then (bif Nat.beq pc 34 then some (.ireturn, 35, [0], 0, 0) else none) else (bif Nat.beq pc 35 then some (.aload_n 0, 36, [], 0, 0) else none)) else (bif Nat.blt pc 39 then (bif Nat.beq pc 36 then some (.invokevirtual 212, 39, [143], 0, 0) else none) else (bif Nat.beq pc 39 then some (.aload_n 0, 40, [], 0, 0) else none)))) else (bif Nat.blt pc 47 then (bif Nat.blt pc 45 then (bif Nat.blt pc 43 then (bif Nat.beq pc 40 then some (.getfield 52, 43, [6, 26, 266, 1, 366], 0, 0) else none) else (bif Nat.beq pc 43 then some (.bipush 6, 45, [], 6, 0) else none)) else (bif Nat.blt pc 46 then (bif Nat.beq pc 45 then some (.iload_n 1, 46, [], 0, 0) else none) else (bif Nat.beq pc 46 then some (.imul, 47, [], 0, 0) else none))) else (bif Nat.blt pc 49 then (bif Nat.blt pc 48 then (bif Nat.beq pc 47 then some (.iload_n 2, 48, [], 0, 0) else none) else (bif Nat.beq pc 48 then some (.iadd, 49, [], 0, 0) else none)) else (bif Nat.blt pc 50 then (bif Nat.beq pc 49 then some (.iaload, 50, [], 0, 0) else none) else (bif Nat.beq pc 50 then some (.ireturn, 51, [0], 0, 0) else none))))))
def k_X6_faults (pc : Nat) : Option mE := (bif Nat.blt pc 22 then (bif Nat.blt pc 9 then (bif Nat.blt pc 5 then (bif Nat.blt pc 1 then (bif Nat.beq pc 0 then some (.aload_n 0, 1, [], 0, 0) else none) else (bif Nat.blt pc 2 then (bif Nat.beq pc 1 then some (.iconst 0, 2, [], 0, 0) else none) else (bif Nat.beq pc 2 then some (.putfield 65, 5, [6, 0, 240, 0, 0], 0, 0) else none))) else (bif Nat.blt pc 7 then (bif Nat.blt pc 6 then (bif Nat.beq pc 5 then some (.iload_n 1, 6, [], 0, 0) else none) else (bif Nat.beq pc 6 then some (.i2l, 7, [], 0, 0) else none)) else (bif Nat.blt pc 8 then (bif Nat.beq pc 7 then some (.lconst 0, 8, [], 0, 0) else none) else (bif Nat.beq pc 8 then some (.aload_n 0, 9, [], 0, 0) else none)))) else (bif Nat.blt pc 14 then (bif Nat.blt pc 12 then (bif Nat.beq pc 9 then some (.getfield 114, 12, [6, 1, 241, 0, 0], 0, 0) else none) else (bif Nat.blt pc 13 then (bif Nat.beq pc 12 then some (.iconst 1, 13, [], 1, 0) else none) else (bif Nat.beq pc 13 then some (.isub, 14, [], 0, 0) else none))) else (bif Nat.blt pc 18 then (bif Nat.blt pc 15 then (bif Nat.beq pc 14 then some (.i2l, 15, [], 0, 0) else none) else (bif Nat.beq pc 15 then some (.invokestatic 71, 18, [109], 0, 0) else none)) else (bif Nat.blt pc 21 then (bif Nat.beq pc 18 then some (.ifCond .ne 5, 21, [23], 0, 0) else none) else (bif Nat.beq pc 21 then some (.iconst (-1), 22, [], (-1), 0) else none))))) else (bif Nat.blt pc 33 then (bif Nat.blt pc 27 then (bif Nat.blt pc 23 then (bif Nat.beq pc 22 then some (.ireturn, 23, [0], 0, 0) else none) else (bif Nat.blt pc 24 then (bif Nat.beq pc 23 then some (.aload_n 0, 24, [], 0, 0) else none) else (bif Nat.beq pc 24 then some (.invokevirtual 212, 27, [143], 0, 0) else none))) else (bif Nat.blt pc 31 then (bif Nat.blt pc 28 then (bif Nat.beq pc 27 then some (.aload_n 0, 28, [], 0, 0) else none) else (bif Nat.beq pc 28 then some (.getfield 55, 31, [6, 27, 267, 1, 367], 0, 0) else none)) else (bif Nat.blt pc 32 then (bif Nat.beq pc 31 then some (.iload_n 1, 32, [], 0, 0) else none) else (bif Nat.beq pc 32 then some (.baload, 33, [], 0, 0) else none)))) else (bif Nat.blt pc 38 then (bif Nat.blt pc 36 then (bif Nat.beq pc 33 then some (.ifCond .eq 11, 36, [44], 0, 0) else none) else (bif Nat.blt pc 37 then (bif Nat.beq pc 36 then some (.aload_n 0, 37, [], 0, 0) else none) else (bif Nat.beq pc 37 then some (.iload_n 1, 38, [], 0, 0) else none))) else (bif Nat.blt pc 44 then (bif Nat.blt pc 41 then (bif Nat.beq pc 38 then some (.invokevirtual 209, 41, [140], 0, 0) else none) else (bif Nat.beq pc 41 then some (.goto 4, 44, [45], 0, 0) else none)) else (bif Nat.blt pc 45 then (bif Nat.beq pc 44 then some (.iconst 0, 45, [], 0, 0) else none) else (bif Nat.beq pc 45 then some (.ireturn, 46, [0], 0, 0) else none))))))
def k_X6_cast (pc : Nat) : Option mE := (bif Nat.blt pc 51 then (bif Nat.blt pc 23 then (bif Nat.blt pc 9 then (bif Nat.blt pc 5 then (bif Nat.blt pc 1 then (bif Nat.beq pc 0 then some (.aload_n 0, 1, [], 0, 0) else none) else (bif Nat.blt pc 2 then (bif Nat.beq pc 1 then some (.iconst 0, 2, [], 0, 0) else none) else (bif Nat.beq pc 2 then some (.putfield 65, 5, [6, 0, 240, 0, 0], 0, 0) else none))) else (bif Nat.blt pc 7 then (bif Nat.blt pc 6 then (bif Nat.beq pc 5 then some (.iload_n 1, 6, [], 0, 0) else none) else (bif Nat.beq pc 6 then some (.i2l, 7, [], 0, 0) else none)) else (bif Nat.blt pc 8 then (bif Nat.beq pc 7 then some (.lconst 0, 8, [], 0, 0) else none) else (bif Nat.beq pc 8 then some (.aload_n 0, 9, [], 0, 0) else none)))) else (bif Nat.blt pc 15 then (bif Nat.blt pc 13 then (bif Nat.blt pc 12 then (bif Nat.beq pc 9 then some (.getfield 114, 12, [6, 1, 241, 0, 0], 0, 0) else none) else (bif Nat.beq pc 12 then some (.iconst 1, 13, [], 1, 0) else none)) else (bif Nat.blt pc 14 then (bif Nat.beq pc 13 then some (.isub, 14, [], 0, 0) else none) else (bif Nat.beq pc 14 then some (.i2l, 15, [], 0, 0) else none))) else (bif Nat.blt pc 21 then (bif Nat.blt pc 18 then (bif Nat.beq pc 15 then some (.invokestatic 71, 18, [109], 0, 0) else none) else (bif Nat.beq pc 18 then some (.ifCond .ne 5, 21, [23], 0, 0) else none)) else (bif Nat.blt pc 22 then (bif Nat.beq pc 21 then some (.iconst (-1), 22, [], (-1), 0) else none) else (bif Nat.beq pc 22 then some (.ireturn, 23, [0], 0, 0) else none))))) else (bif Nat.blt pc 38 then (bif Nat.blt pc 31 then (bif Nat.blt pc 27 then (bif Nat.blt pc 24 then (bif Nat.beq pc 23 then some (.aload_n 0, 24, [], 0, 0) else none) else (bif Nat.beq pc 24 then some (.invokevirtual 212, 27, [143], 0, 0) else none)) else (bif Nat.blt pc 28 then (bif Nat.beq pc 27 then some (.aload_n 0, 28, [], 0, 0) else none) else (bif Nat.beq pc 28 then some (.getfield 7, 31, [6, 2, 242, 1, 342], 0, 0) else none))) else (bif Nat.blt pc 33 then (bif Nat.blt pc 32 then (bif Nat.beq pc 31 then some (.iload_n 1, 32, [], 0, 0) else none) else (bif Nat.beq pc 32 then some (.iaload, 33, [], 0, 0) else none)) else (bif Nat.blt pc 35 then (bif Nat.beq pc 33 then some (.bipush 6, 35, [], 6, 0) else none) else (bif Nat.beq pc 35 then some (.if_icmp .ne 12, 38, [47], 0, 0) else none)))) else (bif Nat.blt pc 44 then (bif Nat.blt pc 42 then (bif Nat.blt pc 39 then (bif Nat.beq pc 38 then some (.aload_n 0, 39, [], 0, 0) else none) else (bif Nat.beq pc 39 then some (.getfield 55, 42, [6, 27, 267, 1, 367], 0, 0) else none)) else (bif Nat.blt pc 43 then (bif Nat.beq pc 42 then some (.iload_n 1, 43, [], 0, 0) else none) else (bif Nat.beq pc 43 then some (.baload, 44, [], 0, 0) else none))) else (bif Nat.blt pc 49 then (bif Nat.blt pc 47 then (bif Nat.beq pc 44 then some (.ifCond .ne 6, 47, [50], 0, 0) else none) else (bif Nat.beq pc 47 then some (.bipush (-3), 49, [], (-3), 0) else none)) else (bif Nat.blt pc 50 then (bif Nat.beq pc 49 then some (.ireturn, 50, [0], 0, 0) else none) else (bif Nat.beq pc 50 then some (.aload_n 0, 51, [], 0, 0) else none)))))) else (bif Nat.blt pc 74 then (bif Nat.blt pc 64 then (bif Nat.blt pc 58 then (bif Nat.blt pc 56 then (bif Nat.blt pc 54 then (bif Nat.beq pc 51 then some (.getfield 52, 54, [6, 26, 266, 1, 366], 0, 0) else none) else (bif Nat.beq pc 54 then some (.bipush 6, 56, [], 6, 0) else none)) else (bif Nat.blt pc 57 then (bif Nat.beq pc 56 then some (.iload_n 1, 57, [], 0, 0) else none) else (bif Nat.beq pc 57 then some (.imul, 58, [], 0, 0) else none))) else (bif Nat.blt pc 62 then (bif Nat.blt pc 59 then (bif Nat.beq pc 58 then some (.aload_n 0, 59, [], 0, 0) else none) else (bif Nat.beq pc 59 then some (.getfield 13, 62, [6, 3, 243, 1, 343], 0, 0) else none)) else (bif Nat.blt pc 63 then (bif Nat.beq pc 62 then some (.iload_n 1, 63, [], 0, 0) else none) else (bif Nat.beq pc 63 then some (.iaload, 64, [], 0, 0) else none)))) else (bif Nat.blt pc 68 then (bif Nat.blt pc 66 then (bif Nat.blt pc 65 then (bif Nat.beq pc 64 then some (.iadd, 65, [], 0, 0) else none) else (bif Nat.beq pc 65 then some (.iaload, 66, [], 0, 0) else none)) else (bif Nat.blt pc 67 then (bif Nat.beq pc 66 then some (.istore_n 2, 67, [], 0, 0) else none) else (bif Nat.beq pc 67 then some (.iload_n 2, 68, [], 0, 0) else none))) else (bif Nat.blt pc 72 then (bif Nat.blt pc 69 then (bif Nat.beq pc 68 then some (.aload_n 0, 69, [], 0, 0) else none) else (bif Nat.beq pc 69 then some (.getfield 16, 72, [6, 4, 244, 1, 344], 0, 0) else none)) else (bif Nat.blt pc 73 then (bif Nat.beq pc 72 then some (.iload_n 1, 73, [], 0, 0) else none) else (bif Nat.beq pc 73 then some (.iaload, 74, [], 0, 0) else none))))) else (bif Nat.blt pc 86 then (bif Nat.blt pc 80 then (bif Nat.blt pc 78 then (bif Nat.blt pc 77 then (bif Nat.beq pc 74 then some (.invokestatic 187, 77, [134], 0, 0) else none) else (bif Nat.beq pc 77 then some (.iconst 1, 78, [], 1, 0) else none)) else (bif Nat.blt pc 79 then (bif Nat.beq pc 78 then some (.ior, 79, [], 0, 0) else none) else (bif Nat.beq pc 79 then some (.iand, 80, [], 0, 0) else none))) else (bif Nat.blt pc 82 then (bif Nat.blt pc 81 then (bif Nat.beq pc 80 then some (.istore_n 3, 81, [], 0, 0) else none) else (bif Nat.beq pc 81 then some (.iload_n 3, 82, [], 0, 0) else none)) else (bif Nat.blt pc 83 then (bif Nat.beq pc 82 then some (.iload_n 2, 83, [], 0, 0) else none) else (bif Nat.beq pc 83 then some (.if_icmp .ne 7, 86, [90], 0, 0) else none)))) else (bif Nat.blt pc 94 then (bif Nat.blt pc 90 then (bif Nat.blt pc 87 then (bif Nat.beq pc 86 then some (.iconst 0, 87, [], 0, 0) else none) else (bif Nat.beq pc 87 then some (.goto 12, 90, [99], 0, 0) else none)) else (bif Nat.blt pc 91 then (bif Nat.beq pc 90 then some (.iload_n 3, 91, [], 0, 0) else none) else (bif Nat.beq pc 91 then some (.ifCond .ne 7, 94, [98], 0, 0) else none))) else (bif Nat.blt pc 98 then (bif Nat.blt pc 95 then (bif Nat.beq pc 94 then some (.iconst 2, 95, [], 2, 0) else none) else (bif Nat.beq pc 95 then some (.goto 4, 98, [99], 0, 0) else none)) else (bif Nat.blt pc 99 then (bif Nat.beq pc 98 then some (.iconst 1, 99, [], 1, 0) else none) else (bif Nat.beq pc 99 then some (.ireturn, 100, [0], 0, 0) else none)))))))
def k_X6_all (pc : Nat) : Option mE := (bif Nat.blt pc 17 then (bif Nat.blt pc 6 then (bif Nat.blt pc 2 then (bif Nat.blt pc 1 then (bif Nat.beq pc 0 then some (.aload_n 0, 1, [], 0, 0) else none) else (bif Nat.beq pc 1 then some (.iconst 0, 2, [], 0, 0) else none)) else (bif Nat.blt pc 5 then (bif Nat.beq pc 2 then some (.putfield 65, 5, [6, 0, 240, 0, 0], 0, 0) else none) else (bif Nat.beq pc 5 then some (.iload_n 1, 6, [], 0, 0) else none))) else (bif Nat.blt pc 8 then (bif Nat.blt pc 7 then (bif Nat.beq pc 6 then some (.i2l, 7, [], 0, 0) else none) else (bif Nat.beq pc 7 then some (.lconst 0, 8, [], 0, 0) else none)) else (bif Nat.blt pc 11 then (bif Nat.beq pc 8 then some (.ldc2_w 215, 11, [], 0, 2) else none) else (bif Nat.blt pc 14 then (bif Nat.beq pc 11 then some (.invokestatic 71, 14, [109], 0, 0) else none) else (bif Nat.beq pc 14 then some (.ifCond .ne 6, 17, [20], 0, 0) else none))))) else (bif Nat.blt pc 24 then (bif Nat.blt pc 20 then (bif Nat.blt pc 19 then (bif Nat.beq pc 17 then some (.bipush (-2), 19, [], (-2), 0) else none) else (bif Nat.beq pc 19 then some (.ireturn, 20, [0], 0, 0) else none)) else (bif Nat.blt pc 21 then (bif Nat.beq pc 20 then some (.aload_n 0, 21, [], 0, 0) else none) else (bif Nat.beq pc 21 then some (.invokevirtual 212, 24, [143], 0, 0) else none))) else (bif Nat.blt pc 28 then (bif Nat.blt pc 25 then (bif Nat.beq pc 24 then some (.aload_n 0, 25, [], 0, 0) else none) else (bif Nat.beq pc 25 then some (.getfield 59, 28, [6, 28, 268, 1, 368], 0, 0) else none)) else (bif Nat.blt pc 29 then (bif Nat.beq pc 28 then some (.iload_n 1, 29, [], 0, 0) else none) else (bif Nat.blt pc 30 then (bif Nat.beq pc 29 then some (.iaload, 30, [], 0, 0) else none) else (bif Nat.beq pc 30 then some (.ireturn, 31, [0], 0, 0) else none))))))
def k_X6_mean (pc : Nat) : Option mE := (bif Nat.blt pc 17 then (bif Nat.blt pc 6 then (bif Nat.blt pc 2 then (bif Nat.blt pc 1 then (bif Nat.beq pc 0 then some (.aload_n 0, 1, [], 0, 0) else none) else (bif Nat.beq pc 1 then some (.iconst 0, 2, [], 0, 0) else none)) else (bif Nat.blt pc 5 then (bif Nat.beq pc 2 then some (.putfield 65, 5, [6, 0, 240, 0, 0], 0, 0) else none) else (bif Nat.beq pc 5 then some (.aload_n 0, 6, [], 0, 0) else none))) else (bif Nat.blt pc 12 then (bif Nat.blt pc 9 then (bif Nat.beq pc 6 then some (.getfield 89, 9, [6, 10, 250, 0, 0], 0, 0) else none) else (bif Nat.beq pc 9 then some (.ifCond .ne 10, 12, [19], 0, 0) else none)) else (bif Nat.blt pc 13 then (bif Nat.beq pc 12 then some (.aload_n 0, 13, [], 0, 0) else none) else (bif Nat.blt pc 14 then (bif Nat.beq pc 13 then some (.iconst 1, 14, [], 1, 0) else none) else (bif Nat.beq pc 14 then some (.putfield 65, 17, [6, 0, 240, 0, 0], 0, 0) else none))))) else (bif Nat.blt pc 24 then (bif Nat.blt pc 19 then (bif Nat.blt pc 18 then (bif Nat.beq pc 17 then some (.iconst 0, 18, [], 0, 0) else none) else (bif Nat.beq pc 18 then some (.ireturn, 19, [0], 0, 0) else none)) else (bif Nat.blt pc 20 then (bif Nat.beq pc 19 then some (.aload_n 0, 20, [], 0, 0) else none) else (bif Nat.blt pc 23 then (bif Nat.beq pc 20 then some (.getfield 85, 23, [6, 9, 249, 3, 0], 0, 0) else none) else (bif Nat.beq pc 23 then some (.aload_n 0, 24, [], 0, 0) else none)))) else (bif Nat.blt pc 28 then (bif Nat.blt pc 27 then (bif Nat.beq pc 24 then some (.getfield 89, 27, [6, 10, 250, 0, 0], 0, 0) else none) else (bif Nat.beq pc 27 then some (.i2l, 28, [], 0, 0) else none)) else (bif Nat.blt pc 29 then (bif Nat.beq pc 28 then some (.ldiv, 29, [], 0, 0) else none) else (bif Nat.blt pc 30 then (bif Nat.beq pc 29 then some (.l2i, 30, [], 0, 0) else none) else (bif Nat.beq pc 30 then some (.ireturn, 31, [0], 0, 0) else none))))))
def k_J7_fill_53178 (pc : Nat) : Option mE := (bif Nat.blt pc 7 then (bif Nat.blt pc 3 then (bif Nat.blt pc 1 then (bif Nat.beq pc 0 then some (.iconst 0, 1, [], 0, 0) else none) else (bif Nat.blt pc 2 then (bif Nat.beq pc 1 then some (.istore_n 2, 2, [], 0, 0) else none) else (bif Nat.beq pc 2 then some (.aload_n 0, 3, [], 0, 0) else none))) else (bif Nat.blt pc 5 then (bif Nat.blt pc 4 then (bif Nat.beq pc 3 then some (.arraylength, 4, [], 0, 0) else none) else (bif Nat.beq pc 4 then some (.istore_n 3, 5, [], 0, 0) else none)) else (bif Nat.blt pc 6 then (bif Nat.beq pc 5 then some (.iload_n 2, 6, [], 0, 0) else none) else (bif Nat.beq pc 6 then some (.iload_n 3, 7, [], 0, 0) else none)))) else (bif Nat.blt pc 13 then (bif Nat.blt pc 11 then (bif Nat.blt pc 10 then (bif Nat.beq pc 7 then some (.if_icmp .ge 13, 10, [20], 0, 0) else none) else (bif Nat.beq pc 10 then some (.aload_n 0, 11, [], 0, 0) else none)) else (bif Nat.blt pc 12 then (bif Nat.beq pc 11 then some (.iload_n 2, 12, [], 0, 0) else none) else (bif Nat.beq pc 12 then some (.iload_n 1, 13, [], 0, 0) else none))) else (bif Nat.blt pc 17 then (bif Nat.blt pc 14 then (bif Nat.beq pc 13 then some (.iastore, 14, [], 0, 0) else none) else (bif Nat.beq pc 14 then some (.iinc 2 1, 17, [], 1, 0) else none)) else (bif Nat.blt pc 20 then (bif Nat.beq pc 17 then some (.goto (-12), 20, [5], 0, 0) else none) else (bif Nat.beq pc 20 then some (.return_, 21, [], 0, 0) else none)))))
def m_tr (M : Nat) : Nat → Option mE := (bif Nat.blt M 75 then (bif Nat.blt M 37 then (bif Nat.blt M 18 then (bif Nat.blt M 9 then (bif Nat.blt M 4 then (bif Nat.blt M 2 then (bif Nat.blt M 1 then k_X0_empty else k_X0_size) else (bif Nat.blt M 3 then k_X0_isFull else k_X0_make)) else (bif Nat.blt M 6 then (bif Nat.blt M 5 then k_X0_firstCell else k_X0_kindOf) else (bif Nat.blt M 7 then k_X0_lengthOf else (bif Nat.blt M 8 then k_X0_nextOf else k_X0_setNext)))) else (bif Nat.blt M 13 then (bif Nat.blt M 11 then (bif Nat.blt M 10 then k_X0_cell else k_X0_setCell) else (bif Nat.blt M 12 then k_X0_takes else k_X0_move)) else (bif Nat.blt M 15 then (bif Nat.blt M 14 then k_X1_forget else k_X1_hasRun) else (bif Nat.blt M 16 then k_X1_go else (bif Nat.blt M 17 then k_X1_begin else k_X1_takeStep))))) else (bif Nat.blt M 27 then (bif Nat.blt M 22 then (bif Nat.blt M 20 then (bif Nat.blt M 19 then k_X1_meetFault else k_X1_perform) else (bif Nat.blt M 21 then k_X1_performSafely else k_X1_jumpIf)) else (bif Nat.blt M 24 then (bif Nat.blt M 23 then k_X1_makeThing else k_X1_makeArray) else (bif Nat.blt M 25 then k_X1_castInto else (bif Nat.blt M 26 then k_X1_getNext else k_X1_setNext)))) else (bif Nat.blt M 32 then (bif Nat.blt M 29 then (bif Nat.blt M 28 then k_X1_getCell else k_X1_setCell) else (bif Nat.blt M 30 then k_X1_askFace else (bif Nat.blt M 31 then k_X1_getLength else k_X1_getInt))) else (bif Nat.blt M 34 then (bif Nat.blt M 33 then k_X1_setInt else k_X1_divide) else (bif Nat.blt M 35 then k_X1_move else (bif Nat.blt M 36 then k_X1_castFault else k_X1_useFault)))))) else (bif Nat.blt M 56 then (bif Nat.blt M 46 then (bif Nat.blt M 41 then (bif Nat.blt M 39 then (bif Nat.blt M 38 then k_X1_cellFault else k_X1_report) else (bif Nat.blt M 40 then k_X1_look else k_X1_numberAt)) else (bif Nat.blt M 43 then (bif Nat.blt M 42 then k_X2_forget else k_X2_settle) else (bif Nat.blt M 44 then k_X2_kindsAt else (bif Nat.blt M 45 then k_X2_faultsAt else k_X2_castAt)))) else (bif Nat.blt M 51 then (bif Nat.blt M 48 then (bif Nat.blt M 47 then k_X2_allOf else k_X2_isReached) else (bif Nat.blt M 49 then k_X2_lookAt else (bif Nat.blt M 50 then k_X2_begin else k_X2_goTo))) else (bif Nat.blt M 53 then (bif Nat.blt M 52 then k_X2_addToAll else k_X2_store) else (bif Nat.blt M 54 then k_X2_storeCell else (bif Nat.blt M 55 then k_X2_storeMoved else k_X2_goOn))))) else (bif Nat.blt M 65 then (bif Nat.blt M 60 then (bif Nat.blt M 58 then (bif Nat.blt M 57 then k_X2_goBothWays else k_X2_pass) else (bif Nat.blt M 59 then k_X2_put else k_X2_keep)) else (bif Nat.blt M 62 then (bif Nat.blt M 61 then k_X2_keepBoth else k_X2_cellsOf) else (bif Nat.blt M 63 then k_X2_arraysThatTake else (bif Nat.blt M 64 then k_X2_kindsTakenBy else k_X2_movedTo)))) else (bif Nat.blt M 70 then (bif Nat.blt M 67 then (bif Nat.blt M 66 then k_X2_movedFrom else k_X2_faultsOf) else (bif Nat.blt M 68 then k_X2_castFaults else (bif Nat.blt M 69 then k_X2_useFaults else k_X2_cellFaults))) else (bif Nat.blt M 72 then (bif Nat.blt M 71 then k_X2_lengthFaults else k_X2_setCellFaults) else (bif Nat.blt M 73 then k_X2_moveFaults else (bif Nat.blt M 74 then k_X2_moveFaultsOf else k_X2_cellsIn))))))) else (bif Nat.blt M 112 then (bif Nat.blt M 93 then (bif Nat.blt M 84 then (bif Nat.blt M 79 then (bif Nat.blt M 77 then (bif Nat.blt M 76 then k_X3_isInBounds else k_X3_fits) else (bif Nat.blt M 78 then k_X3_add else k_X3_empty)) else (bif Nat.blt M 81 then (bif Nat.blt M 80 then k_X3_size else k_X3_has) else (bif Nat.blt M 82 then k_X4_forget else (bif Nat.blt M 83 then k_X4_noteRun else k_X4_noteStep)))) else (bif Nat.blt M 88 then (bif Nat.blt M 86 then (bif Nat.blt M 85 then k_X4_noteKind else k_X4_noteFault) else (bif Nat.blt M 87 then k_X4_kindsAt else k_X4_faultsAt)) else (bif Nat.blt M 90 then (bif Nat.blt M 89 then k_X4_stepsDone else k_X4_runs) else (bif Nat.blt M 91 then k_X5_step else (bif Nat.blt M 92 then k_X5_clear else k_X5_run))))) else (bif Nat.blt M 102 then (bif Nat.blt M 97 then (bif Nat.blt M 95 then (bif Nat.blt M 94 then k_X5_ran else k_X5_variable) else (bif Nat.blt M 96 then k_X5_number else k_X5_seen)) else (bif Nat.blt M 99 then (bif Nat.blt M 98 then k_X5_had else k_X5_may) else (bif Nat.blt M 100 then k_X5_faults else (bif Nat.blt M 101 then k_X5_cast else k_X5_all)))) else (bif Nat.blt M 107 then (bif Nat.blt M 104 then (bif Nat.blt M 103 then k_X5_isVariable else k_X5_isNumber) else (bif Nat.blt M 105 then k_X5_only else (bif Nat.blt M 106 then k_X5_holds else k_X5_share))) else (bif Nat.blt M 109 then (bif Nat.blt M 108 then k_X5_faultIf else k_X6_thrown) else (bif Nat.blt M 110 then k_X6_in else (bif Nat.blt M 111 then k_X6_sortA else k_X6_sortB)))))) else (bif Nat.blt M 131 then (bif Nat.blt M 121 then (bif Nat.blt M 116 then (bif Nat.blt M 114 then (bif Nat.blt M 113 then k_X6_sortC else k_X6_isGood) else (bif Nat.blt M 115 then k_X6_forget else k_X6_step)) else (bif Nat.blt M 118 then (bif Nat.blt M 117 then k_X6_clear else k_X6_isOf) else (bif Nat.blt M 119 then k_X6_kind else (bif Nat.blt M 120 then k_X6_isWrong else k_X6_newObject)))) else (bif Nat.blt M 126 then (bif Nat.blt M 123 then (bif Nat.blt M 122 then k_X6_newArray else k_X6_isCell) else (bif Nat.blt M 124 then k_X6_doStep else (bif Nat.blt M 125 then k_X6_tag else k_X6_store))) else (bif Nat.blt M 128 then (bif Nat.blt M 127 then k_X6_doOther else k_X6_copy) else (bif Nat.blt M 129 then k_X6_run else (bif Nat.blt M 130 then k_X6_ran else k_X6_variable))))) else (bif Nat.blt M 140 then (bif Nat.blt M 135 then (bif Nat.blt M 133 then (bif Nat.blt M 132 then k_X6_number else k_X6_seen) else (bif Nat.blt M 134 then k_X6_had else k_X6_bitsOf)) else (bif Nat.blt M 137 then (bif Nat.blt M 136 then k_X6_adds else k_X6_takes) else (bif Nat.blt M 138 then k_X6_comes else (bif Nat.blt M 139 then k_X6_copies else k_X6_goOn)))) else (bif Nat.blt M 145 then (bif Nat.blt M 142 then (bif Nat.blt M 141 then k_X6_faultsOf else k_X6_casts) else (bif Nat.blt M 143 then k_X6_copyFaults else (bif Nat.blt M 144 then k_X6_tell else k_X6_may))) else (bif Nat.blt M 147 then (bif Nat.blt M 146 then k_X6_faults else k_X6_cast) else (bif Nat.blt M 148 then k_X6_all else (bif Nat.blt M 149 then k_X6_mean else k_J7_fill_53178))))))))
def m_bd (M : Nat) : Nat := (bif Nat.blt M 75 then (bif Nat.blt M 37 then (bif Nat.blt M 18 then (bif Nat.blt M 9 then (bif Nat.blt M 4 then (bif Nat.blt M 2 then (bif Nat.blt M 1 then 6 else 5) else (bif Nat.blt M 3 then 15 else 68)) else (bif Nat.blt M 6 then (bif Nat.blt M 5 then 27 else 31) else (bif Nat.blt M 7 then 7 else (bif Nat.blt M 8 then 7 else 8)))) else (bif Nat.blt M 13 then (bif Nat.blt M 11 then (bif Nat.blt M 10 then 12 else 13) else (bif Nat.blt M 12 then 19 else 114)) else (bif Nat.blt M 15 then (bif Nat.blt M 14 then 6 else 14) else (bif Nat.blt M 16 then 79 else (bif Nat.blt M 17 then 81 else 112))))) else (bif Nat.blt M 27 then (bif Nat.blt M 22 then (bif Nat.blt M 20 then (bif Nat.blt M 19 then 81 else 345) else (bif Nat.blt M 21 then 275 else 10)) else (bif Nat.blt M 24 then (bif Nat.blt M 23 then 30 else 42) else (bif Nat.blt M 25 then 23 else (bif Nat.blt M 26 then 27 else 22)))) else (bif Nat.blt M 32 then (bif Nat.blt M 29 then (bif Nat.blt M 28 then 33 else 75) else (bif Nat.blt M 30 then 86 else (bif Nat.blt M 31 then 43 else 33))) else (bif Nat.blt M 34 then (bif Nat.blt M 33 then 28 else 19) else (bif Nat.blt M 35 then 100 else (bif Nat.blt M 36 then 29 else 33)))))) else (bif Nat.blt M 56 then (bif Nat.blt M 46 then (bif Nat.blt M 41 then (bif Nat.blt M 39 then (bif Nat.blt M 38 then 38 else 73) else (bif Nat.blt M 40 then 115 else 7)) else (bif Nat.blt M 43 then (bif Nat.blt M 42 then 6 else 124) else (bif Nat.blt M 44 then 12 else (bif Nat.blt M 45 then 18 else 82)))) else (bif Nat.blt M 51 then (bif Nat.blt M 48 then (bif Nat.blt M 47 then 7 else 17) else (bif Nat.blt M 49 then 78 else (bif Nat.blt M 50 then 27 else 112))) else (bif Nat.blt M 53 then (bif Nat.blt M 52 then 39 else 115) else (bif Nat.blt M 54 then 47 else (bif Nat.blt M 55 then 77 else 167))))) else (bif Nat.blt M 65 then (bif Nat.blt M 60 then (bif Nat.blt M 58 then (bif Nat.blt M 57 then 56 else 345) else (bif Nat.blt M 59 then 9 else 25)) else (bif Nat.blt M 62 then (bif Nat.blt M 61 then 25 else 42) else (bif Nat.blt M 63 then 42 else (bif Nat.blt M 64 then 42 else 37)))) else (bif Nat.blt M 70 then (bif Nat.blt M 67 then (bif Nat.blt M 66 then 34 else 272) else (bif Nat.blt M 68 then 18 else (bif Nat.blt M 69 then 16 else 30))) else (bif Nat.blt M 72 then (bif Nat.blt M 71 then 21 else 76) else (bif Nat.blt M 73 then 52 else (bif Nat.blt M 74 then 98 else 48))))))) else (bif Nat.blt M 112 then (bif Nat.blt M 93 then (bif Nat.blt M 84 then (bif Nat.blt M 79 then (bif Nat.blt M 77 then (bif Nat.blt M 76 then 68 else 137) else (bif Nat.blt M 78 then 61 else 6)) else (bif Nat.blt M 81 then (bif Nat.blt M 80 then 5 else 18) else (bif Nat.blt M 82 then 27 else (bif Nat.blt M 83 then 11 else 11)))) else (bif Nat.blt M 88 then (bif Nat.blt M 86 then (bif Nat.blt M 85 then 19 else 13) else (bif Nat.blt M 87 then 12 else 7)) else (bif Nat.blt M 90 then (bif Nat.blt M 89 then 5 else 5) else (bif Nat.blt M 91 then 60 else (bif Nat.blt M 92 then 38 else 10))))) else (bif Nat.blt M 102 then (bif Nat.blt M 97 then (bif Nat.blt M 95 then (bif Nat.blt M 94 then 25 else 46) else (bif Nat.blt M 96 then 33 else 32)) else (bif Nat.blt M 99 then (bif Nat.blt M 98 then 24 else 39) else (bif Nat.blt M 100 then 31 else (bif Nat.blt M 101 then 31 else 30)))) else (bif Nat.blt M 107 then (bif Nat.blt M 104 then (bif Nat.blt M 103 then 16 else 15) else (bif Nat.blt M 105 then 4 else (bif Nat.blt M 106 then 14 else 12))) else (bif Nat.blt M 109 then (bif Nat.blt M 108 then 12 else 5) else (bif Nat.blt M 110 then 19 else (bif Nat.blt M 111 then 56 else 117)))))) else (bif Nat.blt M 131 then (bif Nat.blt M 121 then (bif Nat.blt M 116 then (bif Nat.blt M 114 then (bif Nat.blt M 113 then 108 else 104) else (bif Nat.blt M 115 then 59 else 154)) else (bif Nat.blt M 118 then (bif Nat.blt M 117 then 26 else 188) else (bif Nat.blt M 119 then 25 else (bif Nat.blt M 120 then 33 else 47)))) else (bif Nat.blt M 126 then (bif Nat.blt M 123 then (bif Nat.blt M 122 then 69 else 16) else (bif Nat.blt M 124 then 566 else (bif Nat.blt M 125 then 51 else 112))) else (bif Nat.blt M 128 then (bif Nat.blt M 127 then 405 else 323) else (bif Nat.blt M 129 then 303 else (bif Nat.blt M 130 then 85 else 145))))) else (bif Nat.blt M 140 then (bif Nat.blt M 135 then (bif Nat.blt M 133 then (bif Nat.blt M 132 then 38 else 49) else (bif Nat.blt M 134 then 32 else 36)) else (bif Nat.blt M 137 then (bif Nat.blt M 136 then 33 else 32) else (bif Nat.blt M 138 then 145 else (bif Nat.blt M 139 then 94 else 821)))) else (bif Nat.blt M 145 then (bif Nat.blt M 142 then (bif Nat.blt M 141 then 438 else 29) else (bif Nat.blt M 143 then 222 else (bif Nat.blt M 144 then 194 else 51))) else (bif Nat.blt M 147 then (bif Nat.blt M 146 then 46 else 100) else (bif Nat.blt M 148 then 31 else (bif Nat.blt M 149 then 31 else 21))))))))
def m_y (M : Nat) : MethodName := (bif Nat.blt M 75 then (bif Nat.blt M 37 then (bif Nat.blt M 18 then (bif Nat.blt M 9 then (bif Nat.blt M 4 then (bif Nat.blt M 2 then (bif Nat.blt M 1 then yX0_empty else yX0_size) else (bif Nat.blt M 3 then yX0_isFull else yX0_make)) else (bif Nat.blt M 6 then (bif Nat.blt M 5 then yX0_firstCell else yX0_kindOf) else (bif Nat.blt M 7 then yX0_lengthOf else (bif Nat.blt M 8 then yX0_nextOf else yX0_setNext)))) else (bif Nat.blt M 13 then (bif Nat.blt M 11 then (bif Nat.blt M 10 then yX0_cell else yX0_setCell) else (bif Nat.blt M 12 then yX0_takes else yX0_move)) else (bif Nat.blt M 15 then (bif Nat.blt M 14 then yX1_forget else yX1_hasRun) else (bif Nat.blt M 16 then yX1_go else (bif Nat.blt M 17 then yX1_begin else yX1_takeStep))))) else (bif Nat.blt M 27 then (bif Nat.blt M 22 then (bif Nat.blt M 20 then (bif Nat.blt M 19 then yX1_meetFault else yX1_perform) else (bif Nat.blt M 21 then yX1_performSafely else yX1_jumpIf)) else (bif Nat.blt M 24 then (bif Nat.blt M 23 then yX1_makeThing else yX1_makeArray) else (bif Nat.blt M 25 then yX1_castInto else (bif Nat.blt M 26 then yX1_getNext else yX1_setNext)))) else (bif Nat.blt M 32 then (bif Nat.blt M 29 then (bif Nat.blt M 28 then yX1_getCell else yX1_setCell) else (bif Nat.blt M 30 then yX1_askFace else (bif Nat.blt M 31 then yX1_getLength else yX1_getInt))) else (bif Nat.blt M 34 then (bif Nat.blt M 33 then yX1_setInt else yX1_divide) else (bif Nat.blt M 35 then yX1_move else (bif Nat.blt M 36 then yX1_castFault else yX1_useFault)))))) else (bif Nat.blt M 56 then (bif Nat.blt M 46 then (bif Nat.blt M 41 then (bif Nat.blt M 39 then (bif Nat.blt M 38 then yX1_cellFault else yX1_report) else (bif Nat.blt M 40 then yX1_look else yX1_numberAt)) else (bif Nat.blt M 43 then (bif Nat.blt M 42 then yX2_forget else yX2_settle) else (bif Nat.blt M 44 then yX2_kindsAt else (bif Nat.blt M 45 then yX2_faultsAt else yX2_castAt)))) else (bif Nat.blt M 51 then (bif Nat.blt M 48 then (bif Nat.blt M 47 then yX2_allOf else yX2_isReached) else (bif Nat.blt M 49 then yX2_lookAt else (bif Nat.blt M 50 then yX2_begin else yX2_goTo))) else (bif Nat.blt M 53 then (bif Nat.blt M 52 then yX2_addToAll else yX2_store) else (bif Nat.blt M 54 then yX2_storeCell else (bif Nat.blt M 55 then yX2_storeMoved else yX2_goOn))))) else (bif Nat.blt M 65 then (bif Nat.blt M 60 then (bif Nat.blt M 58 then (bif Nat.blt M 57 then yX2_goBothWays else yX2_pass) else (bif Nat.blt M 59 then yX2_put else yX2_keep)) else (bif Nat.blt M 62 then (bif Nat.blt M 61 then yX2_keepBoth else yX2_cellsOf) else (bif Nat.blt M 63 then yX2_arraysThatTake else (bif Nat.blt M 64 then yX2_kindsTakenBy else yX2_movedTo)))) else (bif Nat.blt M 70 then (bif Nat.blt M 67 then (bif Nat.blt M 66 then yX2_movedFrom else yX2_faultsOf) else (bif Nat.blt M 68 then yX2_castFaults else (bif Nat.blt M 69 then yX2_useFaults else yX2_cellFaults))) else (bif Nat.blt M 72 then (bif Nat.blt M 71 then yX2_lengthFaults else yX2_setCellFaults) else (bif Nat.blt M 73 then yX2_moveFaults else (bif Nat.blt M 74 then yX2_moveFaultsOf else yX2_cellsIn))))))) else (bif Nat.blt M 112 then (bif Nat.blt M 93 then (bif Nat.blt M 84 then (bif Nat.blt M 79 then (bif Nat.blt M 77 then (bif Nat.blt M 76 then yX3_isInBounds else yX3_fits) else (bif Nat.blt M 78 then yX3_add else yX3_empty)) else (bif Nat.blt M 81 then (bif Nat.blt M 80 then yX3_size else yX3_has) else (bif Nat.blt M 82 then yX4_forget else (bif Nat.blt M 83 then yX4_noteRun else yX4_noteStep)))) else (bif Nat.blt M 88 then (bif Nat.blt M 86 then (bif Nat.blt M 85 then yX4_noteKind else yX4_noteFault) else (bif Nat.blt M 87 then yX4_kindsAt else yX4_faultsAt)) else (bif Nat.blt M 90 then (bif Nat.blt M 89 then yX4_stepsDone else yX4_runs) else (bif Nat.blt M 91 then yX5_step else (bif Nat.blt M 92 then yX5_clear else yX5_run))))) else (bif Nat.blt M 102 then (bif Nat.blt M 97 then (bif Nat.blt M 95 then (bif Nat.blt M 94 then yX5_ran else yX5_variable) else (bif Nat.blt M 96 then yX5_number else yX5_seen)) else (bif Nat.blt M 99 then (bif Nat.blt M 98 then yX5_had else yX5_may) else (bif Nat.blt M 100 then yX5_faults else (bif Nat.blt M 101 then yX5_cast else yX5_all)))) else (bif Nat.blt M 107 then (bif Nat.blt M 104 then (bif Nat.blt M 103 then yX5_isVariable else yX5_isNumber) else (bif Nat.blt M 105 then yX5_only else (bif Nat.blt M 106 then yX5_holds else yX5_share))) else (bif Nat.blt M 109 then (bif Nat.blt M 108 then yX5_faultIf else yX6_thrown) else (bif Nat.blt M 110 then yX6_in else (bif Nat.blt M 111 then yX6_sortA else yX6_sortB)))))) else (bif Nat.blt M 131 then (bif Nat.blt M 121 then (bif Nat.blt M 116 then (bif Nat.blt M 114 then (bif Nat.blt M 113 then yX6_sortC else yX6_isGood) else (bif Nat.blt M 115 then yX6_forget else yX6_step)) else (bif Nat.blt M 118 then (bif Nat.blt M 117 then yX6_clear else yX6_isOf) else (bif Nat.blt M 119 then yX6_kind else (bif Nat.blt M 120 then yX6_isWrong else yX6_newObject)))) else (bif Nat.blt M 126 then (bif Nat.blt M 123 then (bif Nat.blt M 122 then yX6_newArray else yX6_isCell) else (bif Nat.blt M 124 then yX6_doStep else (bif Nat.blt M 125 then yX6_tag else yX6_store))) else (bif Nat.blt M 128 then (bif Nat.blt M 127 then yX6_doOther else yX6_copy) else (bif Nat.blt M 129 then yX6_run else (bif Nat.blt M 130 then yX6_ran else yX6_variable))))) else (bif Nat.blt M 140 then (bif Nat.blt M 135 then (bif Nat.blt M 133 then (bif Nat.blt M 132 then yX6_number else yX6_seen) else (bif Nat.blt M 134 then yX6_had else yX6_bitsOf)) else (bif Nat.blt M 137 then (bif Nat.blt M 136 then yX6_adds else yX6_takes) else (bif Nat.blt M 138 then yX6_comes else (bif Nat.blt M 139 then yX6_copies else yX6_goOn)))) else (bif Nat.blt M 145 then (bif Nat.blt M 142 then (bif Nat.blt M 141 then yX6_faultsOf else yX6_casts) else (bif Nat.blt M 143 then yX6_copyFaults else (bif Nat.blt M 144 then yX6_tell else yX6_may))) else (bif Nat.blt M 147 then (bif Nat.blt M 146 then yX6_faults else yX6_cast) else (bif Nat.blt M 148 then yX6_all else (bif Nat.blt M 149 then yX6_mean else yJ7_fill_53178))))))))
def m_b (M : Nat) : ByteArray := (bif Nat.blt M 75 then (bif Nat.blt M 37 then (bif Nat.blt M 18 then (bif Nat.blt M 9 then (bif Nat.blt M 4 then (bif Nat.blt M 2 then (bif Nat.blt M 1 then cX0_empty else cX0_size) else (bif Nat.blt M 3 then cX0_isFull else cX0_make)) else (bif Nat.blt M 6 then (bif Nat.blt M 5 then cX0_firstCell else cX0_kindOf) else (bif Nat.blt M 7 then cX0_lengthOf else (bif Nat.blt M 8 then cX0_nextOf else cX0_setNext)))) else (bif Nat.blt M 13 then (bif Nat.blt M 11 then (bif Nat.blt M 10 then cX0_cell else cX0_setCell) else (bif Nat.blt M 12 then cX0_takes else cX0_move)) else (bif Nat.blt M 15 then (bif Nat.blt M 14 then cX1_forget else cX1_hasRun) else (bif Nat.blt M 16 then cX1_go else (bif Nat.blt M 17 then cX1_begin else cX1_takeStep))))) else (bif Nat.blt M 27 then (bif Nat.blt M 22 then (bif Nat.blt M 20 then (bif Nat.blt M 19 then cX1_meetFault else cX1_perform) else (bif Nat.blt M 21 then cX1_performSafely else cX1_jumpIf)) else (bif Nat.blt M 24 then (bif Nat.blt M 23 then cX1_makeThing else cX1_makeArray) else (bif Nat.blt M 25 then cX1_castInto else (bif Nat.blt M 26 then cX1_getNext else cX1_setNext)))) else (bif Nat.blt M 32 then (bif Nat.blt M 29 then (bif Nat.blt M 28 then cX1_getCell else cX1_setCell) else (bif Nat.blt M 30 then cX1_askFace else (bif Nat.blt M 31 then cX1_getLength else cX1_getInt))) else (bif Nat.blt M 34 then (bif Nat.blt M 33 then cX1_setInt else cX1_divide) else (bif Nat.blt M 35 then cX1_move else (bif Nat.blt M 36 then cX1_castFault else cX1_useFault)))))) else (bif Nat.blt M 56 then (bif Nat.blt M 46 then (bif Nat.blt M 41 then (bif Nat.blt M 39 then (bif Nat.blt M 38 then cX1_cellFault else cX1_report) else (bif Nat.blt M 40 then cX1_look else cX1_numberAt)) else (bif Nat.blt M 43 then (bif Nat.blt M 42 then cX2_forget else cX2_settle) else (bif Nat.blt M 44 then cX2_kindsAt else (bif Nat.blt M 45 then cX2_faultsAt else cX2_castAt)))) else (bif Nat.blt M 51 then (bif Nat.blt M 48 then (bif Nat.blt M 47 then cX2_allOf else cX2_isReached) else (bif Nat.blt M 49 then cX2_lookAt else (bif Nat.blt M 50 then cX2_begin else cX2_goTo))) else (bif Nat.blt M 53 then (bif Nat.blt M 52 then cX2_addToAll else cX2_store) else (bif Nat.blt M 54 then cX2_storeCell else (bif Nat.blt M 55 then cX2_storeMoved else cX2_goOn))))) else (bif Nat.blt M 65 then (bif Nat.blt M 60 then (bif Nat.blt M 58 then (bif Nat.blt M 57 then cX2_goBothWays else cX2_pass) else (bif Nat.blt M 59 then cX2_put else cX2_keep)) else (bif Nat.blt M 62 then (bif Nat.blt M 61 then cX2_keepBoth else cX2_cellsOf) else (bif Nat.blt M 63 then cX2_arraysThatTake else (bif Nat.blt M 64 then cX2_kindsTakenBy else cX2_movedTo)))) else (bif Nat.blt M 70 then (bif Nat.blt M 67 then (bif Nat.blt M 66 then cX2_movedFrom else cX2_faultsOf) else (bif Nat.blt M 68 then cX2_castFaults else (bif Nat.blt M 69 then cX2_useFaults else cX2_cellFaults))) else (bif Nat.blt M 72 then (bif Nat.blt M 71 then cX2_lengthFaults else cX2_setCellFaults) else (bif Nat.blt M 73 then cX2_moveFaults else (bif Nat.blt M 74 then cX2_moveFaultsOf else cX2_cellsIn))))))) else (bif Nat.blt M 112 then (bif Nat.blt M 93 then (bif Nat.blt M 84 then (bif Nat.blt M 79 then (bif Nat.blt M 77 then (bif Nat.blt M 76 then cX3_isInBounds else cX3_fits) else (bif Nat.blt M 78 then cX3_add else cX3_empty)) else (bif Nat.blt M 81 then (bif Nat.blt M 80 then cX3_size else cX3_has) else (bif Nat.blt M 82 then cX4_forget else (bif Nat.blt M 83 then cX4_noteRun else cX4_noteStep)))) else (bif Nat.blt M 88 then (bif Nat.blt M 86 then (bif Nat.blt M 85 then cX4_noteKind else cX4_noteFault) else (bif Nat.blt M 87 then cX4_kindsAt else cX4_faultsAt)) else (bif Nat.blt M 90 then (bif Nat.blt M 89 then cX4_stepsDone else cX4_runs) else (bif Nat.blt M 91 then cX5_step else (bif Nat.blt M 92 then cX5_clear else cX5_run))))) else (bif Nat.blt M 102 then (bif Nat.blt M 97 then (bif Nat.blt M 95 then (bif Nat.blt M 94 then cX5_ran else cX5_variable) else (bif Nat.blt M 96 then cX5_number else cX5_seen)) else (bif Nat.blt M 99 then (bif Nat.blt M 98 then cX5_had else cX5_may) else (bif Nat.blt M 100 then cX5_faults else (bif Nat.blt M 101 then cX5_cast else cX5_all)))) else (bif Nat.blt M 107 then (bif Nat.blt M 104 then (bif Nat.blt M 103 then cX5_isVariable else cX5_isNumber) else (bif Nat.blt M 105 then cX5_only else (bif Nat.blt M 106 then cX5_holds else cX5_share))) else (bif Nat.blt M 109 then (bif Nat.blt M 108 then cX5_faultIf else cX6_thrown) else (bif Nat.blt M 110 then cX6_in else (bif Nat.blt M 111 then cX6_sortA else cX6_sortB)))))) else (bif Nat.blt M 131 then (bif Nat.blt M 121 then (bif Nat.blt M 116 then (bif Nat.blt M 114 then (bif Nat.blt M 113 then cX6_sortC else cX6_isGood) else (bif Nat.blt M 115 then cX6_forget else cX6_step)) else (bif Nat.blt M 118 then (bif Nat.blt M 117 then cX6_clear else cX6_isOf) else (bif Nat.blt M 119 then cX6_kind else (bif Nat.blt M 120 then cX6_isWrong else cX6_newObject)))) else (bif Nat.blt M 126 then (bif Nat.blt M 123 then (bif Nat.blt M 122 then cX6_newArray else cX6_isCell) else (bif Nat.blt M 124 then cX6_doStep else (bif Nat.blt M 125 then cX6_tag else cX6_store))) else (bif Nat.blt M 128 then (bif Nat.blt M 127 then cX6_doOther else cX6_copy) else (bif Nat.blt M 129 then cX6_run else (bif Nat.blt M 130 then cX6_ran else cX6_variable))))) else (bif Nat.blt M 140 then (bif Nat.blt M 135 then (bif Nat.blt M 133 then (bif Nat.blt M 132 then cX6_number else cX6_seen) else (bif Nat.blt M 134 then cX6_had else cX6_bitsOf)) else (bif Nat.blt M 137 then (bif Nat.blt M 136 then cX6_adds else cX6_takes) else (bif Nat.blt M 138 then cX6_comes else (bif Nat.blt M 139 then cX6_copies else cX6_goOn)))) else (bif Nat.blt M 145 then (bif Nat.blt M 142 then (bif Nat.blt M 141 then cX6_faultsOf else cX6_casts) else (bif Nat.blt M 143 then cX6_copyFaults else (bif Nat.blt M 144 then cX6_tell else cX6_may))) else (bif Nat.blt M 147 then (bif Nat.blt M 146 then cX6_faults else cX6_cast) else (bif Nat.blt M 148 then cX6_all else (bif Nat.blt M 149 then cX6_mean else cJ7_fill_53178))))))))
def m_mx (M : Nat) : Nat := (bif Nat.blt M 75 then (bif Nat.blt M 37 then (bif Nat.blt M 18 then (bif Nat.blt M 9 then (bif Nat.blt M 4 then (bif Nat.blt M 2 then (bif Nat.blt M 1 then 1 else 1) else (bif Nat.blt M 3 then 1 else 6)) else (bif Nat.blt M 6 then (bif Nat.blt M 5 then 1 else 2) else (bif Nat.blt M 7 then 2 else (bif Nat.blt M 8 then 2 else 3)))) else (bif Nat.blt M 13 then (bif Nat.blt M 11 then (bif Nat.blt M 10 then 3 else 4) else (bif Nat.blt M 12 then 3 else 7)) else (bif Nat.blt M 15 then (bif Nat.blt M 14 then 1 else 1) else (bif Nat.blt M 16 then 4 else (bif Nat.blt M 17 then 3 else 3))))) else (bif Nat.blt M 27 then (bif Nat.blt M 22 then (bif Nat.blt M 20 then (bif Nat.blt M 19 then 4 else 5) else (bif Nat.blt M 21 then 5 else 3)) else (bif Nat.blt M 24 then (bif Nat.blt M 23 then 3 else 4) else (bif Nat.blt M 25 then 5 else (bif Nat.blt M 26 then 4 else 4)))) else (bif Nat.blt M 32 then (bif Nat.blt M 29 then (bif Nat.blt M 28 then 5 else 5) else (bif Nat.blt M 30 then 8 else (bif Nat.blt M 31 then 4 else 5))) else (bif Nat.blt M 34 then (bif Nat.blt M 33 then 5 else 3) else (bif Nat.blt M 35 then 7 else (bif Nat.blt M 36 then 4 else 4)))))) else (bif Nat.blt M 56 then (bif Nat.blt M 46 then (bif Nat.blt M 41 then (bif Nat.blt M 39 then (bif Nat.blt M 38 then 5 else 2) else (bif Nat.blt M 40 then 5 else 2)) else (bif Nat.blt M 43 then (bif Nat.blt M 42 then 1 else 3) else (bif Nat.blt M 44 then 3 else (bif Nat.blt M 45 then 2 else 4)))) else (bif Nat.blt M 51 then (bif Nat.blt M 48 then (bif Nat.blt M 47 then 2 else 2) else (bif Nat.blt M 49 then 2 else (bif Nat.blt M 50 then 3 else 5))) else (bif Nat.blt M 53 then (bif Nat.blt M 52 then 3 else 5) else (bif Nat.blt M 54 then 3 else (bif Nat.blt M 55 then 3 else 6))))) else (bif Nat.blt M 65 then (bif Nat.blt M 60 then (bif Nat.blt M 58 then (bif Nat.blt M 57 then 4 else 5) else (bif Nat.blt M 59 then 3 else 3)) else (bif Nat.blt M 62 then (bif Nat.blt M 61 then 5 else 2) else (bif Nat.blt M 63 then 1 else (bif Nat.blt M 64 then 1 else 3)))) else (bif Nat.blt M 70 then (bif Nat.blt M 67 then (bif Nat.blt M 66 then 3 else 4) else (bif Nat.blt M 68 then 2 else (bif Nat.blt M 69 then 2 else 2))) else (bif Nat.blt M 72 then (bif Nat.blt M 71 then 1 else 5) else (bif Nat.blt M 73 then 5 else (bif Nat.blt M 74 then 6 else 2))))))) else (bif Nat.blt M 112 then (bif Nat.blt M 93 then (bif Nat.blt M 84 then (bif Nat.blt M 79 then (bif Nat.blt M 77 then (bif Nat.blt M 76 then 5 else 2) else (bif Nat.blt M 78 then 7 else 1)) else (bif Nat.blt M 81 then (bif Nat.blt M 80 then 1 else 2) else (bif Nat.blt M 82 then 1 else (bif Nat.blt M 83 then 1 else 1)))) else (bif Nat.blt M 88 then (bif Nat.blt M 86 then (bif Nat.blt M 85 then 4 else 3) else (bif Nat.blt M 87 then 3 else 2)) else (bif Nat.blt M 90 then (bif Nat.blt M 89 then 1 else 1) else (bif Nat.blt M 91 then 6 else (bif Nat.blt M 92 then 2 else 3))))) else (bif Nat.blt M 102 then (bif Nat.blt M 97 then (bif Nat.blt M 95 then (bif Nat.blt M 94 then 2 else 3) else (bif Nat.blt M 96 then 2 else 3)) else (bif Nat.blt M 99 then (bif Nat.blt M 98 then 2 else 3) else (bif Nat.blt M 100 then 2 else (bif Nat.blt M 101 then 2 else 2)))) else (bif Nat.blt M 107 then (bif Nat.blt M 104 then (bif Nat.blt M 103 then 1 else 1) else (bif Nat.blt M 105 then 1 else (bif Nat.blt M 106 then 2 else 2))) else (bif Nat.blt M 109 then (bif Nat.blt M 108 then 2 else 1) else (bif Nat.blt M 110 then 6 else (bif Nat.blt M 111 then 1 else 1)))))) else (bif Nat.blt M 131 then (bif Nat.blt M 121 then (bif Nat.blt M 116 then (bif Nat.blt M 114 then (bif Nat.blt M 113 then 1 else 2) else (bif Nat.blt M 115 then 2 else 6)) else (bif Nat.blt M 118 then (bif Nat.blt M 117 then 2 else 2) else (bif Nat.blt M 119 then 2 else (bif Nat.blt M 120 then 3 else 2)))) else (bif Nat.blt M 126 then (bif Nat.blt M 123 then (bif Nat.blt M 122 then 5 else 3) else (bif Nat.blt M 124 then 5 else (bif Nat.blt M 125 then 4 else 4))) else (bif Nat.blt M 128 then (bif Nat.blt M 127 then 5 else 9) else (bif Nat.blt M 129 then 8 else (bif Nat.blt M 130 then 2 else 5))))) else (bif Nat.blt M 140 then (bif Nat.blt M 135 then (bif Nat.blt M 133 then (bif Nat.blt M 132 then 2 else 3) else (bif Nat.blt M 134 then 2 else 3)) else (bif Nat.blt M 137 then (bif Nat.blt M 136 then 3 else 3) else (bif Nat.blt M 138 then 4 else (bif Nat.blt M 139 then 6 else 9)))) else (bif Nat.blt M 145 then (bif Nat.blt M 142 then (bif Nat.blt M 141 then 7 else 2) else (bif Nat.blt M 143 then 8 else (bif Nat.blt M 144 then 2 else 3))) else (bif Nat.blt M 147 then (bif Nat.blt M 146 then 2 else 4) else (bif Nat.blt M 148 then 2 else (bif Nat.blt M 149 then 1 else 4))))))))
def m_rt (M : Nat) : Option FieldType := (bif Nat.blt M 75 then (bif Nat.blt M 37 then (bif Nat.blt M 18 then (bif Nat.blt M 9 then (bif Nat.blt M 4 then (bif Nat.blt M 2 then (bif Nat.blt M 1 then none else (some .int)) else (bif Nat.blt M 3 then (some .boolean) else (some .int))) else (bif Nat.blt M 6 then (bif Nat.blt M 5 then (some .int) else (some .int)) else (bif Nat.blt M 7 then (some .int) else (bif Nat.blt M 8 then (some .int) else none)))) else (bif Nat.blt M 13 then (bif Nat.blt M 11 then (bif Nat.blt M 10 then (some .int) else none) else (bif Nat.blt M 12 then (some .boolean) else (some .int))) else (bif Nat.blt M 15 then (bif Nat.blt M 14 then none else (some .boolean)) else (bif Nat.blt M 16 then (some .int) else (bif Nat.blt M 17 then none else none))))) else (bif Nat.blt M 27 then (bif Nat.blt M 22 then (bif Nat.blt M 20 then (bif Nat.blt M 19 then none else (some .int)) else (bif Nat.blt M 21 then none else none)) else (bif Nat.blt M 24 then (bif Nat.blt M 23 then (some .int) else (some .int)) else (bif Nat.blt M 25 then (some .int) else (bif Nat.blt M 26 then (some .int) else (some .int))))) else (bif Nat.blt M 32 then (bif Nat.blt M 29 then (bif Nat.blt M 28 then (some .int) else (some .int)) else (bif Nat.blt M 30 then (some .int) else (bif Nat.blt M 31 then (some .int) else (some .int)))) else (bif Nat.blt M 34 then (bif Nat.blt M 33 then (some .int) else (some .int)) else (bif Nat.blt M 35 then (some .int) else (bif Nat.blt M 36 then (some .int) else (some .int))))))) else (bif Nat.blt M 56 then (bif Nat.blt M 46 then (bif Nat.blt M 41 then (bif Nat.blt M 39 then (bif Nat.blt M 38 then (some .int) else (some .long)) else (bif Nat.blt M 40 then (some .int) else (some .int))) else (bif Nat.blt M 43 then (bif Nat.blt M 42 then none else none) else (bif Nat.blt M 44 then (some .int) else (bif Nat.blt M 45 then (some .int) else (some .int))))) else (bif Nat.blt M 51 then (bif Nat.blt M 48 then (bif Nat.blt M 47 then (some .int) else (some .boolean)) else (bif Nat.blt M 49 then none else (bif Nat.blt M 50 then none else none))) else (bif Nat.blt M 53 then (bif Nat.blt M 52 then none else none) else (bif Nat.blt M 54 then none else (bif Nat.blt M 55 then none else none))))) else (bif Nat.blt M 65 then (bif Nat.blt M 60 then (bif Nat.blt M 58 then (bif Nat.blt M 57 then none else (some .boolean)) else (bif Nat.blt M 59 then (some .boolean) else (some .boolean))) else (bif Nat.blt M 62 then (bif Nat.blt M 61 then (some .boolean) else (some .int)) else (bif Nat.blt M 63 then (some .int) else (bif Nat.blt M 64 then (some .int) else (some .int))))) else (bif Nat.blt M 70 then (bif Nat.blt M 67 then (bif Nat.blt M 66 then (some .int) else (some .int)) else (bif Nat.blt M 68 then (some .int) else (bif Nat.blt M 69 then (some .int) else (some .int)))) else (bif Nat.blt M 72 then (bif Nat.blt M 71 then (some .int) else (some .int)) else (bif Nat.blt M 73 then (some .int) else (bif Nat.blt M 74 then (some .int) else (some .int)))))))) else (bif Nat.blt M 112 then (bif Nat.blt M 93 then (bif Nat.blt M 84 then (bif Nat.blt M 79 then (bif Nat.blt M 77 then (bif Nat.blt M 76 then (some .boolean) else (some .boolean)) else (bif Nat.blt M 78 then (some .int) else none)) else (bif Nat.blt M 81 then (bif Nat.blt M 80 then (some .int) else (some .boolean)) else (bif Nat.blt M 82 then none else (bif Nat.blt M 83 then none else none)))) else (bif Nat.blt M 88 then (bif Nat.blt M 86 then (bif Nat.blt M 85 then none else none) else (bif Nat.blt M 87 then (some .int) else (some .int))) else (bif Nat.blt M 90 then (bif Nat.blt M 89 then (some .int) else (some .int)) else (bif Nat.blt M 91 then (some .int) else (bif Nat.blt M 92 then (some .int) else (some .int)))))) else (bif Nat.blt M 102 then (bif Nat.blt M 97 then (bif Nat.blt M 95 then (bif Nat.blt M 94 then (some .long) else (some .int)) else (bif Nat.blt M 96 then (some .long) else (some .int))) else (bif Nat.blt M 99 then (bif Nat.blt M 98 then (some .int) else (some .int)) else (bif Nat.blt M 100 then (some .int) else (bif Nat.blt M 101 then (some .int) else (some .int))))) else (bif Nat.blt M 107 then (bif Nat.blt M 104 then (bif Nat.blt M 103 then (some .boolean) else (some .boolean)) else (bif Nat.blt M 105 then (some .int) else (bif Nat.blt M 106 then (some .boolean) else (some .boolean)))) else (bif Nat.blt M 109 then (bif Nat.blt M 108 then (some .int) else (some .int)) else (bif Nat.blt M 110 then (some .boolean) else (bif Nat.blt M 111 then (some .int) else (some .int))))))) else (bif Nat.blt M 131 then (bif Nat.blt M 121 then (bif Nat.blt M 116 then (bif Nat.blt M 114 then (bif Nat.blt M 113 then (some .int) else (some .boolean)) else (bif Nat.blt M 115 then none else (some .int))) else (bif Nat.blt M 118 then (bif Nat.blt M 117 then (some .int) else (some .boolean)) else (bif Nat.blt M 119 then (some .int) else (bif Nat.blt M 120 then (some .boolean) else (some .int))))) else (bif Nat.blt M 126 then (bif Nat.blt M 123 then (bif Nat.blt M 122 then (some .int) else (some .boolean)) else (bif Nat.blt M 124 then (some .int) else (bif Nat.blt M 125 then (some .int) else (some .int)))) else (bif Nat.blt M 128 then (bif Nat.blt M 127 then (some .int) else (some .int)) else (bif Nat.blt M 129 then (some .int) else (bif Nat.blt M 130 then (some .long) else (some .int)))))) else (bif Nat.blt M 140 then (bif Nat.blt M 135 then (bif Nat.blt M 133 then (bif Nat.blt M 132 then (some .long) else (some .int)) else (bif Nat.blt M 134 then (some .int) else (some .int))) else (bif Nat.blt M 137 then (bif Nat.blt M 136 then none else none) else (bif Nat.blt M 138 then none else (bif Nat.blt M 139 then (some .int) else none)))) else (bif Nat.blt M 145 then (bif Nat.blt M 142 then (bif Nat.blt M 141 then (some .int) else (some .int)) else (bif Nat.blt M 143 then (some .int) else (bif Nat.blt M 144 then none else (some .int)))) else (bif Nat.blt M 147 then (bif Nat.blt M 146 then (some .int) else (some .int)) else (bif Nat.blt M 148 then (some .int) else (bif Nat.blt M 149 then (some .int) else none))))))))
def m_ow (M : Nat) : Nat := (bif Nat.blt M 75 then (bif Nat.blt M 37 then (bif Nat.blt M 18 then (bif Nat.blt M 9 then (bif Nat.blt M 4 then (bif Nat.blt M 2 then (bif Nat.blt M 1 then 0 else 0) else (bif Nat.blt M 3 then 0 else 0)) else (bif Nat.blt M 6 then (bif Nat.blt M 5 then 0 else 0) else (bif Nat.blt M 7 then 0 else (bif Nat.blt M 8 then 0 else 0)))) else (bif Nat.blt M 13 then (bif Nat.blt M 11 then (bif Nat.blt M 10 then 0 else 0) else (bif Nat.blt M 12 then 0 else 0)) else (bif Nat.blt M 15 then (bif Nat.blt M 14 then 1 else 1) else (bif Nat.blt M 16 then 1 else (bif Nat.blt M 17 then 1 else 1))))) else (bif Nat.blt M 27 then (bif Nat.blt M 22 then (bif Nat.blt M 20 then (bif Nat.blt M 19 then 1 else 1) else (bif Nat.blt M 21 then 1 else 1)) else (bif Nat.blt M 24 then (bif Nat.blt M 23 then 1 else 1) else (bif Nat.blt M 25 then 1 else (bif Nat.blt M 26 then 1 else 1)))) else (bif Nat.blt M 32 then (bif Nat.blt M 29 then (bif Nat.blt M 28 then 1 else 1) else (bif Nat.blt M 30 then 1 else (bif Nat.blt M 31 then 1 else 1))) else (bif Nat.blt M 34 then (bif Nat.blt M 33 then 1 else 1) else (bif Nat.blt M 35 then 1 else (bif Nat.blt M 36 then 1 else 1)))))) else (bif Nat.blt M 56 then (bif Nat.blt M 46 then (bif Nat.blt M 41 then (bif Nat.blt M 39 then (bif Nat.blt M 38 then 1 else 1) else (bif Nat.blt M 40 then 1 else 1)) else (bif Nat.blt M 43 then (bif Nat.blt M 42 then 2 else 2) else (bif Nat.blt M 44 then 2 else (bif Nat.blt M 45 then 2 else 2)))) else (bif Nat.blt M 51 then (bif Nat.blt M 48 then (bif Nat.blt M 47 then 2 else 2) else (bif Nat.blt M 49 then 2 else (bif Nat.blt M 50 then 2 else 2))) else (bif Nat.blt M 53 then (bif Nat.blt M 52 then 2 else 2) else (bif Nat.blt M 54 then 2 else (bif Nat.blt M 55 then 2 else 2))))) else (bif Nat.blt M 65 then (bif Nat.blt M 60 then (bif Nat.blt M 58 then (bif Nat.blt M 57 then 2 else 2) else (bif Nat.blt M 59 then 2 else 2)) else (bif Nat.blt M 62 then (bif Nat.blt M 61 then 2 else 2) else (bif Nat.blt M 63 then 2 else (bif Nat.blt M 64 then 2 else 2)))) else (bif Nat.blt M 70 then (bif Nat.blt M 67 then (bif Nat.blt M 66 then 2 else 2) else (bif Nat.blt M 68 then 2 else (bif Nat.blt M 69 then 2 else 2))) else (bif Nat.blt M 72 then (bif Nat.blt M 71 then 2 else 2) else (bif Nat.blt M 73 then 2 else (bif Nat.blt M 74 then 2 else 2))))))) else (bif Nat.blt M 112 then (bif Nat.blt M 93 then (bif Nat.blt M 84 then (bif Nat.blt M 79 then (bif Nat.blt M 77 then (bif Nat.blt M 76 then 3 else 3) else (bif Nat.blt M 78 then 3 else 3)) else (bif Nat.blt M 81 then (bif Nat.blt M 80 then 3 else 3) else (bif Nat.blt M 82 then 4 else (bif Nat.blt M 83 then 4 else 4)))) else (bif Nat.blt M 88 then (bif Nat.blt M 86 then (bif Nat.blt M 85 then 4 else 4) else (bif Nat.blt M 87 then 4 else 4)) else (bif Nat.blt M 90 then (bif Nat.blt M 89 then 4 else 4) else (bif Nat.blt M 91 then 5 else (bif Nat.blt M 92 then 5 else 5))))) else (bif Nat.blt M 102 then (bif Nat.blt M 97 then (bif Nat.blt M 95 then (bif Nat.blt M 94 then 5 else 5) else (bif Nat.blt M 96 then 5 else 5)) else (bif Nat.blt M 99 then (bif Nat.blt M 98 then 5 else 5) else (bif Nat.blt M 100 then 5 else (bif Nat.blt M 101 then 5 else 5)))) else (bif Nat.blt M 107 then (bif Nat.blt M 104 then (bif Nat.blt M 103 then 5 else 5) else (bif Nat.blt M 105 then 5 else (bif Nat.blt M 106 then 5 else 5))) else (bif Nat.blt M 109 then (bif Nat.blt M 108 then 5 else 6) else (bif Nat.blt M 110 then 6 else (bif Nat.blt M 111 then 6 else 6)))))) else (bif Nat.blt M 131 then (bif Nat.blt M 121 then (bif Nat.blt M 116 then (bif Nat.blt M 114 then (bif Nat.blt M 113 then 6 else 6) else (bif Nat.blt M 115 then 6 else 6)) else (bif Nat.blt M 118 then (bif Nat.blt M 117 then 6 else 6) else (bif Nat.blt M 119 then 6 else (bif Nat.blt M 120 then 6 else 6)))) else (bif Nat.blt M 126 then (bif Nat.blt M 123 then (bif Nat.blt M 122 then 6 else 6) else (bif Nat.blt M 124 then 6 else (bif Nat.blt M 125 then 6 else 6))) else (bif Nat.blt M 128 then (bif Nat.blt M 127 then 6 else 6) else (bif Nat.blt M 129 then 6 else (bif Nat.blt M 130 then 6 else 6))))) else (bif Nat.blt M 140 then (bif Nat.blt M 135 then (bif Nat.blt M 133 then (bif Nat.blt M 132 then 6 else 6) else (bif Nat.blt M 134 then 6 else 6)) else (bif Nat.blt M 137 then (bif Nat.blt M 136 then 6 else 6) else (bif Nat.blt M 138 then 6 else (bif Nat.blt M 139 then 6 else 6)))) else (bif Nat.blt M 145 then (bif Nat.blt M 142 then (bif Nat.blt M 141 then 6 else 6) else (bif Nat.blt M 143 then 6 else (bif Nat.blt M 144 then 6 else 6))) else (bif Nat.blt M 147 then (bif Nat.blt M 146 then 6 else 6) else (bif Nat.blt M 148 then 6 else (bif Nat.blt M 149 then 6 else 7))))))))
def m_np (M : Nat) : Nat := (bif Nat.blt M 75 then (bif Nat.blt M 37 then (bif Nat.blt M 18 then (bif Nat.blt M 9 then (bif Nat.blt M 4 then (bif Nat.blt M 2 then (bif Nat.blt M 1 then 0 else 0) else (bif Nat.blt M 3 then 0 else 2)) else (bif Nat.blt M 6 then (bif Nat.blt M 5 then 1 else 1) else (bif Nat.blt M 7 then 1 else (bif Nat.blt M 8 then 1 else 2)))) else (bif Nat.blt M 13 then (bif Nat.blt M 11 then (bif Nat.blt M 10 then 2 else 3) else (bif Nat.blt M 12 then 2 else 4)) else (bif Nat.blt M 15 then (bif Nat.blt M 14 then 0 else 0) else (bif Nat.blt M 16 then 2 else (bif Nat.blt M 17 then 2 else 1))))) else (bif Nat.blt M 27 then (bif Nat.blt M 22 then (bif Nat.blt M 20 then (bif Nat.blt M 19 then 2 else 4) else (bif Nat.blt M 21 then 4 else 2)) else (bif Nat.blt M 24 then (bif Nat.blt M 23 then 2 else 3) else (bif Nat.blt M 25 then 3 else (bif Nat.blt M 26 then 2 else 2)))) else (bif Nat.blt M 32 then (bif Nat.blt M 29 then (bif Nat.blt M 28 then 3 else 3) else (bif Nat.blt M 30 then 3 else (bif Nat.blt M 31 then 2 else 3))) else (bif Nat.blt M 34 then (bif Nat.blt M 33 then 3 else 2) else (bif Nat.blt M 35 then 4 else (bif Nat.blt M 36 then 2 else 2)))))) else (bif Nat.blt M 56 then (bif Nat.blt M 46 then (bif Nat.blt M 41 then (bif Nat.blt M 39 then (bif Nat.blt M 38 then 3 else 1) else (bif Nat.blt M 40 then 2 else 1)) else (bif Nat.blt M 43 then (bif Nat.blt M 42 then 0 else 0) else (bif Nat.blt M 44 then 2 else (bif Nat.blt M 45 then 1 else 1)))) else (bif Nat.blt M 51 then (bif Nat.blt M 48 then (bif Nat.blt M 47 then 1 else 1) else (bif Nat.blt M 49 then 1 else (bif Nat.blt M 50 then 1 else 1))) else (bif Nat.blt M 53 then (bif Nat.blt M 52 then 2 else 1) else (bif Nat.blt M 54 then 2 else (bif Nat.blt M 55 then 2 else 5))))) else (bif Nat.blt M 65 then (bif Nat.blt M 60 then (bif Nat.blt M 58 then (bif Nat.blt M 57 then 2 else 4) else (bif Nat.blt M 59 then 2 else 2)) else (bif Nat.blt M 62 then (bif Nat.blt M 61 then 4 else 1) else (bif Nat.blt M 63 then 1 else (bif Nat.blt M 64 then 1 else 1)))) else (bif Nat.blt M 70 then (bif Nat.blt M 67 then (bif Nat.blt M 66 then 1 else 1) else (bif Nat.blt M 68 then 2 else (bif Nat.blt M 69 then 2 else 2))) else (bif Nat.blt M 72 then (bif Nat.blt M 71 then 1 else 2) else (bif Nat.blt M 73 then 2 else (bif Nat.blt M 74 then 2 else 1))))))) else (bif Nat.blt M 112 then (bif Nat.blt M 93 then (bif Nat.blt M 84 then (bif Nat.blt M 79 then (bif Nat.blt M 77 then (bif Nat.blt M 76 then 5 else 2) else (bif Nat.blt M 78 then 5 else 0)) else (bif Nat.blt M 81 then (bif Nat.blt M 80 then 0 else 1) else (bif Nat.blt M 82 then 0 else (bif Nat.blt M 83 then 0 else 0)))) else (bif Nat.blt M 88 then (bif Nat.blt M 86 then (bif Nat.blt M 85 then 3 else 2) else (bif Nat.blt M 87 then 2 else 1)) else (bif Nat.blt M 90 then (bif Nat.blt M 89 then 0 else 0) else (bif Nat.blt M 91 then 5 else (bif Nat.blt M 92 then 0 else 2))))) else (bif Nat.blt M 102 then (bif Nat.blt M 97 then (bif Nat.blt M 95 then (bif Nat.blt M 94 then 1 else 2) else (bif Nat.blt M 96 then 1 else 2)) else (bif Nat.blt M 99 then (bif Nat.blt M 98 then 1 else 2) else (bif Nat.blt M 100 then 1 else (bif Nat.blt M 101 then 1 else 1)))) else (bif Nat.blt M 107 then (bif Nat.blt M 104 then (bif Nat.blt M 103 then 1 else 1) else (bif Nat.blt M 105 then 1 else (bif Nat.blt M 106 then 2 else 2))) else (bif Nat.blt M 109 then (bif Nat.blt M 108 then 2 else 0) else (bif Nat.blt M 110 then 3 else (bif Nat.blt M 111 then 1 else 1)))))) else (bif Nat.blt M 131 then (bif Nat.blt M 121 then (bif Nat.blt M 116 then (bif Nat.blt M 114 then (bif Nat.blt M 113 then 1 else 2) else (bif Nat.blt M 115 then 0 else 5)) else (bif Nat.blt M 118 then (bif Nat.blt M 117 then 0 else 2) else (bif Nat.blt M 119 then 1 else (bif Nat.blt M 120 then 2 else 1)))) else (bif Nat.blt M 126 then (bif Nat.blt M 123 then (bif Nat.blt M 122 then 2 else 2) else (bif Nat.blt M 124 then 1 else (bif Nat.blt M 125 then 2 else 3))) else (bif Nat.blt M 128 then (bif Nat.blt M 127 then 4 else 3) else (bif Nat.blt M 129 then 2 else (bif Nat.blt M 130 then 1 else 2))))) else (bif Nat.blt M 140 then (bif Nat.blt M 135 then (bif Nat.blt M 133 then (bif Nat.blt M 132 then 1 else 2) else (bif Nat.blt M 134 then 1 else 1)) else (bif Nat.blt M 137 then (bif Nat.blt M 136 then 2 else 1) else (bif Nat.blt M 138 then 1 else (bif Nat.blt M 139 then 2 else 1)))) else (bif Nat.blt M 145 then (bif Nat.blt M 142 then (bif Nat.blt M 141 then 1 else 2) else (bif Nat.blt M 143 then 2 else (bif Nat.blt M 144 then 0 else 2))) else (bif Nat.blt M 147 then (bif Nat.blt M 146 then 1 else 1) else (bif Nat.blt M 148 then 1 else (bif Nat.blt M 149 then 0 else 2))))))))
def m_is (M : Nat) : Bool := (bif Nat.blt M 75 then (bif Nat.blt M 37 then (bif Nat.blt M 18 then (bif Nat.blt M 9 then (bif Nat.blt M 4 then (bif Nat.blt M 2 then (bif Nat.blt M 1 then false else false) else (bif Nat.blt M 3 then false else false)) else (bif Nat.blt M 6 then (bif Nat.blt M 5 then true else false) else (bif Nat.blt M 7 then false else (bif Nat.blt M 8 then false else false)))) else (bif Nat.blt M 13 then (bif Nat.blt M 11 then (bif Nat.blt M 10 then false else false) else (bif Nat.blt M 12 then false else false)) else (bif Nat.blt M 15 then (bif Nat.blt M 14 then false else false) else (bif Nat.blt M 16 then false else (bif Nat.blt M 17 then false else false))))) else (bif Nat.blt M 27 then (bif Nat.blt M 22 then (bif Nat.blt M 20 then (bif Nat.blt M 19 then false else false) else (bif Nat.blt M 21 then false else false)) else (bif Nat.blt M 24 then (bif Nat.blt M 23 then false else false) else (bif Nat.blt M 25 then false else (bif Nat.blt M 26 then false else false)))) else (bif Nat.blt M 32 then (bif Nat.blt M 29 then (bif Nat.blt M 28 then false else false) else (bif Nat.blt M 30 then false else (bif Nat.blt M 31 then false else false))) else (bif Nat.blt M 34 then (bif Nat.blt M 33 then false else false) else (bif Nat.blt M 35 then false else (bif Nat.blt M 36 then false else false)))))) else (bif Nat.blt M 56 then (bif Nat.blt M 46 then (bif Nat.blt M 41 then (bif Nat.blt M 39 then (bif Nat.blt M 38 then false else false) else (bif Nat.blt M 40 then false else false)) else (bif Nat.blt M 43 then (bif Nat.blt M 42 then false else false) else (bif Nat.blt M 44 then false else (bif Nat.blt M 45 then false else false)))) else (bif Nat.blt M 51 then (bif Nat.blt M 48 then (bif Nat.blt M 47 then false else false) else (bif Nat.blt M 49 then false else (bif Nat.blt M 50 then false else false))) else (bif Nat.blt M 53 then (bif Nat.blt M 52 then false else false) else (bif Nat.blt M 54 then false else (bif Nat.blt M 55 then false else false))))) else (bif Nat.blt M 65 then (bif Nat.blt M 60 then (bif Nat.blt M 58 then (bif Nat.blt M 57 then false else false) else (bif Nat.blt M 59 then false else false)) else (bif Nat.blt M 62 then (bif Nat.blt M 61 then false else false) else (bif Nat.blt M 63 then true else (bif Nat.blt M 64 then true else true)))) else (bif Nat.blt M 70 then (bif Nat.blt M 67 then (bif Nat.blt M 66 then true else false) else (bif Nat.blt M 68 then true else (bif Nat.blt M 69 then true else true))) else (bif Nat.blt M 72 then (bif Nat.blt M 71 then true else true) else (bif Nat.blt M 73 then false else (bif Nat.blt M 74 then false else false))))))) else (bif Nat.blt M 112 then (bif Nat.blt M 93 then (bif Nat.blt M 84 then (bif Nat.blt M 79 then (bif Nat.blt M 77 then (bif Nat.blt M 76 then true else true) else (bif Nat.blt M 78 then false else false)) else (bif Nat.blt M 81 then (bif Nat.blt M 80 then false else false) else (bif Nat.blt M 82 then false else (bif Nat.blt M 83 then false else false)))) else (bif Nat.blt M 88 then (bif Nat.blt M 86 then (bif Nat.blt M 85 then false else false) else (bif Nat.blt M 87 then false else false)) else (bif Nat.blt M 90 then (bif Nat.blt M 89 then false else false) else (bif Nat.blt M 91 then false else (bif Nat.blt M 92 then false else false))))) else (bif Nat.blt M 102 then (bif Nat.blt M 97 then (bif Nat.blt M 95 then (bif Nat.blt M 94 then false else false) else (bif Nat.blt M 96 then false else false)) else (bif Nat.blt M 99 then (bif Nat.blt M 98 then false else false) else (bif Nat.blt M 100 then false else (bif Nat.blt M 101 then false else false)))) else (bif Nat.blt M 107 then (bif Nat.blt M 104 then (bif Nat.blt M 103 then true else true) else (bif Nat.blt M 105 then true else (bif Nat.blt M 106 then true else true))) else (bif Nat.blt M 109 then (bif Nat.blt M 108 then true else false) else (bif Nat.blt M 110 then true else (bif Nat.blt M 111 then true else true)))))) else (bif Nat.blt M 131 then (bif Nat.blt M 121 then (bif Nat.blt M 116 then (bif Nat.blt M 114 then (bif Nat.blt M 113 then true else true) else (bif Nat.blt M 115 then false else false)) else (bif Nat.blt M 118 then (bif Nat.blt M 117 then false else true) else (bif Nat.blt M 119 then false else (bif Nat.blt M 120 then false else false)))) else (bif Nat.blt M 126 then (bif Nat.blt M 123 then (bif Nat.blt M 122 then false else false) else (bif Nat.blt M 124 then false else (bif Nat.blt M 125 then false else false))) else (bif Nat.blt M 128 then (bif Nat.blt M 127 then false else false) else (bif Nat.blt M 129 then false else (bif Nat.blt M 130 then false else false))))) else (bif Nat.blt M 140 then (bif Nat.blt M 135 then (bif Nat.blt M 133 then (bif Nat.blt M 132 then false else false) else (bif Nat.blt M 134 then false else true)) else (bif Nat.blt M 137 then (bif Nat.blt M 136 then false else false) else (bif Nat.blt M 138 then false else (bif Nat.blt M 139 then true else false)))) else (bif Nat.blt M 145 then (bif Nat.blt M 142 then (bif Nat.blt M 141 then false else true) else (bif Nat.blt M 143 then false else (bif Nat.blt M 144 then false else false))) else (bif Nat.blt M 147 then (bif Nat.blt M 146 then false else false) else (bif Nat.blt M 148 then false else (bif Nat.blt M 149 then false else true))))))))
def m_NM : Nat := 150
/-- the code of method M at pc -/
def m_code (M pc : Nat) : Option mE := bif Nat.blt pc (m_bd M) then m_tr M pc else none
abbrev n_X0_empty : Nat := 0
abbrev n_X0_size : Nat := 1
abbrev n_X0_isFull : Nat := 2
abbrev n_X0_make : Nat := 3
abbrev n_X0_firstCell : Nat := 4
abbrev n_X0_kindOf : Nat := 5
abbrev n_X0_lengthOf : Nat := 6
abbrev n_X0_nextOf : Nat := 7
abbrev n_X0_setNext : Nat := 8
abbrev n_X0_cell : Nat := 9
abbrev n_X0_setCell : Nat := 10
abbrev n_X0_takes : Nat := 11
abbrev n_X0_move : Nat := 12
abbrev n_X1_forget : Nat := 13
abbrev n_X1_hasRun : Nat := 14
abbrev n_X1_go : Nat := 15
abbrev n_X1_begin : Nat := 16
abbrev n_X1_takeStep : Nat := 17
abbrev n_X1_meetFault : Nat := 18
abbrev n_X1_perform : Nat := 19
abbrev n_X1_performSafely : Nat := 20
abbrev n_X1_jumpIf : Nat := 21
abbrev n_X1_makeThing : Nat := 22
abbrev n_X1_makeArray : Nat := 23
abbrev n_X1_castInto : Nat := 24
abbrev n_X1_getNext : Nat := 25
abbrev n_X1_setNext : Nat := 26
abbrev n_X1_getCell : Nat := 27
abbrev n_X1_setCell : Nat := 28
abbrev n_X1_askFace : Nat := 29
abbrev n_X1_getLength : Nat := 30
abbrev n_X1_getInt : Nat := 31
abbrev n_X1_setInt : Nat := 32
abbrev n_X1_divide : Nat := 33
abbrev n_X1_move : Nat := 34
abbrev n_X1_castFault : Nat := 35
abbrev n_X1_useFault : Nat := 36
abbrev n_X1_cellFault : Nat := 37
abbrev n_X1_report : Nat := 38
abbrev n_X1_look : Nat := 39
abbrev n_X1_numberAt : Nat := 40
abbrev n_X2_forget : Nat := 41
abbrev n_X2_settle : Nat := 42
abbrev n_X2_kindsAt : Nat := 43
abbrev n_X2_faultsAt : Nat := 44
abbrev n_X2_castAt : Nat := 45
abbrev n_X2_allOf : Nat := 46
abbrev n_X2_isReached : Nat := 47
abbrev n_X2_lookAt : Nat := 48
abbrev n_X2_begin : Nat := 49
abbrev n_X2_goTo : Nat := 50
abbrev n_X2_addToAll : Nat := 51
abbrev n_X2_store : Nat := 52
abbrev n_X2_storeCell : Nat := 53
abbrev n_X2_storeMoved : Nat := 54
abbrev n_X2_goOn : Nat := 55
abbrev n_X2_goBothWays : Nat := 56
abbrev n_X2_pass : Nat := 57
abbrev n_X2_put : Nat := 58
abbrev n_X2_keep : Nat := 59
abbrev n_X2_keepBoth : Nat := 60
abbrev n_X2_cellsOf : Nat := 61
abbrev n_X2_arraysThatTake : Nat := 62
abbrev n_X2_kindsTakenBy : Nat := 63
abbrev n_X2_movedTo : Nat := 64
abbrev n_X2_movedFrom : Nat := 65
abbrev n_X2_faultsOf : Nat := 66
abbrev n_X2_castFaults : Nat := 67
abbrev n_X2_useFaults : Nat := 68
abbrev n_X2_cellFaults : Nat := 69
abbrev n_X2_lengthFaults : Nat := 70
abbrev n_X2_setCellFaults : Nat := 71
abbrev n_X2_moveFaults : Nat := 72
abbrev n_X2_moveFaultsOf : Nat := 73
abbrev n_X2_cellsIn : Nat := 74
abbrev n_X3_isInBounds : Nat := 75
abbrev n_X3_fits : Nat := 76
abbrev n_X3_add : Nat := 77
abbrev n_X3_empty : Nat := 78
abbrev n_X3_size : Nat := 79
abbrev n_X3_has : Nat := 80
abbrev n_X4_forget : Nat := 81
abbrev n_X4_noteRun : Nat := 82
abbrev n_X4_noteStep : Nat := 83
abbrev n_X4_noteKind : Nat := 84
abbrev n_X4_noteFault : Nat := 85
abbrev n_X4_kindsAt : Nat := 86
abbrev n_X4_faultsAt : Nat := 87
abbrev n_X4_stepsDone : Nat := 88
abbrev n_X4_runs : Nat := 89
abbrev n_X5_step : Nat := 90
abbrev n_X5_clear : Nat := 91
abbrev n_X5_run : Nat := 92
abbrev n_X5_ran : Nat := 93
abbrev n_X5_variable : Nat := 94
abbrev n_X5_number : Nat := 95
abbrev n_X5_seen : Nat := 96
abbrev n_X5_had : Nat := 97
abbrev n_X5_may : Nat := 98
abbrev n_X5_faults : Nat := 99
abbrev n_X5_cast : Nat := 100
abbrev n_X5_all : Nat := 101
abbrev n_X5_isVariable : Nat := 102
abbrev n_X5_isNumber : Nat := 103
abbrev n_X5_only : Nat := 104
abbrev n_X5_holds : Nat := 105
abbrev n_X5_share : Nat := 106
abbrev n_X5_faultIf : Nat := 107
abbrev n_X6_thrown : Nat := 108
abbrev n_X6_in : Nat := 109
abbrev n_X6_sortA : Nat := 110
abbrev n_X6_sortB : Nat := 111
abbrev n_X6_sortC : Nat := 112
abbrev n_X6_isGood : Nat := 113
abbrev n_X6_forget : Nat := 114
abbrev n_X6_step : Nat := 115
abbrev n_X6_clear : Nat := 116
abbrev n_X6_isOf : Nat := 117
abbrev n_X6_kind : Nat := 118
abbrev n_X6_isWrong : Nat := 119
abbrev n_X6_newObject : Nat := 120
abbrev n_X6_newArray : Nat := 121
abbrev n_X6_isCell : Nat := 122
abbrev n_X6_doStep : Nat := 123
abbrev n_X6_tag : Nat := 124
abbrev n_X6_store : Nat := 125
abbrev n_X6_doOther : Nat := 126
abbrev n_X6_copy : Nat := 127
abbrev n_X6_run : Nat := 128
abbrev n_X6_ran : Nat := 129
abbrev n_X6_variable : Nat := 130
abbrev n_X6_number : Nat := 131
abbrev n_X6_seen : Nat := 132
abbrev n_X6_had : Nat := 133
abbrev n_X6_bitsOf : Nat := 134
abbrev n_X6_adds : Nat := 135
abbrev n_X6_takes : Nat := 136
abbrev n_X6_comes : Nat := 137
abbrev n_X6_copies : Nat := 138
abbrev n_X6_goOn : Nat := 139
abbrev n_X6_faultsOf : Nat := 140
abbrev n_X6_casts : Nat := 141
abbrev n_X6_copyFaults : Nat := 142
abbrev n_X6_tell : Nat := 143
abbrev n_X6_may : Nat := 144
abbrev n_X6_faults : Nat := 145
abbrev n_X6_cast : Nat := 146
abbrev n_X6_all : Nat := 147
abbrev n_X6_mean : Nat := 148
abbrev n_J7_fill_53178 : Nat := 149
def m_R (c : Nat) : String := (bif Nat.blt c 4 then (bif Nat.blt c 2 then (bif Nat.blt c 1 then RX0 else RX1) else (bif Nat.blt c 3 then RX2 else RX3)) else (bif Nat.blt c 6 then (bif Nat.blt c 5 then RX4 else RX5) else (bif Nat.blt c 7 then RX6 else RJ7)))
def m_Tt (c : Nat) : u_T := (bif Nat.blt c 3 then (bif Nat.blt c 1 then TX0 else (bif Nat.blt c 2 then TX1 else TX2)) else (bif Nat.blt c 5 then (bif Nat.blt c 4 then TX3 else TX4) else (bif Nat.blt c 6 then TX5 else TX6)))
def m_ty (c : Nat) : Nat → FieldType := (bif Nat.blt c 3 then (bif Nat.blt c 1 then tyX0 else (bif Nat.blt c 2 then tyX1 else tyX2)) else (bif Nat.blt c 5 then (bif Nat.blt c 4 then tyX3 else tyX4) else (bif Nat.blt c 6 then tyX5 else tyX6)))
def m_nf (c : Nat) : Nat := (bif Nat.blt c 3 then (bif Nat.blt c 1 then 6 else (bif Nat.blt c 2 then 12 else 7)) else (bif Nat.blt c 5 then (bif Nat.blt c 4 then 6 else 4) else (bif Nat.blt c 6 then 4 else 31)))
/-- what a field holds: 0 an int, 1 a reference (to which cell), 2 a boolean, 3 the long -/
def m_fd (q : Nat) : Nat × Nat := (bif Nat.blt q 200 then (bif Nat.blt q 51 then (bif Nat.blt q 42 then (bif Nat.blt q 4 then (bif Nat.blt q 2 then (bif Nat.blt q 1 then (1, 100) else (1, 101)) else (bif Nat.blt q 3 then (1, 102) else (1, 103))) else (bif Nat.blt q 40 then (bif Nat.blt q 5 then (1, 104) else (0, 0)) else (bif Nat.blt q 41 then (1, 3) else (1, 4)))) else (bif Nat.blt q 46 then (bif Nat.blt q 44 then (bif Nat.blt q 43 then (1, 0) else (1, 143)) else (bif Nat.blt q 45 then (1, 144) else (0, 0))) else (bif Nat.blt q 48 then (bif Nat.blt q 47 then (0, 0) else (0, 0)) else (bif Nat.blt q 49 then (0, 0) else (bif Nat.blt q 50 then (0, 0) else (0, 0)))))) else (bif Nat.blt q 121 then (bif Nat.blt q 83 then (bif Nat.blt q 81 then (bif Nat.blt q 80 then (0, 0) else (1, 3)) else (bif Nat.blt q 82 then (1, 181) else (1, 182))) else (bif Nat.blt q 85 then (bif Nat.blt q 84 then (1, 183) else (0, 0)) else (bif Nat.blt q 86 then (0, 0) else (bif Nat.blt q 120 then (2, 0) else (1, 220))))) else (bif Nat.blt q 125 then (bif Nat.blt q 123 then (bif Nat.blt q 122 then (1, 221) else (1, 222)) else (bif Nat.blt q 124 then (1, 223) else (1, 224))) else (bif Nat.blt q 161 then (bif Nat.blt q 160 then (0, 0) else (1, 260)) else (bif Nat.blt q 162 then (1, 261) else (bif Nat.blt q 163 then (0, 0) else (0, 0))))))) else (bif Nat.blt q 253 then (bif Nat.blt q 244 then (bif Nat.blt q 240 then (bif Nat.blt q 202 then (bif Nat.blt q 201 then (1, 3) else (1, 4)) else (bif Nat.blt q 203 then (1, 1) else (1, 2))) else (bif Nat.blt q 242 then (bif Nat.blt q 241 then (0, 0) else (0, 0)) else (bif Nat.blt q 243 then (1, 342) else (1, 343)))) else (bif Nat.blt q 248 then (bif Nat.blt q 246 then (bif Nat.blt q 245 then (1, 344) else (1, 345)) else (bif Nat.blt q 247 then (1, 346) else (1, 347))) else (bif Nat.blt q 250 then (bif Nat.blt q 249 then (1, 348) else (3, 0)) else (bif Nat.blt q 251 then (0, 0) else (bif Nat.blt q 252 then (2, 0) else (0, 0)))))) else (bif Nat.blt q 262 then (bif Nat.blt q 257 then (bif Nat.blt q 255 then (bif Nat.blt q 254 then (0, 0) else (0, 0)) else (bif Nat.blt q 256 then (0, 0) else (0, 0))) else (bif Nat.blt q 259 then (bif Nat.blt q 258 then (1, 357) else (1, 358)) else (bif Nat.blt q 260 then (1, 359) else (bif Nat.blt q 261 then (1, 360) else (1, 361))))) else (bif Nat.blt q 266 then (bif Nat.blt q 264 then (bif Nat.blt q 263 then (1, 362) else (2, 0)) else (bif Nat.blt q 265 then (0, 0) else (1, 365))) else (bif Nat.blt q 268 then (bif Nat.blt q 267 then (1, 366) else (1, 367)) else (bif Nat.blt q 269 then (1, 368) else (bif Nat.blt q 270 then (2, 0) else (1, 370))))))))
/-- the arrays: mini address, length, whether of booleans -/
def m_ar : List (Nat × Nat × Bool) := [(100, 40, false), (101, 40, false), (102, 40, false), (103, 800, false), (104, 20, false), (143, 6, false), (144, 4, false), (181, 192, false), (182, 3, false), (183, 6, false), (220, 32, false), (221, 32, false), (222, 32, false), (223, 32, false), (224, 32, false), (260, 192, false), (261, 32, false), (342, 32, false), (343, 32, false), (344, 32, false), (345, 32, false), (346, 32, false), (347, 192, false), (348, 32, false), (357, 500, false), (358, 500, false), (359, 500, false), (360, 10000, false), (361, 6, false), (362, 4, false), (365, 20, false), (366, 192, false), (367, 32, true), (368, 3, false), (370, 6, false)]
def m_len (r : Nat) : Nat := (bif Nat.blt r 344 then (bif Nat.blt r 183 then (bif Nat.blt r 104 then (bif Nat.blt r 102 then (bif Nat.blt r 101 then 40 else 40) else (bif Nat.blt r 103 then 40 else 800)) else (bif Nat.blt r 144 then (bif Nat.blt r 143 then 20 else 6) else (bif Nat.blt r 181 then 4 else (bif Nat.blt r 182 then 192 else 3)))) else (bif Nat.blt r 224 then (bif Nat.blt r 221 then (bif Nat.blt r 220 then 6 else 32) else (bif Nat.blt r 222 then 32 else (bif Nat.blt r 223 then 32 else 32))) else (bif Nat.blt r 261 then (bif Nat.blt r 260 then 32 else 192) else (bif Nat.blt r 342 then 32 else (bif Nat.blt r 343 then 32 else 32))))) else (bif Nat.blt r 361 then (bif Nat.blt r 348 then (bif Nat.blt r 346 then (bif Nat.blt r 345 then 32 else 32) else (bif Nat.blt r 347 then 32 else 192)) else (bif Nat.blt r 358 then (bif Nat.blt r 357 then 32 else 500) else (bif Nat.blt r 359 then 500 else (bif Nat.blt r 360 then 500 else 10000)))) else (bif Nat.blt r 368 then (bif Nat.blt r 365 then (bif Nat.blt r 362 then 6 else 4) else (bif Nat.blt r 366 then 20 else (bif Nat.blt r 367 then 192 else 32))) else (bif Nat.blt r 500 then (bif Nat.blt r 370 then 3 else 6) else (bif Nat.blt r 501 then 11 else (bif Nat.blt r 502 then 10 else 10))))))
/-- where an array stands among them -/
def m_ai (r : Nat) : Option Nat := (bif Nat.blt r 342 then (bif Nat.blt r 182 then (bif Nat.blt r 104 then (bif Nat.blt r 102 then (bif Nat.blt r 101 then (bif Nat.beq r 100 then some 0 else none) else (bif Nat.beq r 101 then some 1 else none)) else (bif Nat.blt r 103 then (bif Nat.beq r 102 then some 2 else none) else (bif Nat.beq r 103 then some 3 else none))) else (bif Nat.blt r 144 then (bif Nat.blt r 143 then (bif Nat.beq r 104 then some 4 else none) else (bif Nat.beq r 143 then some 5 else none)) else (bif Nat.blt r 181 then (bif Nat.beq r 144 then some 6 else none) else (bif Nat.beq r 181 then some 7 else none)))) else (bif Nat.blt r 222 then (bif Nat.blt r 220 then (bif Nat.blt r 183 then (bif Nat.beq r 182 then some 8 else none) else (bif Nat.beq r 183 then some 9 else none)) else (bif Nat.blt r 221 then (bif Nat.beq r 220 then some 10 else none) else (bif Nat.beq r 221 then some 11 else none))) else (bif Nat.blt r 224 then (bif Nat.blt r 223 then (bif Nat.beq r 222 then some 12 else none) else (bif Nat.beq r 223 then some 13 else none)) else (bif Nat.blt r 260 then (bif Nat.beq r 224 then some 14 else none) else (bif Nat.blt r 261 then (bif Nat.beq r 260 then some 15 else none) else (bif Nat.beq r 261 then some 16 else none)))))) else (bif Nat.blt r 359 then (bif Nat.blt r 346 then (bif Nat.blt r 344 then (bif Nat.blt r 343 then (bif Nat.beq r 342 then some 17 else none) else (bif Nat.beq r 343 then some 18 else none)) else (bif Nat.blt r 345 then (bif Nat.beq r 344 then some 19 else none) else (bif Nat.beq r 345 then some 20 else none))) else (bif Nat.blt r 348 then (bif Nat.blt r 347 then (bif Nat.beq r 346 then some 21 else none) else (bif Nat.beq r 347 then some 22 else none)) else (bif Nat.blt r 357 then (bif Nat.beq r 348 then some 23 else none) else (bif Nat.blt r 358 then (bif Nat.beq r 357 then some 24 else none) else (bif Nat.beq r 358 then some 25 else none))))) else (bif Nat.blt r 365 then (bif Nat.blt r 361 then (bif Nat.blt r 360 then (bif Nat.beq r 359 then some 26 else none) else (bif Nat.beq r 360 then some 27 else none)) else (bif Nat.blt r 362 then (bif Nat.beq r 361 then some 28 else none) else (bif Nat.beq r 362 then some 29 else none))) else (bif Nat.blt r 367 then (bif Nat.blt r 366 then (bif Nat.beq r 365 then some 30 else none) else (bif Nat.beq r 366 then some 31 else none)) else (bif Nat.blt r 368 then (bif Nat.beq r 367 then some 32 else none) else (bif Nat.blt r 370 then (bif Nat.beq r 368 then some 33 else none) else (bif Nat.beq r 370 then some 34 else none)))))))
def m_az (r : Nat) : Bool := (bif Nat.blt r 342 then (bif Nat.blt r 182 then (bif Nat.blt r 104 then (bif Nat.blt r 102 then (bif Nat.blt r 101 then false else false) else (bif Nat.blt r 103 then false else false)) else (bif Nat.blt r 144 then (bif Nat.blt r 143 then false else false) else (bif Nat.blt r 181 then false else false))) else (bif Nat.blt r 222 then (bif Nat.blt r 220 then (bif Nat.blt r 183 then false else false) else (bif Nat.blt r 221 then false else false)) else (bif Nat.blt r 224 then (bif Nat.blt r 223 then false else false) else (bif Nat.blt r 260 then false else (bif Nat.blt r 261 then false else false))))) else (bif Nat.blt r 359 then (bif Nat.blt r 346 then (bif Nat.blt r 344 then (bif Nat.blt r 343 then false else false) else (bif Nat.blt r 345 then false else false)) else (bif Nat.blt r 348 then (bif Nat.blt r 347 then false else false) else (bif Nat.blt r 357 then false else (bif Nat.blt r 358 then false else false)))) else (bif Nat.blt r 365 then (bif Nat.blt r 361 then (bif Nat.blt r 360 then false else false) else (bif Nat.blt r 362 then false else false)) else (bif Nat.blt r 367 then (bif Nat.blt r 366 then false else false) else (bif Nat.blt r 368 then true else (bif Nat.blt r 370 then false else false))))))
def m_t0 : List Int32 := [1022, 30, 4, 24, 16, 20, 32, 64, 384, 256, 512]
def m_t1 : List Int32 := [0, 0, 0, 0, 0, 0, 0, 31, 25, 33]
def m_t2 : List Int32 := [0, 0, 0, 0, 0, 32, 64, 896, 896, 896]
/-- a static table's value -/
def m_sv (r : Nat) (i : Nat) : Int32 := (bif Nat.beq r 500 then m_t0 else bif Nat.beq r 501 then m_t1 else m_t2).getD i 0
/-- links: own, entry, where it leads -/
def m_FLc : List ((Nat × Nat × Nat × Nat × Nat) × Nat) := [((0, 27, 0, 5, 0), 157), ((0, 9, 0, 0, 0), 152), ((0, 15, 0, 1, 0), 153), ((0, 18, 0, 2, 0), 154), ((0, 21, 0, 3, 0), 155), ((0, 24, 0, 4, 0), 156), ((1, 35, 1, 8, 0), 179), ((1, 47, 1, 0, 0), 171), ((1, 25, 1, 5, 0), 176), ((1, 12, 1, 2, 0), 173), ((1, 18, 1, 3, 0), 174), ((1, 22, 1, 4, 0), 175), ((1, 29, 1, 6, 0), 177), ((1, 32, 1, 7, 0), 178), ((1, 38, 1, 9, 0), 180), ((1, 41, 1, 10, 0), 181), ((1, 44, 1, 11, 0), 182), ((1, 51, 1, 1, 0), 172), ((1, 94, 3, 0, 1), 93), ((1, 97, 3, 1, 1), 96), ((1, 100, 3, 2, 1), 99), ((1, 103, 3, 3, 1), 101), ((1, 116, 3, 4, 1), 104), ((2, 28, 2, 6, 0), 220), ((2, 11, 2, 1, 0), 215), ((2, 15, 2, 2, 0), 216), ((2, 18, 2, 3, 0), 217), ((2, 21, 2, 4, 0), 218), ((2, 25, 2, 5, 0), 219), ((2, 32, 2, 0, 0), 214), ((2, 63, 3, 0, 1), 92), ((2, 66, 3, 1, 1), 95), ((2, 76, 3, 2, 1), 98), ((2, 89, 3, 4, 1), 105), ((2, 92, 3, 3, 1), 102), ((3, 27, 3, 5, 0), 106), ((3, 9, 3, 0, 0), 91), ((3, 15, 3, 1, 0), 94), ((3, 18, 3, 2, 0), 97), ((3, 21, 3, 3, 0), 100), ((3, 24, 3, 4, 0), 103), ((4, 9, 4, 0, 0), 127), ((4, 15, 4, 1, 0), 128), ((4, 18, 4, 2, 0), 129), ((4, 22, 4, 3, 0), 130), ((5, 12, 5, 0, 0), 236), ((5, 21, 5, 1, 0), 237), ((5, 39, 5, 3, 0), 239), ((5, 30, 5, 2, 0), 238), ((6, 65, 6, 0, 0), 815), ((6, 25, 6, 7, 0), 822), ((6, 28, 6, 8, 0), 823), ((6, 85, 6, 9, 0), 824), ((6, 89, 6, 10, 0), 825), ((6, 92, 6, 23, 0), 838), ((6, 114, 6, 1, 0), 816), ((6, 7, 6, 2, 0), 817), ((6, 13, 6, 3, 0), 818), ((6, 16, 6, 4, 0), 819), ((6, 19, 6, 5, 0), 820), ((6, 22, 6, 6, 0), 821), ((6, 120, 6, 11, 0), 826), ((6, 43, 6, 21, 0), 836), ((6, 31, 6, 17, 0), 832), ((6, 126, 6, 16, 0), 831), ((6, 34, 6, 18, 0), 833), ((6, 37, 6, 19, 0), 834), ((6, 40, 6, 20, 0), 835), ((6, 132, 6, 24, 0), 839), ((6, 46, 6, 22, 0), 837), ((6, 163, 6, 13, 0), 828), ((6, 49, 6, 25, 0), 840), ((6, 166, 6, 12, 0), 827), ((6, 169, 6, 14, 0), 829), ((6, 172, 6, 15, 0), 830), ((6, 59, 6, 28, 0), 843), ((6, 180, 6, 29, 0), 844), ((6, 62, 6, 30, 0), 845), ((6, 52, 6, 26, 0), 841), ((6, 55, 6, 27, 0), 842)]
def m_FL : List (Nat × Nat × Nat × Nat × Nat) := m_FLc.map (·.1)
def m_MLc : List ((Nat × Nat × Nat × Nat) × Nat) := [((0, 31, 4, 0), 400), ((0, 35, 10, 0), 403), ((0, 42, 5, 0), 470), ((0, 45, 105, 1), 471), ((0, 49, 9, 0), 503), ((0, 53, 11, 0), 504), ((1, 55, 16, 0), 348), ((1, 59, 80, 0), 361), ((1, 65, 17, 0), 365), ((1, 69, 0, 0), 352), ((1, 72, 149, 0), 356), ((1, 78, 82, 0), 357), ((1, 83, 5, 0), 369), ((1, 87, 84, 0), 373), ((1, 91, 83, 0), 380), ((1, 106, 19, 0), 384), ((1, 110, 18, 0), 513), ((1, 113, 85, 0), 517), ((1, 119, 22, 0), 388), ((1, 123, 23, 0), 407), ((1, 127, 24, 0), 411), ((1, 130, 25, 0), 424), ((1, 133, 26, 0), 436), ((1, 136, 27, 0), 444), ((1, 139, 28, 0), 460), ((1, 142, 29, 0), 473), ((1, 146, 30, 0), 477), ((1, 149, 31, 0), 481), ((1, 152, 32, 0), 485), ((1, 155, 33, 0), 489), ((1, 158, 34, 0), 493), ((1, 161, 20, 0), 505), ((1, 168, 105, 1), 421), ((1, 172, 21, 0), 509), ((1, 176, 2, 0), 392), ((1, 180, 3, 0), 396), ((1, 183, 35, 0), 415), ((1, 186, 36, 0), 428), ((1, 189, 7, 0), 432), ((1, 192, 8, 0), 440), ((1, 194, 37, 0), 448), ((1, 197, 9, 0), 456), ((1, 200, 11, 0), 464), ((1, 203, 10, 0), 472), ((1, 205, 6, 0), 452), ((1, 211, 12, 0), 499), ((1, 212, 1, 0), 533), ((2, 36, 149, 0), 582), ((2, 42, 50, 0), 583), ((2, 46, 79, 0), 591), ((2, 52, 48, 0), 592), ((2, 55, 47, 0), 708), ((2, 59, 66, 0), 617), ((2, 69, 43, 0), 600), ((2, 79, 106, 1), 588), ((2, 83, 52, 0), 596), ((2, 86, 49, 0), 654), ((2, 95, 55, 0), 658), ((2, 99, 80, 0), 587), ((2, 102, 51, 0), 604), ((2, 106, 53, 0), 608), ((2, 109, 54, 0), 613), ((2, 115, 56, 0), 662), ((2, 118, 57, 0), 670), ((2, 122, 59, 0), 666), ((2, 125, 58, 0), 674), ((2, 128, 104, 1), 678), ((2, 131, 61, 0), 679), ((2, 134, 62, 0), 683), ((2, 137, 63, 0), 686), ((2, 140, 60, 0), 689), ((2, 143, 64, 0), 693), ((2, 146, 65, 0), 696), ((2, 152, 105, 1), 644), ((2, 155, 67, 0), 621), ((2, 158, 68, 0), 628), ((2, 161, 69, 0), 631), ((2, 164, 71, 0), 634), ((2, 167, 70, 0), 637), ((2, 170, 72, 0), 640), ((2, 173, 107, 1), 625), ((2, 177, 73, 0), 645), ((2, 180, 74, 0), 650), ((3, 39, 76, 0), 297), ((3, 47, 102, 1), 300), ((3, 51, 103, 1), 303), ((4, 25, 149, 0), 316), ((4, 31, 104, 1), 377), ((5, 43, 75, 0), 253), ((5, 47, 79, 0), 308), ((5, 51, 81, 0), 312), ((5, 54, 41, 0), 319), ((5, 55, 77, 0), 323), ((5, 59, 78, 0), 332), ((5, 62, 13, 0), 336), ((5, 63, 15, 0), 344), ((5, 67, 14, 0), 525), ((5, 71, 38, 0), 529), ((5, 77, 102, 0), 543), ((5, 81, 39, 0), 544), ((5, 84, 103, 0), 552), ((5, 87, 40, 0), 553), ((5, 91, 80, 0), 561), ((5, 94, 86, 0), 562), ((5, 97, 87, 0), 570), ((5, 100, 42, 0), 578), ((5, 103, 43, 0), 699), ((5, 104, 44, 0), 704), ((5, 105, 45, 0), 716), ((5, 108, 46, 0), 724), ((6, 71, 109, 0), 919), ((6, 98, 110, 0), 922), ((6, 102, 113, 0), 925), ((6, 106, 111, 0), 934), ((6, 109, 112, 0), 937), ((6, 117, 114, 0), 941), ((6, 123, 117, 0), 969), ((6, 129, 120, 0), 961), ((6, 135, 121, 0), 965), ((6, 139, 118, 0), 953), ((6, 142, 119, 0), 972), ((6, 145, 122, 0), 976), ((6, 148, 125, 0), 980), ((6, 152, 124, 0), 984), ((6, 156, 126, 0), 988), ((6, 160, 127, 0), 992), ((6, 175, 123, 0), 957), ((6, 183, 136, 0), 1029), ((6, 187, 134, 0), 1033), ((6, 190, 137, 0), 1036), ((6, 193, 135, 0), 1040), ((6, 197, 138, 0), 1044), ((6, 200, 141, 0), 1051), ((6, 203, 142, 0), 1054), ((6, 206, 139, 0), 1025), ((6, 209, 140, 0), 1047), ((6, 212, 143, 0), 1021)]
def m_ML : List (Nat × Nat × Nat × Nat) := m_MLc.map (·.1)
def m_SLc : List ((Nat × Nat × Nat) × Nat) := [((0, 39, 501), 468), ((1, 165, 500), 419), ((1, 208, 502), 497), ((2, 73, 500), 624), ((2, 112, 501), 612), ((2, 149, 502), 649)]
def m_SL : List (Nat × Nat × Nat) := m_SLc.map (·.1)
def m_LLc : List ((Nat × Nat × Int64) × Nat) := [((1, 216, -9223372036854775808), 537), ((5, 75, -9223372036854775808), 538), ((6, 69, 5), 928), ((6, 75, 3), 929), ((6, 77, 32), 930), ((6, 79, 4), 931), ((6, 81, 9), 932), ((6, 83, 10), 933), ((6, 96, 23), 918), ((6, 112, -1), 940), ((6, 178, -9223372036854775808), 1000), ((6, 215, 2), 1070)]
def m_LL : List (Nat × Nat × Int64) := m_LLc.map (·.1)
def m_pk (M : Nat) : List Nat := (bif Nat.blt M 75 then (bif Nat.blt M 37 then (bif Nat.blt M 18 then (bif Nat.blt M 9 then (bif Nat.blt M 4 then (bif Nat.blt M 2 then (bif Nat.blt M 1 then [355, 65, 353, 354] else [536, 65, 534, 535]) else (bif Nat.blt M 3 then [395, 65, 393, 394] else [399, 65, 397, 398])) else (bif Nat.blt M 6 then (bif Nat.blt M 5 then [402, 65, 401, 0] else [372, 65, 370, 371]) else (bif Nat.blt M 7 then [455, 65, 453, 454] else (bif Nat.blt M 8 then [435, 65, 433, 434] else [443, 65, 441, 442])))) else (bif Nat.blt M 13 then (bif Nat.blt M 11 then (bif Nat.blt M 10 then [459, 65, 457, 458] else [406, 65, 404, 405]) else (bif Nat.blt M 12 then [467, 65, 465, 466] else [502, 65, 500, 501])) else (bif Nat.blt M 15 then (bif Nat.blt M 14 then [339, 64, 337, 338] else [528, 64, 526, 527]) else (bif Nat.blt M 16 then [347, 64, 345, 346] else (bif Nat.blt M 17 then [351, 64, 350, 0] else [368, 64, 367, 1]))))) else (bif Nat.blt M 27 then (bif Nat.blt M 22 then (bif Nat.blt M 20 then (bif Nat.blt M 19 then [516, 64, 515, 21] else [387, 64, 386, 2]) else (bif Nat.blt M 21 then [508, 64, 507, 19] else [512, 64, 511, 20])) else (bif Nat.blt M 24 then (bif Nat.blt M 23 then [391, 64, 390, 3] else [410, 64, 409, 4]) else (bif Nat.blt M 25 then [414, 64, 413, 5] else (bif Nat.blt M 26 then [427, 64, 426, 7] else [439, 64, 438, 9])))) else (bif Nat.blt M 32 then (bif Nat.blt M 29 then (bif Nat.blt M 28 then [447, 64, 446, 10] else [463, 64, 462, 12]) else (bif Nat.blt M 30 then [476, 64, 475, 13] else (bif Nat.blt M 31 then [480, 64, 479, 14] else [484, 64, 483, 15]))) else (bif Nat.blt M 34 then (bif Nat.blt M 33 then [488, 64, 487, 16] else [492, 64, 491, 17]) else (bif Nat.blt M 35 then [496, 64, 495, 18] else (bif Nat.blt M 36 then [418, 64, 417, 6] else [431, 64, 430, 8])))))) else (bif Nat.blt M 56 then (bif Nat.blt M 46 then (bif Nat.blt M 41 then (bif Nat.blt M 39 then (bif Nat.blt M 38 then [451, 64, 450, 11] else [532, 64, 530, 531]) else (bif Nat.blt M 40 then [547, 64, 545, 546] else [556, 64, 554, 555])) else (bif Nat.blt M 43 then (bif Nat.blt M 42 then [322, 66, 320, 321] else [581, 66, 579, 580]) else (bif Nat.blt M 44 then [603, 66, 601, 602] else (bif Nat.blt M 45 then [707, 66, 705, 706] else [719, 66, 717, 718])))) else (bif Nat.blt M 51 then (bif Nat.blt M 48 then (bif Nat.blt M 47 then [727, 66, 725, 726] else [711, 66, 710, 40]) else (bif Nat.blt M 49 then [595, 66, 594, 23] else (bif Nat.blt M 50 then [657, 66, 656, 32] else [586, 66, 585, 22]))) else (bif Nat.blt M 53 then (bif Nat.blt M 52 then [607, 66, 606, 25] else [599, 66, 598, 24]) else (bif Nat.blt M 54 then [611, 66, 610, 26] else (bif Nat.blt M 55 then [616, 66, 615, 27] else [661, 66, 660, 33]))))) else (bif Nat.blt M 65 then (bif Nat.blt M 60 then (bif Nat.blt M 58 then (bif Nat.blt M 57 then [665, 66, 664, 34] else [673, 66, 672, 36]) else (bif Nat.blt M 59 then [677, 66, 676, 37] else [669, 66, 668, 35])) else (bif Nat.blt M 62 then (bif Nat.blt M 61 then [692, 66, 691, 39] else [682, 66, 681, 38]) else (bif Nat.blt M 63 then [685, 66, 684, 0] else (bif Nat.blt M 64 then [688, 66, 687, 0] else [695, 66, 694, 0])))) else (bif Nat.blt M 70 then (bif Nat.blt M 67 then (bif Nat.blt M 66 then [698, 66, 697, 0] else [620, 66, 619, 28]) else (bif Nat.blt M 68 then [623, 66, 622, 0] else (bif Nat.blt M 69 then [630, 66, 629, 0] else [633, 66, 632, 0]))) else (bif Nat.blt M 72 then (bif Nat.blt M 71 then [639, 66, 638, 0] else [636, 66, 635, 0]) else (bif Nat.blt M 73 then [643, 66, 642, 29] else (bif Nat.blt M 74 then [648, 66, 647, 30] else [653, 66, 652, 31]))))))) else (bif Nat.blt M 112 then (bif Nat.blt M 93 then (bif Nat.blt M 84 then (bif Nat.blt M 79 then (bif Nat.blt M 77 then (bif Nat.blt M 76 then [255, 62, 254, 0] else [299, 62, 298, 0]) else (bif Nat.blt M 78 then [326, 62, 324, 325] else [335, 62, 333, 334])) else (bif Nat.blt M 81 then (bif Nat.blt M 80 then [311, 62, 309, 310] else [364, 62, 362, 363]) else (bif Nat.blt M 82 then [315, 63, 313, 314] else (bif Nat.blt M 83 then [360, 63, 358, 359] else [383, 63, 381, 382])))) else (bif Nat.blt M 88 then (bif Nat.blt M 86 then (bif Nat.blt M 85 then [376, 63, 374, 375] else [520, 63, 518, 519]) else (bif Nat.blt M 87 then [565, 63, 563, 564] else [573, 63, 571, 572])) else (bif Nat.blt M 90 then (bif Nat.blt M 89 then [808, 63, 806, 807] else [739, 63, 737, 738]) else (bif Nat.blt M 91 then [252, 61, 250, 251] else (bif Nat.blt M 92 then [331, 61, 329, 330] else [343, 61, 341, 342]))))) else (bif Nat.blt M 102 then (bif Nat.blt M 97 then (bif Nat.blt M 95 then (bif Nat.blt M 94 then [524, 61, 522, 523] else [542, 61, 540, 541]) else (bif Nat.blt M 96 then [551, 61, 549, 550] else [560, 61, 558, 559])) else (bif Nat.blt M 99 then (bif Nat.blt M 98 then [569, 61, 567, 568] else [577, 61, 575, 576]) else (bif Nat.blt M 100 then [703, 61, 701, 702] else (bif Nat.blt M 101 then [715, 61, 713, 714] else [723, 61, 721, 722])))) else (bif Nat.blt M 107 then (bif Nat.blt M 104 then (bif Nat.blt M 103 then [302, 61, 301, 0] else [305, 61, 304, 0]) else (bif Nat.blt M 105 then [379, 61, 378, 0] else (bif Nat.blt M 106 then [423, 61, 422, 0] else [590, 61, 589, 0]))) else (bif Nat.blt M 109 then (bif Nat.blt M 108 then [627, 61, 626, 0] else [913, 67, 911, 912]) else (bif Nat.blt M 110 then [921, 67, 920, 0] else (bif Nat.blt M 111 then [924, 67, 923, 0] else [936, 67, 935, 0])))))) else (bif Nat.blt M 131 then (bif Nat.blt M 121 then (bif Nat.blt M 116 then (bif Nat.blt M 114 then (bif Nat.blt M 113 then [939, 67, 938, 0] else [927, 67, 926, 0]) else (bif Nat.blt M 115 then [944, 67, 943, 42] else [917, 67, 915, 916])) else (bif Nat.blt M 118 then (bif Nat.blt M 117 then [948, 67, 946, 947] else [971, 67, 970, 0]) else (bif Nat.blt M 119 then [956, 67, 955, 43] else (bif Nat.blt M 120 then [975, 67, 974, 47] else [964, 67, 963, 45])))) else (bif Nat.blt M 126 then (bif Nat.blt M 123 then (bif Nat.blt M 122 then [968, 67, 967, 46] else [979, 67, 978, 48]) else (bif Nat.blt M 124 then [960, 67, 959, 44] else (bif Nat.blt M 125 then [987, 67, 986, 50] else [983, 67, 982, 49]))) else (bif Nat.blt M 128 then (bif Nat.blt M 127 then [991, 67, 990, 51] else [995, 67, 994, 52]) else (bif Nat.blt M 129 then [952, 67, 950, 951] else (bif Nat.blt M 130 then [999, 67, 997, 998] else [1004, 67, 1002, 1003]))))) else (bif Nat.blt M 140 then (bif Nat.blt M 135 then (bif Nat.blt M 133 then (bif Nat.blt M 132 then [1008, 67, 1006, 1007] else [1012, 67, 1010, 1011]) else (bif Nat.blt M 134 then [1016, 67, 1014, 1015] else [1035, 67, 1034, 0])) else (bif Nat.blt M 137 then (bif Nat.blt M 136 then [1043, 67, 1042, 57] else [1032, 67, 1031, 55]) else (bif Nat.blt M 138 then [1039, 67, 1038, 56] else (bif Nat.blt M 139 then [1046, 67, 1045, 0] else [1028, 67, 1027, 54])))) else (bif Nat.blt M 145 then (bif Nat.blt M 142 then (bif Nat.blt M 141 then [1050, 67, 1049, 58] else [1053, 67, 1052, 0]) else (bif Nat.blt M 143 then [1057, 67, 1056, 59] else (bif Nat.blt M 144 then [1024, 67, 1023, 53] else [1020, 67, 1018, 1019]))) else (bif Nat.blt M 147 then (bif Nat.blt M 146 then [1061, 67, 1059, 1060] else [1065, 67, 1063, 1064]) else (bif Nat.blt M 148 then [1069, 67, 1067, 1068] else (bif Nat.blt M 149 then [1074, 67, 1072, 1073] else [318, 72, 317, 0]))))))))
def m_up (c : Nat) : List Nat := (bif Nat.blt c 3 then (bif Nat.blt c 1 then [158, 160, 162, 164, 166, 168] else (bif Nat.blt c 2 then [183, 185, 187, 189, 191, 193, 195, 197, 199, 201, 203, 205] else [221, 223, 225, 227, 229, 231, 233])) else (bif Nat.blt c 5 then (bif Nat.blt c 4 then [107, 109, 111, 113, 115, 117] else [131, 133, 135, 137]) else (bif Nat.blt c 6 then [240, 242, 244, 246] else [846, 848, 850, 852, 854, 856, 858, 860, 862, 864, 866, 868, 870, 872, 874, 876, 878, 880, 882, 884, 886, 888, 890, 892, 894, 896, 898, 900, 902, 904, 906])))
def m_DL : List (Nat × Nat) := [(3, 33)]
end
section
/-- the mini machine's heap: int and boolean fields by their place, the one long, the arrays by their mini address -/
abbrev mS : Type := (Nat → Int32) × Int64 × (Nat → Nat → Int32)
abbrev mL : Type := List (Nat × Value)
abbrev mQ : Type := Option Value → mS → Prop
def m_gl : mL → Nat → Option Value
  | [], _ => none
  | (j, v) :: l, i => bif Nat.beq j i then some v else m_gl l i
def m_sl (ls : mL) (i : Nat) (v : Value) : mL := (i, v) :: ls.filter (fun q => !(q.1 == i) && !(q.1 + 1 == i && q.2.category == 2))
def m_ts (ex : List Nat) (lo hi : Int) (x : Int32) : Nat := if x.toInt < lo ∨ hi < x.toInt then ex.getD 0 0 else ex.getD ((x.toInt - lo).toNat + 1) 0
def m_lkF (d : Nat) : List (Int × Int) → List Nat → Int → Nat
  | (a, _) :: ps, t :: ts, v => if a = v then t else m_lkF d ps ts v
  | _, _, _ => d
def m_2 (f : Int32 → Int32 → Int32) (nx : Nat) (ls : mL) (S : mS) : List Value → Option (Nat × mL × List Value × mS)
  | .int y :: .int x :: r => some (nx, ls, .int (f x y) :: r, S)
  | _ => none
def m_li (nx : Nat) (ls : mL) (st : List Value) (S : mS) : Option Value → Option (Nat × mL × List Value × mS)
  | some (.int x) => some (nx, ls, .int x :: st, S)
  | _ => none
def m_ll (nx : Nat) (ls : mL) (st : List Value) (S : mS) : Option Value → Option (Nat × mL × List Value × mS)
  | some (.long x) => some (nx, ls, .long x :: st, S)
  | _ => none
def m_la (nx : Nat) (ls : mL) (st : List Value) (S : mS) : Option Value → Option (Nat × mL × List Value × mS)
  | some (.ref x) => some (nx, ls, .ref x :: st, S)
  | _ => none
def m_st (nx : Nat) (ls : mL) (S : mS) (k : Nat) : List Value → Option (Nat × mL × List Value × mS)
  | .int x :: r => some (nx, m_sl ls k (.int x), r, S)
  | _ => none
def m_inc (nx : Nat) (ls : mL) (st : List Value) (S : mS) (k : Nat) (c : Int32) : Option Value → Option (Nat × mL × List Value × mS)
  | some (.int x) => some (nx, m_sl ls k (.int (x + c)), st, S)
  | _ => none
def m_gf (nx : Nat) (ls : mL) (S : mS) : List Nat → List Value → Option (Nat × mL × List Value × mS)
  | [c, _, q, 0, _], .ref a :: r => bif Nat.beq a c then some (nx, ls, .int (S.1 q) :: r, S) else none
  | [c, _, _, 1, g], .ref a :: r => bif Nat.beq a c then some (nx, ls, .ref g :: r, S) else none
  | [c, _, q, 2, _], .ref a :: r => bif Nat.beq a c then some (nx, ls, .int (S.1 q) :: r, S) else none
  | [c, _, _, 3, _], .ref a :: r => bif Nat.beq a c then some (nx, ls, .long S.2.1 :: r, S) else none
  | _, _ => none
def m_pf (nx : Nat) (ls : mL) (S : mS) : List Nat → List Value → Option (Nat × mL × List Value × mS)
  | [c, _, q, 0, _], .int x :: .ref a :: r => bif Nat.beq a c then some (nx, ls, r, (upd S.1 q x, S.2)) else none
  | [c, _, _, 3, _], .long x :: .ref a :: r => bif Nat.beq a c then some (nx, ls, r, (S.1, x, S.2.2)) else none
  | _, _ => none
/-- the steps that always go on, to one place -/
def m_p (e : mE) (ls : mL) (st : List Value) (S : mS) : Option (Nat × mL × List Value × mS) :=
  match e with
  | (i, nx, ex, c, c2) => match i with
    | .iconst _ => some (nx, ls, .int c :: st, S)
    | .bipush _ => some (nx, ls, .int c :: st, S)
    | .sipush _ => some (nx, ls, .int c :: st, S)
    | .lconst _ => some (nx, ls, .long c2 :: st, S)
    | .ldc2_w _ => some (nx, ls, .long c2 :: st, S)
    | .iload k => m_li nx ls st S (m_gl ls k)
    | .iload_n k => m_li nx ls st S (m_gl ls k.val)
    | .lload k => m_ll nx ls st S (m_gl ls k)
    | .lload_n k => m_ll nx ls st S (m_gl ls k.val)
    | .aload_n k => m_la nx ls st S (m_gl ls k.val)
    | .istore k => m_st nx ls S k st
    | .istore_n k => m_st nx ls S k.val st
    | .iinc k _ => m_inc nx ls st S k c (m_gl ls k)
    | .iadd => m_2 (fun x y => x + y) nx ls S st
    | .isub => m_2 (fun x y => x - y) nx ls S st
    | .imul => m_2 (fun x y => x * y) nx ls S st
    | .iand => m_2 (fun x y => x &&& y) nx ls S st
    | .ior => m_2 (fun x y => x ||| y) nx ls S st
    | .ixor => m_2 (fun x y => x ^^^ y) nx ls S st
    | .ishl => m_2 (fun x y => x <<< (y &&& 31)) nx ls S st
    | .ishr => m_2 (fun x y => x >>> (y &&& 31)) nx ls S st
    | .iushr => m_2 (fun x y => (x.toUInt32 >>> (y.toUInt32 &&& Int32.toUInt32 31)).toInt32) nx ls S st
    | .goto _ => match ex with
      | [t] => some (t, ls, st, S)
      | _ => none
    | .dup => match st with
      | .int x :: r => some (nx, ls, .int x :: .int x :: r, S)
      | .ref x :: r => some (nx, ls, .ref x :: .ref x :: r, S)
      | _ => none
    | .dup2 => match st with
      | .int x :: .ref a :: r => some (nx, ls, .int x :: .ref a :: .int x :: .ref a :: r, S)
      | _ => none
    | .i2l => match st with
      | .int x :: r => some (nx, ls, .long x.toInt64 :: r, S)
      | _ => none
    | .l2i => match st with
      | .long x :: r => some (nx, ls, .int x.toInt32 :: r, S)
      | _ => none
    | .lcmp => match st with
      | .long y :: .long x :: r => some (nx, ls, .int (lg_cmp x y) :: r, S)
      | _ => none
    | .ladd => match st with
      | .long y :: .long x :: r => some (nx, ls, .long (x + y) :: r, S)
      | _ => none
    | .tableswitch _ lo hi _ => match st with
      | .int x :: r => some (m_ts ex lo hi x, ls, r, S)
      | _ => none
    | .lookupswitch _ ps => match st with
      | .int x :: r => some (m_lkF (ex.getD 0 0) ps.toList (ex.drop 1) x.toInt, ls, r, S)
      | _ => none
    | .getstatic _ => match ex with
      | [g] => some (nx, ls, .ref g :: st, S)
      | _ => none
    | .ldc _ => match ex with
      | [g] => some (nx, ls, .ref g :: st, S)
      | _ => none
    | .getfield _ => m_gf nx ls S ex st
    | .putfield _ => m_pf nx ls S ex st
    | _ => none
def m_cd (c : Jvm.ClassFile.Cond) (x y : Int32) : Prop := match c with
  | .eq => x = y
  | .ne => ¬ x = y
  | .lt => x < y
  | .ge => y ≤ x
  | .gt => y < x
  | .le => x ≤ y
/-- branches: the condition, where to, the stack behind it -/
def m_br (e : mE) (st : List Value) : Option (Prop × Nat × List Value) :=
  match e with
  | (i, _, ex, _, _) => match i with
    | .ifCond c _ => match ex, st with
      | [t], .int x :: r => some (m_cd c x 0, t, r)
      | _, _ => none
    | .if_icmp c _ => match ex, st with
      | [t], .int y :: .int x :: r => some (m_cd c x y, t, r)
      | _, _ => none
    | _ => none
def m_ld (S : mS) (a : Nat) (i : Int32) : Int32 := bif Nat.blt a 500 then S.2.2 a i.toNatClampNeg else m_sv a i.toNatClampNeg
/-- an array of ints that may be read, written; of booleans -/
def m_rI (a : Nat) : Bool := ((m_ai a).isSome && !(m_az a)) || Nat.beq a 500 || Nat.beq a 501 || Nat.beq a 502
def m_wI (a : Nat) : Bool := (m_ai a).isSome && !(m_az a)
def m_rZ (a : Nat) : Bool := (m_ai a).isSome && m_az a
def m_chs : List (List Int32) := [[86, 86, 86, 86, 86, 86, 86, 86, 86, 86, 86, 78, 78, 78, 78, 86, 78, 78, 78, 78, 83, 45, 86, 78], [45, 75, 65, 86, 84, 45, 84, 86, 86, 86, 86, 86, 86, 86, 86, 78, 45, 78, 78, 78, 45, 45, 86, 45], [45, 45, 78, 45, 83, 83, 86, 45, 45, 78, 78, 45, 45, 45, 78, 78, 45, 45, 45, 83, 45, 45, 78, 45]]
def m_ch (a : Nat) (i : Int32) : Int32 := (m_chs.getD (a - 600) []).getD i.toNatClampNeg 0
/-- the steps that go on if something holds -/
def m_g (e : mE) (st : List Value) (S : mS) : Option (Prop × List Value × mS) :=
  match e with
  | (i, _, ex, _, _) => match i with
    | .putfield _ => match ex, st with
      | [c, _, q, 2, _], .int x :: .ref a :: r => bif Nat.beq a c then some (x = 0 ∨ x = 1, r, (upd S.1 q x, S.2)) else none
      | _, _ => none
    | .iaload => match st with
      | .int i :: .ref a :: r => bif m_rI a then some (vp_in i (m_len a), .int (m_ld S a i) :: r, S) else none
      | _ => none
    | .baload => match st with
      | .int i :: .ref a :: r => bif m_rZ a then some (vp_in i (m_len a), .int (S.2.2 a i.toNatClampNeg) :: r, S) else none
      | _ => none
    | .iastore => match st with
      | .int x :: .int i :: .ref a :: r => bif m_wI a then some (vp_in i (m_len a), r, (S.1, S.2.1, va_up S.2.2 a (upd (S.2.2 a) i.toNatClampNeg x))) else none
      | _ => none
    | .bastore => match st with
      | .int x :: .int i :: .ref a :: r => bif m_rZ a then some ((x = 0 ∨ x = 1) ∧ vp_in i (m_len a), r, (S.1, S.2.1, va_up S.2.2 a (upd (S.2.2 a) i.toNatClampNeg x))) else none
      | _ => none
    | .arraylength => match st with
      | .ref a :: r => bif (m_ai a).isSome then some (True, .int (Int32.ofNat (m_len a)) :: r, S) else none
      | _ => none
    | .idiv => match st with
      | .int y :: .int x :: r => some (¬ y = 0, .int (x / y) :: r, S)
      | _ => none
    | .ldiv => match st with
      | .long y :: .long x :: r => some (¬ y = 0, .long (x / y) :: r, S)
      | _ => none
    | _ => none
/-- answers -/
def m_rv (e : mE) (st : List Value) : Option (Prop × Option Value) :=
  match e with
  | (i, _, ex, _, _) => match i with
    | .ireturn => match ex, st with
      | [0], [.int x] => some (True, some (.int x))
      | [1], [.int x] => some (x = 0 ∨ x = 1, some (.int x))
      | _, _ => none
    | .lreturn => match st with
      | [.long x] => some (True, some (.long x))
      | _ => none
    | .return_ => match st with
      | [] => some (True, none)
      | _ => none
    | _ => none
/-- calls: whom, with what, the stack below -/
def m_iv (e : mE) (st : List Value) : Option (Nat × List Value × List Value) :=
  match e with
  | (i, _, ex, _, _) => match i with
    | .invokestatic _ => match ex with
      | [M'] => bif m_is M' && Nat.ble (m_np M') st.length && Nat.ble (((st.drop (m_np M')).map fun v => v.category).sum) 8 && Nat.ble (((st.take (m_np M')).map fun v => v.category).sum) (m_mx M') then some (M', (st.take (m_np M')).reverse, st.drop (m_np M')) else none
      | _ => none
    | .invokevirtual _ => match ex, st.drop (m_np (ex.getD 0 0)) with
      | [M'], .ref a :: r => bif !(m_is M') && Nat.beq a (m_ow M') && Nat.ble (m_np M') st.length && Nat.ble ((r.map fun v => v.category).sum) 8 && Nat.ble (((st.take (m_np M')).map fun v => v.category).sum + 1) (m_mx M') then some (M', .ref a :: (st.take (m_np M')).reverse, r) else none
      | _, _ => none
    | _ => none
/-- a char of a text: which text, which place, the stack below -/
def m_cr (e : mE) (st : List Value) : Option (Nat × Int32 × List Value) :=
  match e with
  | (i, _, ex, _, _) => match i with
    | .invokevirtual _ => match ex, st with
      | [9999], .int i :: .ref a :: r => bif Nat.blt a 603 && Nat.blt 599 a && Nat.ble ((r.map fun v => v.category).sum) 8 then some (a, i, r) else none
      | _, _ => none
    | _ => none
abbrev mX : Type := Nat → Nat → Nat → mL → List Value → mS → mQ → Prop
/-- one step of the mini machine, as a demand -/
def m_T (X : mX) (d M pc : Nat) (ls : mL) (st : List Value) (S : mS) (Q : mQ) : Prop :=
  match m_code M pc with
  | none => False
  | some e => match m_p e ls st S with
    | some (pc', ls', st', S') => X d M pc' ls' st' S' Q
    | none => match m_br e st with
      | some (P, t, r) => (P → X d M t ls r S Q) ∧ (¬ P → X d M e.2.1 ls r S Q)
      | none => match m_g e st S with
        | some (G, st', S') => G ∧ X d M e.2.1 ls st' S' Q
        | none => match m_rv e st with
          | some (G, v) => G ∧ Q v S
          | none => match m_cr e st with
            | some (a, i, r) => 4 ≤ d ∧ vp_in i 24 ∧ X d M e.2.1 ls (.int (m_ch a i) :: r) S Q
            | none => match m_iv e st with
              | some (M', as, r) => 0 < d ∧ X (d - 1) M' 0 (lv_args 0 as) [] S (fun v S' => X d M e.2.1 ls (v.toList ++ r) S' Q)
              | none => False
def m_mono (X : mX) : Prop := ∀ d M pc ls st S Q Q', (∀ v S', Q v S' → Q' v S') → X d M pc ls st S Q → X d M pc ls st S Q'
/-- from here the mini machine comes to an answer with Q, d frames deep at most -/
def Wp (d M pc : Nat) (ls : mL) (st : List Value) (S : mS) (Q : mQ) : Prop :=
  ∀ X : mX, m_mono X → (∀ d M pc ls st S Q, m_T X d M pc ls st S Q → X d M pc ls st S Q) → X d M pc ls st S Q
theorem Wp.mono {d M pc : Nat} {ls : mL} {st : List Value} {S : mS} {Q Q' : mQ} (h : Wp d M pc ls st S Q) (hq : ∀ v S', Q v S' → Q' v S') : Wp d M pc ls st S Q' :=
  fun X hm hc => hm _ _ _ _ _ _ _ _ hq (h X hm hc)
theorem m_T.le {X Y : mX} (hY : m_mono Y) (hXY : ∀ d M pc ls st S Q, X d M pc ls st S Q → Y d M pc ls st S Q) {d M pc : Nat} {ls : mL} {st : List Value} {S : mS} {Q : mQ} (h : m_T X d M pc ls st S Q) : m_T Y d M pc ls st S Q := by
  unfold m_T at h ⊢
  split
  · next e1 => rw [e1] at h; exact h
  · next e e1 =>
    rw [e1] at h
    dsimp only at h
    split
    · next e2 => rw [e2] at h; exact hXY _ _ _ _ _ _ _ h
    · next e2 =>
      rw [e2] at h
      dsimp only at h
      split
      · next e3 => rw [e3] at h; exact ⟨fun p => hXY _ _ _ _ _ _ _ (h.1 p), fun p => hXY _ _ _ _ _ _ _ (h.2 p)⟩
      · next e3 =>
        rw [e3] at h
        dsimp only at h
        split
        · next e4 => rw [e4] at h; exact ⟨h.1, hXY _ _ _ _ _ _ _ h.2⟩
        · next e4 =>
          rw [e4] at h
          dsimp only at h
          split
          · next e5 => rw [e5] at h; exact h
          · next e5 =>
            rw [e5] at h
            dsimp only at h
            split
            · next e7 => rw [e7] at h; exact ⟨h.1, h.2.1, hXY _ _ _ _ _ _ _ h.2.2⟩
            · next e7 =>
             rw [e7] at h
             dsimp only at h
             split
             · next e6 => rw [e6] at h; exact ⟨h.1, hY _ _ _ _ _ _ _ _ (fun v S' q => hXY _ _ _ _ _ _ _ q) (hXY _ _ _ _ _ _ _ h.2)⟩
             · next e6 => rw [e6] at h; exact h
theorem Wp.fold {d M pc : Nat} {ls : mL} {st : List Value} {S : mS} {Q : mQ} (h : m_T Wp d M pc ls st S Q) : Wp d M pc ls st S Q :=
  fun X hm hc => hc _ _ _ _ _ _ _ (h.le hm (fun _ _ _ _ _ _ _ w => w X hm hc))
/-- a method from its start -/
abbrev Ev (d M : Nat) (as : List Value) (S : mS) (Q : mQ) : Prop := Wp d M 0 (lv_args 0 as) [] S Q
-- the rows
def m_pc (M pc : Nat) (ls : mL) (st : List Value) (S : mS) : Option (Nat × mL × List Value × mS) := match m_code M pc with
  | some e => m_p e ls st S
  | none => none
theorem Wp.p {d M pc pc' : Nat} {ls ls' : mL} {st st' : List Value} {S S' : mS} {Q : mQ} (h : m_pc M pc ls st S = some (pc', ls', st', S')) (k : Wp d M pc' ls' st' S' Q) : Wp d M pc ls st S Q := by
  apply Wp.fold
  unfold m_pc at h
  unfold m_T
  cases hc : m_code M pc with
  | none => rw [hc] at h; cases h
  | some e =>
    rw [hc] at h
    dsimp only at h ⊢
    rw [h]
    exact k
def m_bc (M pc : Nat) (ls : mL) (st : List Value) (S : mS) : Option (Prop × Nat × Nat × List Value) := match m_code M pc with
  | some e => match m_p e ls st S with
    | some _ => none
    | none => match m_br e st with
      | some (P, t, r) => some (P, t, e.2.1, r)
      | none => none
  | none => none
theorem Wp.b {d M pc t nx : Nat} {ls : mL} {st r : List Value} {S : mS} {Q : mQ} {P : Prop} (h : m_bc M pc ls st S = some (P, t, nx, r)) (kt : P → Wp d M t ls r S Q) (kf : ¬ P → Wp d M nx ls r S Q) : Wp d M pc ls st S Q := by
  apply Wp.fold
  unfold m_bc at h
  unfold m_T
  cases hc : m_code M pc with
  | none => rw [hc] at h; cases h
  | some e =>
    rw [hc] at h
    dsimp only at h ⊢
    cases hp : m_p e ls st S with
    | some x => rw [hp] at h; cases h
    | none =>
      rw [hp] at h
      dsimp only at h ⊢
      cases hb : m_br e st with
      | none => rw [hb] at h; cases h
      | some x =>
        obtain ⟨P', t', r'⟩ := x
        rw [hb] at h
        cases h
        exact ⟨kt, kf⟩
def m_gc (M pc : Nat) (ls : mL) (st : List Value) (S : mS) : Option (Prop × Nat × List Value × mS) := match m_code M pc with
  | some e => match m_p e ls st S with
    | some _ => none
    | none => match m_br e st with
      | some _ => none
      | none => match m_g e st S with
        | some (G, st', S') => some (G, e.2.1, st', S')
        | none => none
  | none => none
theorem Wp.g {d M pc nx : Nat} {ls : mL} {st st' : List Value} {S S' : mS} {Q : mQ} {G : Prop} (h : m_gc M pc ls st S = some (G, nx, st', S')) (hG : G) (k : Wp d M nx ls st' S' Q) : Wp d M pc ls st S Q := by
  apply Wp.fold
  unfold m_gc at h
  unfold m_T
  cases hc : m_code M pc with
  | none => rw [hc] at h; cases h
  | some e =>
    rw [hc] at h
    dsimp only at h ⊢
    cases hp : m_p e ls st S with
    | some x => rw [hp] at h; cases h
    | none =>
      rw [hp] at h
      dsimp only at h ⊢
      cases hb : m_br e st with
      | some x => rw [hb] at h; cases h
      | none =>
        rw [hb] at h
        dsimp only at h ⊢
        cases hg : m_g e st S with
        | none => rw [hg] at h; cases h
        | some x =>
          obtain ⟨G', a', b'⟩ := x
          rw [hg] at h
          cases h
          exact ⟨hG, k⟩
def m_rc (M pc : Nat) (ls : mL) (st : List Value) (S : mS) : Option (Prop × Option Value) := match m_code M pc with
  | some e => match m_p e ls st S with
    | some _ => none
    | none => match m_br e st with
      | some _ => none
      | none => match m_g e st S with
        | some _ => none
        | none => m_rv e st
  | none => none
theorem Wp.r {d M pc : Nat} {ls : mL} {st : List Value} {S : mS} {Q : mQ} {G : Prop} {v : Option Value} (h : m_rc M pc ls st S = some (G, v)) (hG : G) (k : Q v S) : Wp d M pc ls st S Q := by
  apply Wp.fold
  unfold m_rc at h
  unfold m_T
  cases hc : m_code M pc with
  | none => rw [hc] at h; cases h
  | some e =>
    rw [hc] at h
    dsimp only at h ⊢
    cases hp : m_p e ls st S with
    | some x => rw [hp] at h; cases h
    | none =>
      rw [hp] at h
      dsimp only at h ⊢
      cases hb : m_br e st with
      | some x => rw [hb] at h; cases h
      | none =>
        rw [hb] at h
        dsimp only at h ⊢
        cases hg : m_g e st S with
        | some x => rw [hg] at h; cases h
        | none =>
          rw [hg] at h
          dsimp only at h ⊢
          rw [h]
          exact ⟨hG, k⟩
def m_ic (M pc : Nat) (ls : mL) (st : List Value) (S : mS) : Option (Nat × Nat × List Value × List Value) := match m_code M pc with
  | some e => match m_p e ls st S with
    | some _ => none
    | none => match m_br e st with
      | some _ => none
      | none => match m_g e st S with
        | some _ => none
        | none => match m_rv e st with
          | some _ => none
          | none => match m_cr e st with
            | some _ => none
            | none => match m_iv e st with
              | some (M', as, r) => some (e.2.1, M', as, r)
              | none => none
  | none => none
theorem Wp.i {d M pc nx M' : Nat} {ls : mL} {st as r : List Value} {S : mS} {Q : mQ} (h : m_ic M pc ls st S = some (nx, M', as, r)) (k : Ev d M' as S (fun v S' => Wp (d + 1) M nx ls (v.toList ++ r) S' Q)) : Wp (d + 1) M pc ls st S Q := by
  apply Wp.fold
  unfold m_ic at h
  unfold m_T
  cases hc : m_code M pc with
  | none => rw [hc] at h; cases h
  | some e =>
    rw [hc] at h
    dsimp only at h ⊢
    cases hp : m_p e ls st S with
    | some x => rw [hp] at h; cases h
    | none =>
      rw [hp] at h
      dsimp only at h ⊢
      cases hb : m_br e st with
      | some x => rw [hb] at h; cases h
      | none =>
        rw [hb] at h
        dsimp only at h ⊢
        cases hg : m_g e st S with
        | some x => rw [hg] at h; cases h
        | none =>
          rw [hg] at h
          dsimp only at h ⊢
          cases hr : m_rv e st with
          | some x => rw [hr] at h; cases h
          | none =>
            rw [hr] at h
            dsimp only at h ⊢
            cases hcr : m_cr e st with
            | some x => rw [hcr] at h; cases h
            | none =>
              rw [hcr] at h
              dsimp only at h ⊢
              cases hi : m_iv e st with
              | none => rw [hi] at h; cases h
              | some x =>
                obtain ⟨a', b', c'⟩ := x
                rw [hi] at h
                cases h
                exact ⟨Nat.succ_pos d, k⟩
def m_cc (M pc : Nat) (ls : mL) (st : List Value) (S : mS) : Option (Nat × Nat × Int32 × List Value) := match m_code M pc with
  | some e => match m_p e ls st S with
    | some _ => none
    | none => match m_br e st with
      | some _ => none
      | none => match m_g e st S with
        | some _ => none
        | none => match m_rv e st with
          | some _ => none
          | none => match m_cr e st with
            | some (a, i, r) => some (e.2.1, a, i, r)
            | none => none
  | none => none
theorem Wp.c {d M pc nx a : Nat} {i : Int32} {ls : mL} {st r : List Value} {S : mS} {Q : mQ} (h : m_cc M pc ls st S = some (nx, a, i, r)) (hd : 4 ≤ d) (hi : vp_in i 24) (k : Wp d M nx ls (.int (m_ch a i) :: r) S Q) : Wp d M pc ls st S Q := by
  apply Wp.fold
  unfold m_cc at h
  unfold m_T
  cases hc : m_code M pc with
  | none => rw [hc] at h; cases h
  | some e =>
    rw [hc] at h
    dsimp only at h ⊢
    cases hp : m_p e ls st S with
    | some x => rw [hp] at h; cases h
    | none =>
      rw [hp] at h
      dsimp only at h ⊢
      cases hb : m_br e st with
      | some x => rw [hb] at h; cases h
      | none =>
        rw [hb] at h
        dsimp only at h ⊢
        cases hg : m_g e st S with
        | some x => rw [hg] at h; cases h
        | none =>
          rw [hg] at h
          dsimp only at h ⊢
          cases hr : m_rv e st with
          | some x => rw [hr] at h; cases h
          | none =>
            rw [hr] at h
            dsimp only at h ⊢
            cases hcr : m_cr e st with
            | none => rw [hcr] at h; cases h
            | some x =>
              obtain ⟨a', b', c'⟩ := x
              rw [hcr] at h
              cases h
              exact ⟨hd, hi, k⟩
-- a try: Heap.isFull, Heap.kindOf
theorem t_isFull (d : Nat) (S : mS) (Q : mQ) (h1 : 40 ≤ S.1 5 → Q (some (.int 1)) S) (h2 : ¬ 40 ≤ S.1 5 → Q (some (.int 0)) S) : Ev d n_X0_isFull [.ref 0] S Q := by
  iterate 3 refine Wp.p rfl ?_
  refine Wp.b rfl (fun h => ?_) (fun h => ?_)
  · refine Wp.p rfl ?_
    refine Wp.r rfl (Or.inl rfl) (h2 (Int32.not_le.mpr h))
  · iterate 2 refine Wp.p rfl ?_
    refine Wp.r rfl (Or.inr rfl) (h1 (Int32.not_lt.mp h))
end
section
def m_in (k : Nat) (w : Cond) : Bool := decide (lw_tbl[k]? = some w)
def m_gw (k : Nat) (w : Cond) : Bool := m_in k w && goodWord w
def m_gws : List Cond := lw_tbl.filter goodWord
theorem m_in_in {k : Nat} {w : Cond} (h : m_in k w = true) : w ∈ lw_tbl := List.mem_of_getElem? (of_decide_eq_true h)
theorem m_gw_in {k : Nat} {w : Cond} (h : m_gw k w = true) : w ∈ m_gws := by
  unfold m_gw at h
  rw [Bool.and_eq_true] at h
  exact List.mem_filter.mpr ⟨m_in_in h.1, h.2⟩
/-- the words of a method: its code, all good words of the tables -/
def m_ws (M : Nat) : List Cond := .code (m_y M) (m_b M) (m_mx M) (m_rt M) :: m_gws
/-- a method's code word -/
def m_cw (M : Nat) : Cond := .code (m_y M) (m_b M) (m_mx M) (m_rt M)
theorem m_cw_good (M : Nat) : goodWord (m_cw M) = true := rfl
def m_okM (M : Nat) : Bool :=
  m_gw ((m_pk M).getD 1 0) (.initialized (m_R (m_ow M))) && decide ((m_y M).cls = m_R (m_ow M)) && plainName (m_y M).cls &&
  decide ((m_y M).cls ≠ "java/lang/invoke/MethodHandle") && decide ((m_y M).cls ≠ "java/lang/invoke/VarHandle") && decide ((parseMethodDescriptor (m_y M).desc).map (fun d => d.parameters.length) = some (m_np M)) &&
  (bif m_is M then m_gw ((m_pk M).getD 2 0) (.static (m_y M)) else (m_gw ((m_pk M).getD 2 0) (.instanceMethod (m_y M)) && m_gw ((m_pk M).getD 3 0) (.selects (m_R (m_ow M)) (m_y M) (m_y M)) && Nat.blt (m_ow M) 7)) && Nat.ble (m_mx M) 18
/-- how long an instruction is -/
def m_ln : Instr → Nat
  | .bipush _ | .iload _ | .lload _ | .istore _ | .ldc _ => 2
  | .sipush _ | .ldc2_w _ | .iinc _ _ | .goto _ | .ifCond _ _ | .if_icmp _ _ | .getfield _ | .putfield _ | .getstatic _ | .invokevirtual _ | .invokestatic _ => 3
  | _ => 1
def m_lkc (pc : Nat) : List (Int × Int) → List Nat → Bool
  | (_, o) :: ps, t :: ts => decide ((pc : Int) + o = (t : Int)) && m_lkc pc ps ts
  | [], [] => true
  | _, _ => false
def m_okx (M pc : Nat) (e : mE) : Bool := match e with
  | (i, nx, ex, c, c2) => match i with
    | .iconst v => decide (Int32.ofInt v = c) && Nat.beq nx (pc + 1)
    | .bipush v => decide ((Int8.ofInt v).toInt32 = c) && Nat.beq nx (pc + 2)
    | .sipush v => decide ((Int16.ofInt v).toInt32 = c) && Nat.beq nx (pc + 3)
    | .lconst v => decide (Int64.ofNat v.val = c2) && Nat.beq nx (pc + 1)
    | .ldc2_w ix => decide ((m_ow M, ix, c2) ∈ m_LL) && Nat.beq nx (pc + 3)
    | .istore k => Nat.blt k (m_mx M) && Nat.beq nx (pc + 2)
    | .istore_n k => Nat.blt k.val (m_mx M) && Nat.beq nx (pc + 1)
    | .iinc k v => Nat.blt k (m_mx M) && decide (Int32.ofInt v = c) && Nat.beq nx (pc + 3)
    | .goto off => match ex with
      | [t] => decide ((pc : Int) + off = (t : Int)) && Nat.beq nx (pc + 3)
      | _ => false
    | .ifCond _ off => match ex with
      | [t] => decide ((pc : Int) + off = (t : Int)) && Nat.beq nx (pc + 3)
      | _ => false
    | .if_icmp _ off => match ex with
      | [t] => decide ((pc : Int) + off = (t : Int)) && Nat.beq nx (pc + 3)
      | _ => false
    | .tableswitch dflt lo hi offs => decide ((pc : Int) + dflt = ((ex.getD 0 0 : Nat) : Int)) && decide (hi - lo + 1 = ((offs.toList.length : Nat) : Int)) && m_lkc pc (offs.toList.map fun o => (0, o)) (ex.drop 1)
    | .lookupswitch dflt ps => decide ((pc : Int) + dflt = ((ex.getD 0 0 : Nat) : Int)) && (ps.toList.zip (ps.toList.drop 1)).all (fun (a, next) => a.1 < next.1) && m_lkc pc ps.toList (ex.drop 1)
    | .getfield ix => match ex with
      | [c, k, q, kd, g] => (decide ((m_ow M, ix, c, k, 0) ∈ m_FL) || decide ((m_ow M, ix, c, k, 1) ∈ m_FL)) && Nat.beq q (40 * c + k) && decide (m_fd q = (kd, g)) && Nat.blt c 7 && Nat.blt k (m_nf c) && Nat.beq nx (pc + 3)
      | _ => false
    | .putfield ix => match ex with
      | [c, k, q, kd, g] => decide ((m_ow M, ix, c, k, 0) ∈ m_FL) && Nat.beq q (40 * c + k) && decide (m_fd q = (kd, g)) && Nat.blt c 7 && Nat.blt k (m_nf c) && Nat.beq nx (pc + 3)
      | _ => false
    | .getstatic ix => match ex with
      | [g] => decide ((m_ow M, ix, g) ∈ m_SL) && Nat.beq nx (pc + 3)
      | _ => false
    | .ldc ix => match ex with
      | [g] => (decide ((ix, g) ∈ [(31, 600), (43, 601), (45, 602)]) && Nat.beq (m_ow M) 3) && Nat.beq nx (pc + 2)
      | _ => false
    | .invokestatic ix => match ex with
      | [M'] => (decide ((m_ow M, ix, M', 0) ∈ m_ML) || decide ((m_ow M, ix, M', 1) ∈ m_ML)) && Nat.blt M' m_NM && Nat.beq nx (pc + 3)
      | _ => false
    | .invokevirtual ix => match ex with
      | [M'] => ((decide ((m_ow M, ix, M', 0) ∈ m_ML) && Nat.blt M' m_NM) || (Nat.beq M' 9999 && decide ((m_ow M, ix) ∈ m_DL))) && Nat.beq nx (pc + 3)
      | _ => false
    | .ireturn => match ex with
      | [0] => decide (m_rt M = some .int) && Nat.beq nx (pc + 1)
      | [1] => decide (m_rt M = some .boolean) && Nat.beq nx (pc + 1)
      | _ => false
    | .lreturn => decide (m_rt M = some .long) && Nat.beq nx (pc + 1)
    | .return_ => decide (m_rt M = none) && Nat.beq nx (pc + 1)
    | i => Nat.beq nx (pc + m_ln i)
def m_oke (M pc : Nat) (e : mE) : Bool := decide (decode (m_b M) pc = .ok (e.1, e.2.1 - pc)) && Nat.blt pc e.2.1 && m_okx M pc e
def m_okF (q : (Nat × Nat × Nat × Nat × Nat) × Nat) : Bool := match q with
  | ((o, ix, c, k, z), n) => bif Nat.beq z 0 then m_gw n (.fieldLink (m_R o) ix (m_Tt c k).1 (m_Tt c k).2.1 (m_Tt c k).2.2.1) else m_in n (Cond.fieldLinkNest (m_R o) ix (m_Tt c k).1 (m_Tt c k).2.1 (m_Tt c k).2.2.1 "NullKinds")
def m_okL (q : (Nat × Nat × Nat × Nat) × Nat) : Bool := match q with
  | ((o, ix, M', z), n) => bif Nat.beq z 0 then m_gw n (.methodLink (m_R o) ix (m_y M')) else m_in n (Cond.methodLinkNest (m_R o) ix (m_y M') "NullKinds")
def m_sn (g : Nat) : String := bif Nat.beq g 500 then "KINDS_OF_TYPE" else bif Nat.beq g 501 then "KINDS_FOR_CELL" else "KINDS_TO_MOVE_TO"
def m_okS (q : (Nat × Nat × Nat) × Nat) : Bool := match q with
  | ((o, ix, g), n) => m_in n (Cond.fieldLinkNest (m_R o) ix "NullKinds" (m_sn g) "[I" "NullKinds") && Nat.blt 499 g && Nat.blt g 503
def m_okJ (q : (Nat × Nat × Int64) × Nat) : Bool := m_gw q.2 (.constantLong (m_R q.1.1) q.1.2.1 q.1.2.2)
def m_kd (c k : Nat) : Bool := match (m_fd (40 * c + k)).1 with
  | 0 => decide (parseFieldDescriptor (m_Tt c k).2.2.1 = some .int) && !(m_Tt c k).2.2.2
  | 2 => decide (parseFieldDescriptor (m_Tt c k).2.2.1 = some .boolean) && !(m_Tt c k).2.2.2
  | 3 => decide (parseFieldDescriptor (m_Tt c k).2.2.1 = some .long) && !(m_Tt c k).2.2.2 && Nat.beq c 6 && Nat.beq k 9
  | 1 => true
  | _ => false
def m_okC (c : Nat) : Bool := (List.range (m_nf c)).all (fun k => m_gw ((m_up c).getD k 0) (u_lay (m_R c) (m_Tt c) k)) && (List.range (m_nf c)).all (fun k => decide (parseFieldDescriptor (m_Tt c k).2.2.1 = some (m_ty c k)) && m_kd c k) && (List.range (m_nf c)).all (fun a => (List.range (m_nf c)).all (fun b => Nat.beq a b || decide ((m_Tt c a).2.1 ≠ (m_Tt c b).2.1))) && Nat.ble (m_nf c) 40

set_option maxRecDepth 100000 in
theorem ok_F : m_FLc.all m_okF = true := by decide +kernel
set_option maxRecDepth 100000 in
theorem ok_L : m_MLc.all m_okL = true := by decide +kernel
set_option maxRecDepth 100000 in
theorem ok_S : m_SLc.all m_okS = true := by decide +kernel
set_option maxRecDepth 100000 in
theorem ok_J : m_LLc.all m_okJ = true := by decide +kernel
set_option maxRecDepth 100000 in
theorem ok_C : (List.range 7).all m_okC = true := by decide +kernel
set_option maxRecDepth 100000 in
theorem ok_M0 : ∀ j, j < 10 → m_okM (0 + j) = true := by decide +kernel
set_option maxRecDepth 100000 in
theorem cw_0 : (List.range 10).map (fun j => some (m_cw (0 + j))) = [355, 536, 395, 399, 402, 372, 455, 435, 443, 459].map (fun i => lw_tbl[i]?) := by rfl
set_option maxRecDepth 100000 in
theorem ok_M1 : ∀ j, j < 10 → m_okM (10 + j) = true := by decide +kernel
set_option maxRecDepth 100000 in
theorem cw_1 : (List.range 10).map (fun j => some (m_cw (10 + j))) = [406, 467, 502, 339, 528, 347, 351, 368, 516, 387].map (fun i => lw_tbl[i]?) := by rfl
set_option maxRecDepth 100000 in
theorem ok_M2 : ∀ j, j < 10 → m_okM (20 + j) = true := by decide +kernel
set_option maxRecDepth 100000 in
theorem cw_2 : (List.range 10).map (fun j => some (m_cw (20 + j))) = [508, 512, 391, 410, 414, 427, 439, 447, 463, 476].map (fun i => lw_tbl[i]?) := by rfl
set_option maxRecDepth 100000 in
theorem ok_M3 : ∀ j, j < 10 → m_okM (30 + j) = true := by decide +kernel
set_option maxRecDepth 100000 in
theorem cw_3 : (List.range 10).map (fun j => some (m_cw (30 + j))) = [480, 484, 488, 492, 496, 418, 431, 451, 532, 547].map (fun i => lw_tbl[i]?) := by rfl
set_option maxRecDepth 100000 in
theorem ok_M4 : ∀ j, j < 10 → m_okM (40 + j) = true := by decide +kernel
set_option maxRecDepth 100000 in
theorem cw_4 : (List.range 10).map (fun j => some (m_cw (40 + j))) = [556, 322, 581, 603, 707, 719, 727, 711, 595, 657].map (fun i => lw_tbl[i]?) := by rfl
set_option maxRecDepth 100000 in
theorem ok_M5 : ∀ j, j < 10 → m_okM (50 + j) = true := by decide +kernel
set_option maxRecDepth 100000 in
theorem cw_5 : (List.range 10).map (fun j => some (m_cw (50 + j))) = [586, 607, 599, 611, 616, 661, 665, 673, 677, 669].map (fun i => lw_tbl[i]?) := by rfl
set_option maxRecDepth 100000 in
theorem ok_M6 : ∀ j, j < 10 → m_okM (60 + j) = true := by decide +kernel
set_option maxRecDepth 100000 in
theorem cw_6 : (List.range 10).map (fun j => some (m_cw (60 + j))) = [692, 682, 685, 688, 695, 698, 620, 623, 630, 633].map (fun i => lw_tbl[i]?) := by rfl
set_option maxRecDepth 100000 in
theorem ok_M7 : ∀ j, j < 10 → m_okM (70 + j) = true := by decide +kernel
set_option maxRecDepth 100000 in
theorem cw_7 : (List.range 10).map (fun j => some (m_cw (70 + j))) = [639, 636, 643, 648, 653, 255, 299, 326, 335, 311].map (fun i => lw_tbl[i]?) := by rfl
set_option maxRecDepth 100000 in
theorem ok_M8 : ∀ j, j < 10 → m_okM (80 + j) = true := by decide +kernel
set_option maxRecDepth 100000 in
theorem cw_8 : (List.range 10).map (fun j => some (m_cw (80 + j))) = [364, 315, 360, 383, 376, 520, 565, 573, 808, 739].map (fun i => lw_tbl[i]?) := by rfl
set_option maxRecDepth 100000 in
theorem ok_M9 : ∀ j, j < 10 → m_okM (90 + j) = true := by decide +kernel
set_option maxRecDepth 100000 in
theorem cw_9 : (List.range 10).map (fun j => some (m_cw (90 + j))) = [252, 331, 343, 524, 542, 551, 560, 569, 577, 703].map (fun i => lw_tbl[i]?) := by rfl
set_option maxRecDepth 100000 in
theorem ok_M10 : ∀ j, j < 10 → m_okM (100 + j) = true := by decide +kernel
set_option maxRecDepth 100000 in
theorem cw_10 : (List.range 10).map (fun j => some (m_cw (100 + j))) = [715, 723, 302, 305, 379, 423, 590, 627, 913, 921].map (fun i => lw_tbl[i]?) := by rfl
set_option maxRecDepth 100000 in
theorem ok_M11 : ∀ j, j < 10 → m_okM (110 + j) = true := by decide +kernel
set_option maxRecDepth 100000 in
theorem cw_11 : (List.range 10).map (fun j => some (m_cw (110 + j))) = [924, 936, 939, 927, 944, 917, 948, 971, 956, 975].map (fun i => lw_tbl[i]?) := by rfl
set_option maxRecDepth 100000 in
theorem ok_M12 : ∀ j, j < 10 → m_okM (120 + j) = true := by decide +kernel
set_option maxRecDepth 100000 in
theorem cw_12 : (List.range 10).map (fun j => some (m_cw (120 + j))) = [964, 968, 979, 960, 987, 983, 991, 995, 952, 999].map (fun i => lw_tbl[i]?) := by rfl
set_option maxRecDepth 100000 in
theorem ok_M13 : ∀ j, j < 10 → m_okM (130 + j) = true := by decide +kernel
set_option maxRecDepth 100000 in
theorem cw_13 : (List.range 10).map (fun j => some (m_cw (130 + j))) = [1004, 1008, 1012, 1016, 1035, 1043, 1032, 1039, 1046, 1028].map (fun i => lw_tbl[i]?) := by rfl
set_option maxRecDepth 100000 in
theorem ok_M14 : ∀ j, j < 10 → m_okM (140 + j) = true := by decide +kernel
set_option maxRecDepth 100000 in
theorem cw_14 : (List.range 10).map (fun j => some (m_cw (140 + j))) = [1050, 1053, 1057, 1024, 1020, 1061, 1065, 1069, 1074, 318].map (fun i => lw_tbl[i]?) := by rfl
theorem m_cw_at {a : Nat} {ps : List Nat} (h : (List.range 10).map (fun j => some (m_cw (a + j))) = ps.map (fun i => lw_tbl[i]?)) {j : Nat} (hj : j < 10) : m_cw (a + j) ∈ lw_tbl := by
  have h1 : ((List.range 10).map (fun j => some (m_cw (a + j))))[j]? = some (some (m_cw (a + j))) := by
    rw [List.getElem?_map, List.getElem?_range hj]; rfl
  rw [h, List.getElem?_map] at h1
  cases hp : ps[j]? with
  | none => rw [hp] at h1; cases h1
  | some i => rw [hp] at h1; exact List.mem_of_getElem? (Option.some.inj h1)
theorem ok_M {M : Nat} (h : M < m_NM) : m_okM M = true ∧ m_cw M ∈ lw_tbl := by
  have hd : M = 10 * (M / 10) + M % 10 := by omega
  have hm : M % 10 < 10 := by omega
  have hq : M / 10 < 15 := by have h2 : M < 150 := h; omega
  generalize M / 10 = q at hd hq
  generalize M % 10 = j at hd hm
  subst hd
  match q, hq with
  | 0, _ => exact ⟨ok_M0 j hm, m_cw_at cw_0 hm⟩
  | 1, _ => exact ⟨ok_M1 j hm, m_cw_at cw_1 hm⟩
  | 2, _ => exact ⟨ok_M2 j hm, m_cw_at cw_2 hm⟩
  | 3, _ => exact ⟨ok_M3 j hm, m_cw_at cw_3 hm⟩
  | 4, _ => exact ⟨ok_M4 j hm, m_cw_at cw_4 hm⟩
  | 5, _ => exact ⟨ok_M5 j hm, m_cw_at cw_5 hm⟩
  | 6, _ => exact ⟨ok_M6 j hm, m_cw_at cw_6 hm⟩
  | 7, _ => exact ⟨ok_M7 j hm, m_cw_at cw_7 hm⟩
  | 8, _ => exact ⟨ok_M8 j hm, m_cw_at cw_8 hm⟩
  | 9, _ => exact ⟨ok_M9 j hm, m_cw_at cw_9 hm⟩
  | 10, _ => exact ⟨ok_M10 j hm, m_cw_at cw_10 hm⟩
  | 11, _ => exact ⟨ok_M11 j hm, m_cw_at cw_11 hm⟩
  | 12, _ => exact ⟨ok_M12 j hm, m_cw_at cw_12 hm⟩
  | 13, _ => exact ⟨ok_M13 j hm, m_cw_at cw_13 hm⟩
  | 14, _ => exact ⟨ok_M14 j hm, m_cw_at cw_14 hm⟩
end
section
def m_okr (M a : Nat) : Bool := (List.range 96).all (fun j => match m_code M (96 * a + j) with
  | some e => m_oke M (96 * a + j) e
  | none => true)
set_option maxRecDepth 100000 in
theorem r_0_0 : m_okr 0 0 = true := by decide +kernel
set_option maxRecDepth 100000 in
theorem r_1_0 : m_okr 1 0 = true := by decide +kernel
set_option maxRecDepth 100000 in
theorem r_2_0 : m_okr 2 0 = true := by decide +kernel
set_option maxRecDepth 100000 in
theorem r_3_0 : m_okr 3 0 = true := by decide +kernel
set_option maxRecDepth 100000 in
theorem r_4_0 : m_okr 4 0 = true := by decide +kernel
set_option maxRecDepth 100000 in
theorem r_5_0 : m_okr 5 0 = true := by decide +kernel
set_option maxRecDepth 100000 in
theorem r_6_0 : m_okr 6 0 = true := by decide +kernel
set_option maxRecDepth 100000 in
theorem r_7_0 : m_okr 7 0 = true := by decide +kernel
set_option maxRecDepth 100000 in
theorem r_8_0 : m_okr 8 0 = true := by decide +kernel
set_option maxRecDepth 100000 in
theorem r_9_0 : m_okr 9 0 = true := by decide +kernel
set_option maxRecDepth 100000 in
theorem r_10_0 : m_okr 10 0 = true := by decide +kernel
set_option maxRecDepth 100000 in
theorem r_11_0 : m_okr 11 0 = true := by decide +kernel
set_option maxRecDepth 100000 in
theorem r_12_0 : m_okr 12 0 = true := by decide +kernel
set_option maxRecDepth 100000 in
theorem r_12_1 : m_okr 12 1 = true := by decide +kernel
set_option maxRecDepth 100000 in
theorem r_13_0 : m_okr 13 0 = true := by decide +kernel
set_option maxRecDepth 100000 in
theorem r_14_0 : m_okr 14 0 = true := by decide +kernel
set_option maxRecDepth 100000 in
theorem r_15_0 : m_okr 15 0 = true := by decide +kernel
set_option maxRecDepth 100000 in
theorem r_16_0 : m_okr 16 0 = true := by decide +kernel
set_option maxRecDepth 100000 in
theorem r_17_0 : m_okr 17 0 = true := by decide +kernel
set_option maxRecDepth 100000 in
theorem r_17_1 : m_okr 17 1 = true := by decide +kernel
set_option maxRecDepth 100000 in
theorem r_18_0 : m_okr 18 0 = true := by decide +kernel
set_option maxRecDepth 100000 in
theorem r_19_0 : m_okr 19 0 = true := by decide +kernel
set_option maxRecDepth 100000 in
theorem r_19_1 : m_okr 19 1 = true := by decide +kernel
set_option maxRecDepth 100000 in
theorem r_19_2 : m_okr 19 2 = true := by decide +kernel
set_option maxRecDepth 100000 in
theorem r_19_3 : m_okr 19 3 = true := by decide +kernel
set_option maxRecDepth 100000 in
theorem r_20_0 : m_okr 20 0 = true := by decide +kernel
set_option maxRecDepth 100000 in
theorem r_20_1 : m_okr 20 1 = true := by decide +kernel
set_option maxRecDepth 100000 in
theorem r_20_2 : m_okr 20 2 = true := by decide +kernel
set_option maxRecDepth 100000 in
theorem r_21_0 : m_okr 21 0 = true := by decide +kernel
set_option maxRecDepth 100000 in
theorem r_22_0 : m_okr 22 0 = true := by decide +kernel
set_option maxRecDepth 100000 in
theorem r_23_0 : m_okr 23 0 = true := by decide +kernel
set_option maxRecDepth 100000 in
theorem r_24_0 : m_okr 24 0 = true := by decide +kernel
set_option maxRecDepth 100000 in
theorem r_25_0 : m_okr 25 0 = true := by decide +kernel
set_option maxRecDepth 100000 in
theorem r_26_0 : m_okr 26 0 = true := by decide +kernel
set_option maxRecDepth 100000 in
theorem r_27_0 : m_okr 27 0 = true := by decide +kernel
set_option maxRecDepth 100000 in
theorem r_28_0 : m_okr 28 0 = true := by decide +kernel
set_option maxRecDepth 100000 in
theorem r_29_0 : m_okr 29 0 = true := by decide +kernel
set_option maxRecDepth 100000 in
theorem r_30_0 : m_okr 30 0 = true := by decide +kernel
set_option maxRecDepth 100000 in
theorem r_31_0 : m_okr 31 0 = true := by decide +kernel
set_option maxRecDepth 100000 in
theorem r_32_0 : m_okr 32 0 = true := by decide +kernel
set_option maxRecDepth 100000 in
theorem r_33_0 : m_okr 33 0 = true := by decide +kernel
set_option maxRecDepth 100000 in
theorem r_34_0 : m_okr 34 0 = true := by decide +kernel
set_option maxRecDepth 100000 in
theorem r_34_1 : m_okr 34 1 = true := by decide +kernel
set_option maxRecDepth 100000 in
theorem r_35_0 : m_okr 35 0 = true := by decide +kernel
set_option maxRecDepth 100000 in
theorem r_36_0 : m_okr 36 0 = true := by decide +kernel
set_option maxRecDepth 100000 in
theorem r_37_0 : m_okr 37 0 = true := by decide +kernel
set_option maxRecDepth 100000 in
theorem r_38_0 : m_okr 38 0 = true := by decide +kernel
set_option maxRecDepth 100000 in
theorem r_39_0 : m_okr 39 0 = true := by decide +kernel
set_option maxRecDepth 100000 in
theorem r_39_1 : m_okr 39 1 = true := by decide +kernel
set_option maxRecDepth 100000 in
theorem r_40_0 : m_okr 40 0 = true := by decide +kernel
set_option maxRecDepth 100000 in
theorem r_41_0 : m_okr 41 0 = true := by decide +kernel
set_option maxRecDepth 100000 in
theorem r_42_0 : m_okr 42 0 = true := by decide +kernel
set_option maxRecDepth 100000 in
theorem r_42_1 : m_okr 42 1 = true := by decide +kernel
set_option maxRecDepth 100000 in
theorem r_43_0 : m_okr 43 0 = true := by decide +kernel
set_option maxRecDepth 100000 in
theorem r_44_0 : m_okr 44 0 = true := by decide +kernel
set_option maxRecDepth 100000 in
theorem r_45_0 : m_okr 45 0 = true := by decide +kernel
set_option maxRecDepth 100000 in
theorem r_46_0 : m_okr 46 0 = true := by decide +kernel
set_option maxRecDepth 100000 in
theorem r_47_0 : m_okr 47 0 = true := by decide +kernel
set_option maxRecDepth 100000 in
theorem r_48_0 : m_okr 48 0 = true := by decide +kernel
set_option maxRecDepth 100000 in
theorem r_49_0 : m_okr 49 0 = true := by decide +kernel
set_option maxRecDepth 100000 in
theorem r_50_0 : m_okr 50 0 = true := by decide +kernel
set_option maxRecDepth 100000 in
theorem r_50_1 : m_okr 50 1 = true := by decide +kernel
set_option maxRecDepth 100000 in
theorem r_51_0 : m_okr 51 0 = true := by decide +kernel
set_option maxRecDepth 100000 in
theorem r_52_0 : m_okr 52 0 = true := by decide +kernel
set_option maxRecDepth 100000 in
theorem r_52_1 : m_okr 52 1 = true := by decide +kernel
set_option maxRecDepth 100000 in
theorem r_53_0 : m_okr 53 0 = true := by decide +kernel
set_option maxRecDepth 100000 in
theorem r_54_0 : m_okr 54 0 = true := by decide +kernel
set_option maxRecDepth 100000 in
theorem r_55_0 : m_okr 55 0 = true := by decide +kernel
set_option maxRecDepth 100000 in
theorem r_55_1 : m_okr 55 1 = true := by decide +kernel
set_option maxRecDepth 100000 in
theorem r_56_0 : m_okr 56 0 = true := by decide +kernel
set_option maxRecDepth 100000 in
theorem r_57_0 : m_okr 57 0 = true := by decide +kernel
set_option maxRecDepth 100000 in
theorem r_57_1 : m_okr 57 1 = true := by decide +kernel
set_option maxRecDepth 100000 in
theorem r_57_2 : m_okr 57 2 = true := by decide +kernel
set_option maxRecDepth 100000 in
theorem r_57_3 : m_okr 57 3 = true := by decide +kernel
set_option maxRecDepth 100000 in
theorem r_58_0 : m_okr 58 0 = true := by decide +kernel
set_option maxRecDepth 100000 in
theorem r_59_0 : m_okr 59 0 = true := by decide +kernel
set_option maxRecDepth 100000 in
theorem r_60_0 : m_okr 60 0 = true := by decide +kernel
set_option maxRecDepth 100000 in
theorem r_61_0 : m_okr 61 0 = true := by decide +kernel
set_option maxRecDepth 100000 in
theorem r_62_0 : m_okr 62 0 = true := by decide +kernel
set_option maxRecDepth 100000 in
theorem r_63_0 : m_okr 63 0 = true := by decide +kernel
set_option maxRecDepth 100000 in
theorem r_64_0 : m_okr 64 0 = true := by decide +kernel
set_option maxRecDepth 100000 in
theorem r_65_0 : m_okr 65 0 = true := by decide +kernel
set_option maxRecDepth 100000 in
theorem r_66_0 : m_okr 66 0 = true := by decide +kernel
set_option maxRecDepth 100000 in
theorem r_66_1 : m_okr 66 1 = true := by decide +kernel
set_option maxRecDepth 100000 in
theorem r_66_2 : m_okr 66 2 = true := by decide +kernel
set_option maxRecDepth 100000 in
theorem r_67_0 : m_okr 67 0 = true := by decide +kernel
set_option maxRecDepth 100000 in
theorem r_68_0 : m_okr 68 0 = true := by decide +kernel
set_option maxRecDepth 100000 in
theorem r_69_0 : m_okr 69 0 = true := by decide +kernel
set_option maxRecDepth 100000 in
theorem r_70_0 : m_okr 70 0 = true := by decide +kernel
set_option maxRecDepth 100000 in
theorem r_71_0 : m_okr 71 0 = true := by decide +kernel
set_option maxRecDepth 100000 in
theorem r_72_0 : m_okr 72 0 = true := by decide +kernel
set_option maxRecDepth 100000 in
theorem r_73_0 : m_okr 73 0 = true := by decide +kernel
set_option maxRecDepth 100000 in
theorem r_73_1 : m_okr 73 1 = true := by decide +kernel
set_option maxRecDepth 100000 in
theorem r_74_0 : m_okr 74 0 = true := by decide +kernel
set_option maxRecDepth 100000 in
theorem r_75_0 : m_okr 75 0 = true := by decide +kernel
set_option maxRecDepth 100000 in
theorem r_76_0 : m_okr 76 0 = true := by decide +kernel
set_option maxRecDepth 100000 in
theorem r_76_1 : m_okr 76 1 = true := by decide +kernel
set_option maxRecDepth 100000 in
theorem r_77_0 : m_okr 77 0 = true := by decide +kernel
set_option maxRecDepth 100000 in
theorem r_78_0 : m_okr 78 0 = true := by decide +kernel
set_option maxRecDepth 100000 in
theorem r_79_0 : m_okr 79 0 = true := by decide +kernel
set_option maxRecDepth 100000 in
theorem r_80_0 : m_okr 80 0 = true := by decide +kernel
set_option maxRecDepth 100000 in
theorem r_81_0 : m_okr 81 0 = true := by decide +kernel
set_option maxRecDepth 100000 in
theorem r_82_0 : m_okr 82 0 = true := by decide +kernel
set_option maxRecDepth 100000 in
theorem r_83_0 : m_okr 83 0 = true := by decide +kernel
set_option maxRecDepth 100000 in
theorem r_84_0 : m_okr 84 0 = true := by decide +kernel
set_option maxRecDepth 100000 in
theorem r_85_0 : m_okr 85 0 = true := by decide +kernel
set_option maxRecDepth 100000 in
theorem r_86_0 : m_okr 86 0 = true := by decide +kernel
set_option maxRecDepth 100000 in
theorem r_87_0 : m_okr 87 0 = true := by decide +kernel
set_option maxRecDepth 100000 in
theorem r_88_0 : m_okr 88 0 = true := by decide +kernel
set_option maxRecDepth 100000 in
theorem r_89_0 : m_okr 89 0 = true := by decide +kernel
set_option maxRecDepth 100000 in
theorem r_90_0 : m_okr 90 0 = true := by decide +kernel
set_option maxRecDepth 100000 in
theorem r_91_0 : m_okr 91 0 = true := by decide +kernel
set_option maxRecDepth 100000 in
theorem r_92_0 : m_okr 92 0 = true := by decide +kernel
set_option maxRecDepth 100000 in
theorem r_93_0 : m_okr 93 0 = true := by decide +kernel
set_option maxRecDepth 100000 in
theorem r_94_0 : m_okr 94 0 = true := by decide +kernel
set_option maxRecDepth 100000 in
theorem r_95_0 : m_okr 95 0 = true := by decide +kernel
set_option maxRecDepth 100000 in
theorem r_96_0 : m_okr 96 0 = true := by decide +kernel
set_option maxRecDepth 100000 in
theorem r_97_0 : m_okr 97 0 = true := by decide +kernel
set_option maxRecDepth 100000 in
theorem r_98_0 : m_okr 98 0 = true := by decide +kernel
set_option maxRecDepth 100000 in
theorem r_99_0 : m_okr 99 0 = true := by decide +kernel
set_option maxRecDepth 100000 in
theorem r_100_0 : m_okr 100 0 = true := by decide +kernel
set_option maxRecDepth 100000 in
theorem r_101_0 : m_okr 101 0 = true := by decide +kernel
set_option maxRecDepth 100000 in
theorem r_102_0 : m_okr 102 0 = true := by decide +kernel
set_option maxRecDepth 100000 in
theorem r_103_0 : m_okr 103 0 = true := by decide +kernel
set_option maxRecDepth 100000 in
theorem r_104_0 : m_okr 104 0 = true := by decide +kernel
set_option maxRecDepth 100000 in
theorem r_105_0 : m_okr 105 0 = true := by decide +kernel
set_option maxRecDepth 100000 in
theorem r_106_0 : m_okr 106 0 = true := by decide +kernel
set_option maxRecDepth 100000 in
theorem r_107_0 : m_okr 107 0 = true := by decide +kernel
set_option maxRecDepth 100000 in
theorem r_108_0 : m_okr 108 0 = true := by decide +kernel
set_option maxRecDepth 100000 in
theorem r_109_0 : m_okr 109 0 = true := by decide +kernel
set_option maxRecDepth 100000 in
theorem r_110_0 : m_okr 110 0 = true := by decide +kernel
set_option maxRecDepth 100000 in
theorem r_111_0 : m_okr 111 0 = true := by decide +kernel
set_option maxRecDepth 100000 in
theorem r_111_1 : m_okr 111 1 = true := by decide +kernel
set_option maxRecDepth 100000 in
theorem r_112_0 : m_okr 112 0 = true := by decide +kernel
set_option maxRecDepth 100000 in
theorem r_112_1 : m_okr 112 1 = true := by decide +kernel
set_option maxRecDepth 100000 in
theorem r_113_0 : m_okr 113 0 = true := by decide +kernel
set_option maxRecDepth 100000 in
theorem r_113_1 : m_okr 113 1 = true := by decide +kernel
set_option maxRecDepth 100000 in
theorem r_114_0 : m_okr 114 0 = true := by decide +kernel
set_option maxRecDepth 100000 in
theorem r_115_0 : m_okr 115 0 = true := by decide +kernel
set_option maxRecDepth 100000 in
theorem r_115_1 : m_okr 115 1 = true := by decide +kernel
set_option maxRecDepth 100000 in
theorem r_116_0 : m_okr 116 0 = true := by decide +kernel
set_option maxRecDepth 100000 in
theorem r_117_0 : m_okr 117 0 = true := by decide +kernel
set_option maxRecDepth 100000 in
theorem r_117_1 : m_okr 117 1 = true := by decide +kernel
set_option maxRecDepth 100000 in
theorem r_118_0 : m_okr 118 0 = true := by decide +kernel
set_option maxRecDepth 100000 in
theorem r_119_0 : m_okr 119 0 = true := by decide +kernel
set_option maxRecDepth 100000 in
theorem r_120_0 : m_okr 120 0 = true := by decide +kernel
set_option maxRecDepth 100000 in
theorem r_121_0 : m_okr 121 0 = true := by decide +kernel
set_option maxRecDepth 100000 in
theorem r_122_0 : m_okr 122 0 = true := by decide +kernel
set_option maxRecDepth 100000 in
theorem r_123_0 : m_okr 123 0 = true := by decide +kernel
set_option maxRecDepth 100000 in
theorem r_123_1 : m_okr 123 1 = true := by decide +kernel
set_option maxRecDepth 100000 in
theorem r_123_2 : m_okr 123 2 = true := by decide +kernel
set_option maxRecDepth 100000 in
theorem r_123_3 : m_okr 123 3 = true := by decide +kernel
set_option maxRecDepth 100000 in
theorem r_123_4 : m_okr 123 4 = true := by decide +kernel
set_option maxRecDepth 100000 in
theorem r_123_5 : m_okr 123 5 = true := by decide +kernel
set_option maxRecDepth 100000 in
theorem r_124_0 : m_okr 124 0 = true := by decide +kernel
set_option maxRecDepth 100000 in
theorem r_125_0 : m_okr 125 0 = true := by decide +kernel
set_option maxRecDepth 100000 in
theorem r_125_1 : m_okr 125 1 = true := by decide +kernel
set_option maxRecDepth 100000 in
theorem r_126_0 : m_okr 126 0 = true := by decide +kernel
set_option maxRecDepth 100000 in
theorem r_126_1 : m_okr 126 1 = true := by decide +kernel
set_option maxRecDepth 100000 in
theorem r_126_2 : m_okr 126 2 = true := by decide +kernel
set_option maxRecDepth 100000 in
theorem r_126_3 : m_okr 126 3 = true := by decide +kernel
set_option maxRecDepth 100000 in
theorem r_126_4 : m_okr 126 4 = true := by decide +kernel
set_option maxRecDepth 100000 in
theorem r_127_0 : m_okr 127 0 = true := by decide +kernel
set_option maxRecDepth 100000 in
theorem r_127_1 : m_okr 127 1 = true := by decide +kernel
set_option maxRecDepth 100000 in
theorem r_127_2 : m_okr 127 2 = true := by decide +kernel
set_option maxRecDepth 100000 in
theorem r_127_3 : m_okr 127 3 = true := by decide +kernel
set_option maxRecDepth 100000 in
theorem r_128_0 : m_okr 128 0 = true := by decide +kernel
set_option maxRecDepth 100000 in
theorem r_128_1 : m_okr 128 1 = true := by decide +kernel
set_option maxRecDepth 100000 in
theorem r_128_2 : m_okr 128 2 = true := by decide +kernel
set_option maxRecDepth 100000 in
theorem r_128_3 : m_okr 128 3 = true := by decide +kernel
set_option maxRecDepth 100000 in
theorem r_129_0 : m_okr 129 0 = true := by decide +kernel
set_option maxRecDepth 100000 in
theorem r_130_0 : m_okr 130 0 = true := by decide +kernel
set_option maxRecDepth 100000 in
theorem r_130_1 : m_okr 130 1 = true := by decide +kernel
set_option maxRecDepth 100000 in
theorem r_131_0 : m_okr 131 0 = true := by decide +kernel
set_option maxRecDepth 100000 in
theorem r_132_0 : m_okr 132 0 = true := by decide +kernel
set_option maxRecDepth 100000 in
theorem r_133_0 : m_okr 133 0 = true := by decide +kernel
set_option maxRecDepth 100000 in
theorem r_134_0 : m_okr 134 0 = true := by decide +kernel
set_option maxRecDepth 100000 in
theorem r_135_0 : m_okr 135 0 = true := by decide +kernel
set_option maxRecDepth 100000 in
theorem r_136_0 : m_okr 136 0 = true := by decide +kernel
set_option maxRecDepth 100000 in
theorem r_137_0 : m_okr 137 0 = true := by decide +kernel
set_option maxRecDepth 100000 in
theorem r_137_1 : m_okr 137 1 = true := by decide +kernel
set_option maxRecDepth 100000 in
theorem r_138_0 : m_okr 138 0 = true := by decide +kernel
set_option maxRecDepth 100000 in
theorem r_139_0 : m_okr 139 0 = true := by decide +kernel
set_option maxRecDepth 100000 in
theorem r_139_1 : m_okr 139 1 = true := by decide +kernel
set_option maxRecDepth 100000 in
theorem r_139_2 : m_okr 139 2 = true := by decide +kernel
set_option maxRecDepth 100000 in
theorem r_139_3 : m_okr 139 3 = true := by decide +kernel
set_option maxRecDepth 100000 in
theorem r_139_4 : m_okr 139 4 = true := by decide +kernel
set_option maxRecDepth 100000 in
theorem r_139_5 : m_okr 139 5 = true := by decide +kernel
set_option maxRecDepth 100000 in
theorem r_139_6 : m_okr 139 6 = true := by decide +kernel
set_option maxRecDepth 100000 in
theorem r_139_7 : m_okr 139 7 = true := by decide +kernel
set_option maxRecDepth 100000 in
theorem r_139_8 : m_okr 139 8 = true := by decide +kernel
set_option maxRecDepth 100000 in
theorem r_140_0 : m_okr 140 0 = true := by decide +kernel
set_option maxRecDepth 100000 in
theorem r_140_1 : m_okr 140 1 = true := by decide +kernel
set_option maxRecDepth 100000 in
theorem r_140_2 : m_okr 140 2 = true := by decide +kernel
set_option maxRecDepth 100000 in
theorem r_140_3 : m_okr 140 3 = true := by decide +kernel
set_option maxRecDepth 100000 in
theorem r_140_4 : m_okr 140 4 = true := by decide +kernel
set_option maxRecDepth 100000 in
theorem r_141_0 : m_okr 141 0 = true := by decide +kernel
set_option maxRecDepth 100000 in
theorem r_142_0 : m_okr 142 0 = true := by decide +kernel
set_option maxRecDepth 100000 in
theorem r_142_1 : m_okr 142 1 = true := by decide +kernel
set_option maxRecDepth 100000 in
theorem r_142_2 : m_okr 142 2 = true := by decide +kernel
set_option maxRecDepth 100000 in
theorem r_143_0 : m_okr 143 0 = true := by decide +kernel
set_option maxRecDepth 100000 in
theorem r_143_1 : m_okr 143 1 = true := by decide +kernel
set_option maxRecDepth 100000 in
theorem r_143_2 : m_okr 143 2 = true := by decide +kernel
set_option maxRecDepth 100000 in
theorem r_144_0 : m_okr 144 0 = true := by decide +kernel
set_option maxRecDepth 100000 in
theorem r_145_0 : m_okr 145 0 = true := by decide +kernel
set_option maxRecDepth 100000 in
theorem r_146_0 : m_okr 146 0 = true := by decide +kernel
set_option maxRecDepth 100000 in
theorem r_146_1 : m_okr 146 1 = true := by decide +kernel
set_option maxRecDepth 100000 in
theorem r_147_0 : m_okr 147 0 = true := by decide +kernel
set_option maxRecDepth 100000 in
theorem r_148_0 : m_okr 148 0 = true := by decide +kernel
set_option maxRecDepth 100000 in
theorem r_149_0 : m_okr 149 0 = true := by decide +kernel
def m_P0 : List (Nat × Nat) := [(0, 0), (1, 0), (2, 0), (3, 0), (4, 0), (5, 0), (6, 0), (7, 0), (8, 0), (9, 0), (10, 0), (11, 0), (12, 0), (12, 1), (13, 0), (14, 0)]
theorem r_P0 : ∀ q ∈ m_P0, m_okr q.1 q.2 = true := List.forall_mem_cons.mpr ⟨r_0_0, List.forall_mem_cons.mpr ⟨r_1_0, List.forall_mem_cons.mpr ⟨r_2_0, List.forall_mem_cons.mpr ⟨r_3_0, List.forall_mem_cons.mpr ⟨r_4_0, List.forall_mem_cons.mpr ⟨r_5_0, List.forall_mem_cons.mpr ⟨r_6_0, List.forall_mem_cons.mpr ⟨r_7_0, List.forall_mem_cons.mpr ⟨r_8_0, List.forall_mem_cons.mpr ⟨r_9_0, List.forall_mem_cons.mpr ⟨r_10_0, List.forall_mem_cons.mpr ⟨r_11_0, List.forall_mem_cons.mpr ⟨r_12_0, List.forall_mem_cons.mpr ⟨r_12_1, List.forall_mem_cons.mpr ⟨r_13_0, List.forall_mem_cons.mpr ⟨r_14_0, fun _ h => absurd h List.not_mem_nil⟩⟩⟩⟩⟩⟩⟩⟩⟩⟩⟩⟩⟩⟩⟩⟩
def m_P1 : List (Nat × Nat) := [(15, 0), (16, 0), (17, 0), (17, 1), (18, 0), (19, 0), (19, 1), (19, 2), (19, 3), (20, 0), (20, 1), (20, 2), (21, 0), (22, 0), (23, 0), (24, 0)]
theorem r_P1 : ∀ q ∈ m_P1, m_okr q.1 q.2 = true := List.forall_mem_cons.mpr ⟨r_15_0, List.forall_mem_cons.mpr ⟨r_16_0, List.forall_mem_cons.mpr ⟨r_17_0, List.forall_mem_cons.mpr ⟨r_17_1, List.forall_mem_cons.mpr ⟨r_18_0, List.forall_mem_cons.mpr ⟨r_19_0, List.forall_mem_cons.mpr ⟨r_19_1, List.forall_mem_cons.mpr ⟨r_19_2, List.forall_mem_cons.mpr ⟨r_19_3, List.forall_mem_cons.mpr ⟨r_20_0, List.forall_mem_cons.mpr ⟨r_20_1, List.forall_mem_cons.mpr ⟨r_20_2, List.forall_mem_cons.mpr ⟨r_21_0, List.forall_mem_cons.mpr ⟨r_22_0, List.forall_mem_cons.mpr ⟨r_23_0, List.forall_mem_cons.mpr ⟨r_24_0, fun _ h => absurd h List.not_mem_nil⟩⟩⟩⟩⟩⟩⟩⟩⟩⟩⟩⟩⟩⟩⟩⟩
def m_P2 : List (Nat × Nat) := [(25, 0), (26, 0), (27, 0), (28, 0), (29, 0), (30, 0), (31, 0), (32, 0), (33, 0), (34, 0), (34, 1), (35, 0), (36, 0), (37, 0), (38, 0), (39, 0)]
theorem r_P2 : ∀ q ∈ m_P2, m_okr q.1 q.2 = true := List.forall_mem_cons.mpr ⟨r_25_0, List.forall_mem_cons.mpr ⟨r_26_0, List.forall_mem_cons.mpr ⟨r_27_0, List.forall_mem_cons.mpr ⟨r_28_0, List.forall_mem_cons.mpr ⟨r_29_0, List.forall_mem_cons.mpr ⟨r_30_0, List.forall_mem_cons.mpr ⟨r_31_0, List.forall_mem_cons.mpr ⟨r_32_0, List.forall_mem_cons.mpr ⟨r_33_0, List.forall_mem_cons.mpr ⟨r_34_0, List.forall_mem_cons.mpr ⟨r_34_1, List.forall_mem_cons.mpr ⟨r_35_0, List.forall_mem_cons.mpr ⟨r_36_0, List.forall_mem_cons.mpr ⟨r_37_0, List.forall_mem_cons.mpr ⟨r_38_0, List.forall_mem_cons.mpr ⟨r_39_0, fun _ h => absurd h List.not_mem_nil⟩⟩⟩⟩⟩⟩⟩⟩⟩⟩⟩⟩⟩⟩⟩⟩
def m_P3 : List (Nat × Nat) := [(39, 1), (40, 0), (41, 0), (42, 0), (42, 1), (43, 0), (44, 0), (45, 0), (46, 0), (47, 0), (48, 0), (49, 0), (50, 0), (50, 1), (51, 0), (52, 0)]
theorem r_P3 : ∀ q ∈ m_P3, m_okr q.1 q.2 = true := List.forall_mem_cons.mpr ⟨r_39_1, List.forall_mem_cons.mpr ⟨r_40_0, List.forall_mem_cons.mpr ⟨r_41_0, List.forall_mem_cons.mpr ⟨r_42_0, List.forall_mem_cons.mpr ⟨r_42_1, List.forall_mem_cons.mpr ⟨r_43_0, List.forall_mem_cons.mpr ⟨r_44_0, List.forall_mem_cons.mpr ⟨r_45_0, List.forall_mem_cons.mpr ⟨r_46_0, List.forall_mem_cons.mpr ⟨r_47_0, List.forall_mem_cons.mpr ⟨r_48_0, List.forall_mem_cons.mpr ⟨r_49_0, List.forall_mem_cons.mpr ⟨r_50_0, List.forall_mem_cons.mpr ⟨r_50_1, List.forall_mem_cons.mpr ⟨r_51_0, List.forall_mem_cons.mpr ⟨r_52_0, fun _ h => absurd h List.not_mem_nil⟩⟩⟩⟩⟩⟩⟩⟩⟩⟩⟩⟩⟩⟩⟩⟩
def m_P4 : List (Nat × Nat) := [(52, 1), (53, 0), (54, 0), (55, 0), (55, 1), (56, 0), (57, 0), (57, 1), (57, 2), (57, 3), (58, 0), (59, 0), (60, 0), (61, 0), (62, 0), (63, 0)]
theorem r_P4 : ∀ q ∈ m_P4, m_okr q.1 q.2 = true := List.forall_mem_cons.mpr ⟨r_52_1, List.forall_mem_cons.mpr ⟨r_53_0, List.forall_mem_cons.mpr ⟨r_54_0, List.forall_mem_cons.mpr ⟨r_55_0, List.forall_mem_cons.mpr ⟨r_55_1, List.forall_mem_cons.mpr ⟨r_56_0, List.forall_mem_cons.mpr ⟨r_57_0, List.forall_mem_cons.mpr ⟨r_57_1, List.forall_mem_cons.mpr ⟨r_57_2, List.forall_mem_cons.mpr ⟨r_57_3, List.forall_mem_cons.mpr ⟨r_58_0, List.forall_mem_cons.mpr ⟨r_59_0, List.forall_mem_cons.mpr ⟨r_60_0, List.forall_mem_cons.mpr ⟨r_61_0, List.forall_mem_cons.mpr ⟨r_62_0, List.forall_mem_cons.mpr ⟨r_63_0, fun _ h => absurd h List.not_mem_nil⟩⟩⟩⟩⟩⟩⟩⟩⟩⟩⟩⟩⟩⟩⟩⟩
def m_P5 : List (Nat × Nat) := [(64, 0), (65, 0), (66, 0), (66, 1), (66, 2), (67, 0), (68, 0), (69, 0), (70, 0), (71, 0), (72, 0), (73, 0), (73, 1), (74, 0), (75, 0), (76, 0)]
theorem r_P5 : ∀ q ∈ m_P5, m_okr q.1 q.2 = true := List.forall_mem_cons.mpr ⟨r_64_0, List.forall_mem_cons.mpr ⟨r_65_0, List.forall_mem_cons.mpr ⟨r_66_0, List.forall_mem_cons.mpr ⟨r_66_1, List.forall_mem_cons.mpr ⟨r_66_2, List.forall_mem_cons.mpr ⟨r_67_0, List.forall_mem_cons.mpr ⟨r_68_0, List.forall_mem_cons.mpr ⟨r_69_0, List.forall_mem_cons.mpr ⟨r_70_0, List.forall_mem_cons.mpr ⟨r_71_0, List.forall_mem_cons.mpr ⟨r_72_0, List.forall_mem_cons.mpr ⟨r_73_0, List.forall_mem_cons.mpr ⟨r_73_1, List.forall_mem_cons.mpr ⟨r_74_0, List.forall_mem_cons.mpr ⟨r_75_0, List.forall_mem_cons.mpr ⟨r_76_0, fun _ h => absurd h List.not_mem_nil⟩⟩⟩⟩⟩⟩⟩⟩⟩⟩⟩⟩⟩⟩⟩⟩
def m_P6 : List (Nat × Nat) := [(76, 1), (77, 0), (78, 0), (79, 0), (80, 0), (81, 0), (82, 0), (83, 0), (84, 0), (85, 0), (86, 0), (87, 0), (88, 0), (89, 0), (90, 0), (91, 0)]
theorem r_P6 : ∀ q ∈ m_P6, m_okr q.1 q.2 = true := List.forall_mem_cons.mpr ⟨r_76_1, List.forall_mem_cons.mpr ⟨r_77_0, List.forall_mem_cons.mpr ⟨r_78_0, List.forall_mem_cons.mpr ⟨r_79_0, List.forall_mem_cons.mpr ⟨r_80_0, List.forall_mem_cons.mpr ⟨r_81_0, List.forall_mem_cons.mpr ⟨r_82_0, List.forall_mem_cons.mpr ⟨r_83_0, List.forall_mem_cons.mpr ⟨r_84_0, List.forall_mem_cons.mpr ⟨r_85_0, List.forall_mem_cons.mpr ⟨r_86_0, List.forall_mem_cons.mpr ⟨r_87_0, List.forall_mem_cons.mpr ⟨r_88_0, List.forall_mem_cons.mpr ⟨r_89_0, List.forall_mem_cons.mpr ⟨r_90_0, List.forall_mem_cons.mpr ⟨r_91_0, fun _ h => absurd h List.not_mem_nil⟩⟩⟩⟩⟩⟩⟩⟩⟩⟩⟩⟩⟩⟩⟩⟩
def m_P7 : List (Nat × Nat) := [(92, 0), (93, 0), (94, 0), (95, 0), (96, 0), (97, 0), (98, 0), (99, 0), (100, 0), (101, 0), (102, 0), (103, 0), (104, 0), (105, 0), (106, 0), (107, 0)]
theorem r_P7 : ∀ q ∈ m_P7, m_okr q.1 q.2 = true := List.forall_mem_cons.mpr ⟨r_92_0, List.forall_mem_cons.mpr ⟨r_93_0, List.forall_mem_cons.mpr ⟨r_94_0, List.forall_mem_cons.mpr ⟨r_95_0, List.forall_mem_cons.mpr ⟨r_96_0, List.forall_mem_cons.mpr ⟨r_97_0, List.forall_mem_cons.mpr ⟨r_98_0, List.forall_mem_cons.mpr ⟨r_99_0, List.forall_mem_cons.mpr ⟨r_100_0, List.forall_mem_cons.mpr ⟨r_101_0, List.forall_mem_cons.mpr ⟨r_102_0, List.forall_mem_cons.mpr ⟨r_103_0, List.forall_mem_cons.mpr ⟨r_104_0, List.forall_mem_cons.mpr ⟨r_105_0, List.forall_mem_cons.mpr ⟨r_106_0, List.forall_mem_cons.mpr ⟨r_107_0, fun _ h => absurd h List.not_mem_nil⟩⟩⟩⟩⟩⟩⟩⟩⟩⟩⟩⟩⟩⟩⟩⟩
def m_P8 : List (Nat × Nat) := [(108, 0), (109, 0), (110, 0), (111, 0), (111, 1), (112, 0), (112, 1), (113, 0), (113, 1), (114, 0), (115, 0), (115, 1), (116, 0), (117, 0), (117, 1), (118, 0)]
theorem r_P8 : ∀ q ∈ m_P8, m_okr q.1 q.2 = true := List.forall_mem_cons.mpr ⟨r_108_0, List.forall_mem_cons.mpr ⟨r_109_0, List.forall_mem_cons.mpr ⟨r_110_0, List.forall_mem_cons.mpr ⟨r_111_0, List.forall_mem_cons.mpr ⟨r_111_1, List.forall_mem_cons.mpr ⟨r_112_0, List.forall_mem_cons.mpr ⟨r_112_1, List.forall_mem_cons.mpr ⟨r_113_0, List.forall_mem_cons.mpr ⟨r_113_1, List.forall_mem_cons.mpr ⟨r_114_0, List.forall_mem_cons.mpr ⟨r_115_0, List.forall_mem_cons.mpr ⟨r_115_1, List.forall_mem_cons.mpr ⟨r_116_0, List.forall_mem_cons.mpr ⟨r_117_0, List.forall_mem_cons.mpr ⟨r_117_1, List.forall_mem_cons.mpr ⟨r_118_0, fun _ h => absurd h List.not_mem_nil⟩⟩⟩⟩⟩⟩⟩⟩⟩⟩⟩⟩⟩⟩⟩⟩
def m_P9 : List (Nat × Nat) := [(119, 0), (120, 0), (121, 0), (122, 0), (123, 0), (123, 1), (123, 2), (123, 3), (123, 4), (123, 5), (124, 0), (125, 0), (125, 1), (126, 0), (126, 1), (126, 2)]
theorem r_P9 : ∀ q ∈ m_P9, m_okr q.1 q.2 = true := List.forall_mem_cons.mpr ⟨r_119_0, List.forall_mem_cons.mpr ⟨r_120_0, List.forall_mem_cons.mpr ⟨r_121_0, List.forall_mem_cons.mpr ⟨r_122_0, List.forall_mem_cons.mpr ⟨r_123_0, List.forall_mem_cons.mpr ⟨r_123_1, List.forall_mem_cons.mpr ⟨r_123_2, List.forall_mem_cons.mpr ⟨r_123_3, List.forall_mem_cons.mpr ⟨r_123_4, List.forall_mem_cons.mpr ⟨r_123_5, List.forall_mem_cons.mpr ⟨r_124_0, List.forall_mem_cons.mpr ⟨r_125_0, List.forall_mem_cons.mpr ⟨r_125_1, List.forall_mem_cons.mpr ⟨r_126_0, List.forall_mem_cons.mpr ⟨r_126_1, List.forall_mem_cons.mpr ⟨r_126_2, fun _ h => absurd h List.not_mem_nil⟩⟩⟩⟩⟩⟩⟩⟩⟩⟩⟩⟩⟩⟩⟩⟩
def m_P10 : List (Nat × Nat) := [(126, 3), (126, 4), (127, 0), (127, 1), (127, 2), (127, 3), (128, 0), (128, 1), (128, 2), (128, 3), (129, 0), (130, 0), (130, 1), (131, 0), (132, 0), (133, 0)]
theorem r_P10 : ∀ q ∈ m_P10, m_okr q.1 q.2 = true := List.forall_mem_cons.mpr ⟨r_126_3, List.forall_mem_cons.mpr ⟨r_126_4, List.forall_mem_cons.mpr ⟨r_127_0, List.forall_mem_cons.mpr ⟨r_127_1, List.forall_mem_cons.mpr ⟨r_127_2, List.forall_mem_cons.mpr ⟨r_127_3, List.forall_mem_cons.mpr ⟨r_128_0, List.forall_mem_cons.mpr ⟨r_128_1, List.forall_mem_cons.mpr ⟨r_128_2, List.forall_mem_cons.mpr ⟨r_128_3, List.forall_mem_cons.mpr ⟨r_129_0, List.forall_mem_cons.mpr ⟨r_130_0, List.forall_mem_cons.mpr ⟨r_130_1, List.forall_mem_cons.mpr ⟨r_131_0, List.forall_mem_cons.mpr ⟨r_132_0, List.forall_mem_cons.mpr ⟨r_133_0, fun _ h => absurd h List.not_mem_nil⟩⟩⟩⟩⟩⟩⟩⟩⟩⟩⟩⟩⟩⟩⟩⟩
def m_P11 : List (Nat × Nat) := [(134, 0), (135, 0), (136, 0), (137, 0), (137, 1), (138, 0), (139, 0), (139, 1), (139, 2), (139, 3), (139, 4), (139, 5), (139, 6), (139, 7), (139, 8), (140, 0)]
theorem r_P11 : ∀ q ∈ m_P11, m_okr q.1 q.2 = true := List.forall_mem_cons.mpr ⟨r_134_0, List.forall_mem_cons.mpr ⟨r_135_0, List.forall_mem_cons.mpr ⟨r_136_0, List.forall_mem_cons.mpr ⟨r_137_0, List.forall_mem_cons.mpr ⟨r_137_1, List.forall_mem_cons.mpr ⟨r_138_0, List.forall_mem_cons.mpr ⟨r_139_0, List.forall_mem_cons.mpr ⟨r_139_1, List.forall_mem_cons.mpr ⟨r_139_2, List.forall_mem_cons.mpr ⟨r_139_3, List.forall_mem_cons.mpr ⟨r_139_4, List.forall_mem_cons.mpr ⟨r_139_5, List.forall_mem_cons.mpr ⟨r_139_6, List.forall_mem_cons.mpr ⟨r_139_7, List.forall_mem_cons.mpr ⟨r_139_8, List.forall_mem_cons.mpr ⟨r_140_0, fun _ h => absurd h List.not_mem_nil⟩⟩⟩⟩⟩⟩⟩⟩⟩⟩⟩⟩⟩⟩⟩⟩
def m_P12 : List (Nat × Nat) := [(140, 1), (140, 2), (140, 3), (140, 4), (141, 0), (142, 0), (142, 1), (142, 2), (143, 0), (143, 1), (143, 2), (144, 0), (145, 0), (146, 0), (146, 1), (147, 0)]
theorem r_P12 : ∀ q ∈ m_P12, m_okr q.1 q.2 = true := List.forall_mem_cons.mpr ⟨r_140_1, List.forall_mem_cons.mpr ⟨r_140_2, List.forall_mem_cons.mpr ⟨r_140_3, List.forall_mem_cons.mpr ⟨r_140_4, List.forall_mem_cons.mpr ⟨r_141_0, List.forall_mem_cons.mpr ⟨r_142_0, List.forall_mem_cons.mpr ⟨r_142_1, List.forall_mem_cons.mpr ⟨r_142_2, List.forall_mem_cons.mpr ⟨r_143_0, List.forall_mem_cons.mpr ⟨r_143_1, List.forall_mem_cons.mpr ⟨r_143_2, List.forall_mem_cons.mpr ⟨r_144_0, List.forall_mem_cons.mpr ⟨r_145_0, List.forall_mem_cons.mpr ⟨r_146_0, List.forall_mem_cons.mpr ⟨r_146_1, List.forall_mem_cons.mpr ⟨r_147_0, fun _ h => absurd h List.not_mem_nil⟩⟩⟩⟩⟩⟩⟩⟩⟩⟩⟩⟩⟩⟩⟩⟩
def m_P13 : List (Nat × Nat) := [(148, 0), (149, 0)]
theorem r_P13 : ∀ q ∈ m_P13, m_okr q.1 q.2 = true := List.forall_mem_cons.mpr ⟨r_148_0, List.forall_mem_cons.mpr ⟨r_149_0, fun _ h => absurd h List.not_mem_nil⟩⟩
def m_P : List (Nat × Nat) := m_P0 ++ (m_P1 ++ (m_P2 ++ (m_P3 ++ (m_P4 ++ (m_P5 ++ (m_P6 ++ (m_P7 ++ (m_P8 ++ (m_P9 ++ (m_P10 ++ (m_P11 ++ (m_P12 ++ (m_P13)))))))))))))
theorem r_P : ∀ q ∈ m_P, m_okr q.1 q.2 = true := List.forall_mem_append.mpr ⟨r_P0, List.forall_mem_append.mpr ⟨r_P1, List.forall_mem_append.mpr ⟨r_P2, List.forall_mem_append.mpr ⟨r_P3, List.forall_mem_append.mpr ⟨r_P4, List.forall_mem_append.mpr ⟨r_P5, List.forall_mem_append.mpr ⟨r_P6, List.forall_mem_append.mpr ⟨r_P7, List.forall_mem_append.mpr ⟨r_P8, List.forall_mem_append.mpr ⟨r_P9, List.forall_mem_append.mpr ⟨r_P10, List.forall_mem_append.mpr ⟨r_P11, List.forall_mem_append.mpr ⟨r_P12, r_P13⟩⟩⟩⟩⟩⟩⟩⟩⟩⟩⟩⟩⟩
set_option maxRecDepth 100000 in
theorem r_all : ∀ M, M < 150 → ∀ j, j < (m_bd M + 95) / 96 → (M, j) ∈ m_P := by decide +kernel
/-- what stands in the code tables is what the bytes say -/
theorem ok_code {M pc : Nat} {e : mE} (hM : M < m_NM) (h : m_code M pc = some e) : m_oke M pc e = true := by
  have hb : pc < m_bd M := by
    unfold m_code at h
    cases hx : Nat.blt pc (m_bd M) with
    | true => exact Nat.le_of_ble_eq_true hx
    | false => rw [hx] at h; cases h
  have h1 := r_P _ (r_all M hM (pc / 96) (by omega))
  have h2 := List.all_eq_true.mp h1 (pc % 96) (List.mem_range.mpr (by omega))
  have h3 : 96 * (pc / 96) + pc % 96 = pc := by omega
  dsimp only at h2
  rw [h3, h] at h2
  exact h2
end
section
/-- a mini value in the machine: references by the address map -/
def m_v (ad : Nat → Nat) : Value → Value
  | .ref a => .ref (ad a)
  | v => v
theorem m_v_cat (ad : Nat → Nat) (v : Value) : (m_v ad v).category = v.category := by cases v <;> rfl
def m_vl (ad : Nat → Nat) (ls : mL) : List (Nat × Value) := ls.map fun q => (q.1, m_v ad q.2)
def m_f (S : mS) (c k : Nat) : Value := match (m_fd (40 * c + k)).1 with
  | 0 => .int (S.1 (40 * c + k))
  | 1 => .ref (m_fd (40 * c + k)).2
  | 2 => .int (S.1 (40 * c + k))
  | _ => .long S.2.1
def m_fs (ad : Nat → Nat) (S : mS) (c : Nat) : List Value := (List.range (m_nf c)).map fun k => m_v ad (m_f S c k)
def m_wo (ad : Nat → Nat) (S : mS) : va_W := (List.range 7).map fun c => (ad c, .inr (c, m_fs ad S c))
def m_wa (ad : Nat → Nat) (cI cZ : ClassId) (S : mS) : va_W := m_ar.map fun q => (ad q.1, .inl (bif q.2.2 then cZ else cI, q.2.1, .inl (S.2.2 q.1)))
/-- the cells of the mini machine's heap -/
def m_w (ad : Nat → Nat) (cI cZ : ClassId) (S : mS) : va_W := m_wo ad S ++ m_wa ad cI cZ S
theorem m_wo_len (ad : Nat → Nat) (S : mS) : (m_wo ad S).length = 7 := by simp [m_wo]
theorem m_wo_at {ad : Nat → Nat} {S : mS} {c : Nat} (h : c < 7) : (m_wo ad S)[c]? = some (ad c, .inr (c, m_fs ad S c)) := by
  unfold m_wo
  rw [List.getElem?_map, List.getElem?_range h]
  rfl
theorem m_w_obj {ad : Nat → Nat} {cI cZ : ClassId} {S : mS} {c : Nat} (h : c < 7) : (m_w ad cI cZ S)[c]? = some (ad c, .inr (c, m_fs ad S c)) := by
  unfold m_w
  rw [List.getElem?_append_left (by rw [m_wo_len]; exact h)]
  exact m_wo_at h
theorem m_ai_500 {a : Nat} (h : 500 ≤ a) : m_ai a = none := by
  have hb : ∀ k, k ≤ 500 → Nat.blt a k = false := fun k hk => by
    cases hx : Nat.blt a k with
    | false => rfl
    | true => exact absurd (Nat.le_of_ble_eq_true hx) (by omega)
  have he : ∀ k, k < 500 → Nat.beq a k = false := fun k hk => by
    cases hx : Nat.beq a k with
    | false => rfl
    | true => exact absurd (Nat.eq_of_beq_eq_true hx) (by omega)
  unfold m_ai
  repeat (first | rw [hb _ (by decide)] | rw [he _ (by decide)] | rw [cond_false])
theorem m_ai_at0 : ∀ a, a < 500 → (m_ai a).all (fun j => decide (m_ar[j]? = some (a, m_len a, m_az a))) = true := by decide +kernel
theorem m_ai_lt0 : ∀ a, a < 500 → (m_ai a).all (fun j => decide (j < 40)) = true := by decide +kernel
theorem m_ai_lt {a j : Nat} (h : m_ai a = some j) : a < 500 ∧ j < 40 := by
  have ha : a < 500 := by
    rcases Nat.lt_or_ge a 500 with q | q
    · exact q
    · rw [m_ai_500 q] at h; cases h
  have h2 := m_ai_lt0 a ha
  rw [h] at h2
  exact ⟨ha, of_decide_eq_true h2⟩
theorem m_ai_at {a j : Nat} (h : m_ai a = some j) : m_ar[j]? = some (a, m_len a, m_az a) := by
  have h2 := m_ai_at0 a (m_ai_lt h).1
  rw [h] at h2
  exact of_decide_eq_true h2
theorem m_ar_back : ∀ n, n < 40 → (m_ar[n]?).all (fun q => decide (m_ai q.1 = some n)) = true := by decide +kernel
theorem m_ar_len : m_ar.length ≤ 40 := by decide +kernel
theorem m_ar_inj {n a : Nat} {q : Nat × Bool} (h : m_ar[n]? = some (a, q)) : m_ai a = some n := by
  have hn : n < 40 := Nat.lt_of_lt_of_le (List.getElem?_eq_some_iff.mp h).1 m_ar_len
  have h2 := m_ar_back n hn
  rw [h] at h2
  exact of_decide_eq_true h2
theorem m_wa_at {ad : Nat → Nat} {cI cZ : ClassId} {S : mS} {a j : Nat} (h : m_ai a = some j) : (m_wa ad cI cZ S)[j]? = some (ad a, .inl (bif m_az a then cZ else cI, m_len a, .inl (S.2.2 a))) := by
  unfold m_wa
  rw [List.getElem?_map, m_ai_at h]
  rfl
theorem m_w_arr {ad : Nat → Nat} {cI cZ : ClassId} {S : mS} {a j : Nat} (h : m_ai a = some j) : (m_w ad cI cZ S)[7 + j]? = some (ad a, .inl (bif m_az a then cZ else cI, m_len a, .inl (S.2.2 a))) := by
  unfold m_w
  rw [List.getElem?_append_right (by rw [m_wo_len]; omega), m_wo_len, Nat.add_sub_cancel_left]
  exact m_wa_at h
theorem m_nf_le : ∀ c, c < 7 → m_nf c ≤ 40 := by decide +kernel
theorem m_f_put {S : mS} {c k c' k' : Nat} {x : Int32} (hk : k < 40) (hk' : k' < 40) (hne : ¬ (c' = c ∧ k' = k)) : m_f (upd S.1 (40 * c + k) x, S.2) c' k' = m_f S c' k' := by
  have hq : 40 * c' + k' ≠ 40 * c + k := by omega
  unfold m_f
  dsimp only
  rw [show upd S.1 (40 * c + k) x (40 * c' + k') = S.1 (40 * c' + k') from if_neg hq]
theorem m_fs_put {ad : Nat → Nat} {S : mS} {c k : Nat} {x : Int32} (hc : c < 7) (hk : k < m_nf c) (hkd : (m_fd (40 * c + k)).1 = 0 ∨ (m_fd (40 * c + k)).1 = 2) : m_fs ad (upd S.1 (40 * c + k) x, S.2) c = (m_fs ad S c).set k (.int x) := by
  have h40 := m_nf_le c hc
  apply List.ext_getElem?
  intro n
  unfold m_fs
  rw [List.getElem?_set, List.getElem?_map]
  by_cases hn : k = n
  · subst hn
    rw [List.getElem?_range hk, if_pos rfl, if_pos (by simpa using hk)]
    show some (m_v ad (m_f _ c k)) = some (.int x)
    congr 1
    unfold m_f
    rcases hkd with h | h <;> rw [h] <;> (show Value.int (upd _ _ _ _) = _; rw [show upd S.1 (40 * c + k) x (40 * c + k) = x from if_pos rfl])
  · rw [if_neg hn, List.getElem?_map]
    by_cases hl : n < m_nf c
    · rw [List.getElem?_range hl]
      show some (m_v ad (m_f _ c n)) = some (m_v ad (m_f S c n))
      rw [m_f_put (by omega) (by omega) (fun q => hn q.2.symm)]
    · rw [List.getElem?_eq_none (by simpa using hl)]
      rfl
theorem m_wo_put {ad : Nat → Nat} {S : mS} {c k : Nat} {x : Int32} (hc : c < 7) (hk : k < m_nf c) (hkd : (m_fd (40 * c + k)).1 = 0 ∨ (m_fd (40 * c + k)).1 = 2) : m_wo ad (upd S.1 (40 * c + k) x, S.2) = (m_wo ad S).set c (ad c, .inr (c, (m_fs ad S c).set k (.int x))) := by
  have h40 := m_nf_le c hc
  apply List.ext_getElem?
  intro n
  rw [List.getElem?_set]
  by_cases hn : c = n
  · subst hn
    rw [m_wo_at hc, if_pos rfl, if_pos (by rw [m_wo_len]; exact hc), m_fs_put hc hk hkd]
  · rw [if_neg hn]
    by_cases hl : n < 7
    · rw [m_wo_at hl, m_wo_at hl]
      congr 4
      unfold m_fs
      apply List.map_congr_left
      intro k' hk'
      have := List.mem_range.mp hk'
      have := m_nf_le n hl
      rw [m_f_put (by omega) (by omega) (fun q => hn q.1.symm)]
    · rw [List.getElem?_eq_none (by rw [m_wo_len]; omega), List.getElem?_eq_none (by rw [m_wo_len]; omega)]
theorem m_w_put {ad : Nat → Nat} {cI cZ : ClassId} {S : mS} {c k : Nat} {x : Int32} (hc : c < 7) (hk : k < m_nf c) (hkd : (m_fd (40 * c + k)).1 = 0 ∨ (m_fd (40 * c + k)).1 = 2) : m_w ad cI cZ (upd S.1 (40 * c + k) x, S.2) = (m_w ad cI cZ S).set c (ad c, .inr (c, (m_fs ad S c).set k (.int x))) := by
  unfold m_w
  rw [m_wo_put hc hk hkd, List.set_append, if_pos (by rw [m_wo_len]; exact hc)]
  rfl
theorem m_long_at : ∀ c, c < 7 → ∀ k, k < m_nf c → 3 ≤ (m_fd (40 * c + k)).1 → c = 6 ∧ k = 9 := by decide +kernel
theorem m_f_long {S : mS} {c k : Nat} {y : Int64} (hc : c < 7) (hk : k < m_nf c) (hne : ¬ (c = 6 ∧ k = 9)) : m_f (S.1, y, S.2.2) c k = m_f S c k := by
  have h := m_long_at c hc k hk
  unfold m_f
  match hx : (m_fd (40 * c + k)).1 with
  | 0 => rfl
  | 1 => rfl
  | 2 => rfl
  | n + 3 => exact absurd (h (by rw [hx]; omega)) hne
theorem m_w_long {ad : Nat → Nat} {cI cZ : ClassId} {S : mS} {y : Int64} : m_w ad cI cZ (S.1, y, S.2.2) = (m_w ad cI cZ S).set 6 (ad 6, .inr (6, (m_fs ad S 6).set 9 (.long y))) := by
  unfold m_w
  rw [List.set_append, if_pos (by rw [m_wo_len]; decide)]
  congr 1
theorem m_w_ast {ad : Nat → Nat} {cI cZ : ClassId} {S : mS} {a j : Nat} {f : Nat → Int32} (h : m_ai a = some j) : m_w ad cI cZ (S.1, S.2.1, va_up S.2.2 a f) = (m_w ad cI cZ S).set (7 + j) (ad a, .inl (bif m_az a then cZ else cI, m_len a, .inl f)) := by
  unfold m_w
  rw [List.set_append, if_neg (by rw [m_wo_len]; omega), m_wo_len, Nat.add_sub_cancel_left]
  congr 1
  apply List.ext_getElem?
  intro n
  unfold m_wa
  rw [List.getElem?_set, List.getElem?_map]
  by_cases hn : j = n
  · subst hn
    rw [m_ai_at h, if_pos rfl, if_pos (by rw [List.length_map]; exact (List.getElem?_eq_some_iff.mp (m_ai_at h)).1)]
    show some (ad a, Sum.inl (_, _, Sum.inl (va_up S.2.2 a f a))) = _
    rw [show va_up S.2.2 a f a = f from if_pos rfl]
  · rw [if_neg hn, List.getElem?_map]
    cases hq : m_ar[n]? with
    | none => rfl
    | some q =>
      obtain ⟨a', x⟩ := q
      have hne : a' ≠ a := fun e => hn (Option.some.inj (h.symm.trans (by rw [← e]; exact m_ar_inj hq)))
      show some (ad a', Sum.inl (_, _, Sum.inl (va_up S.2.2 a f a'))) = some (ad a', Sum.inl (_, _, Sum.inl (S.2.2 a')))
      rw [show va_up S.2.2 a f a' = S.2.2 a' from if_neg hne]
theorem m_fs_at {ad : Nat → Nat} {S : mS} {c k : Nat} (hk : k < m_nf c) : (m_fs ad S c)[k]? = some (m_v ad (m_f S c k)) := by
  unfold m_fs
  rw [List.getElem?_map, List.getElem?_range hk]
  rfl
theorem m_fs_len (ad : Nat → Nat) (S : mS) (c : Nat) : (m_fs ad S c).length = m_nf c := by simp [m_fs]
theorem m_gl_at {ad : Nat → Nat} {lsr : Array Slot} {nL : Nat} : ∀ {ls : mL}, lv_has lsr nL (m_vl ad ls) → ∀ {i : Nat} {v : Value}, m_gl ls i = some v → lsr[i]? = some (.val (m_v ad v)) ∧ ∃ k : Nat, (m_vl ad ls)[k]? = some (i, m_v ad v) := by
  intro ls
  induction ls with
  | nil => intro _ i v h; cases h
  | cons q l ih =>
    intro hl i v h
    obtain ⟨j, w⟩ := q
    unfold m_gl at h
    cases hb : Nat.beq j i with
    | true =>
      rw [hb, cond_true] at h
      have hji := Nat.eq_of_beq_eq_true hb
      have hwv := Option.some.inj h
      rw [← hji, ← hwv]
      exact ⟨hl.2.2 (j, m_v ad w) (List.mem_cons_self), 0, rfl⟩
    | false =>
      rw [hb, cond_false] at h
      obtain ⟨h1, k, h2⟩ := ih ⟨hl.1, hl.2.1, fun q hq => hl.2.2 q (List.mem_cons_of_mem _ hq)⟩ h
      exact ⟨h1, k + 1, h2⟩
theorem m_sl_vl {ad : Nat → Nat} {ls : mL} {i : Nat} {v : Value} : (i, m_v ad v) :: (m_vl ad ls).filter (fun q => !(q.1 == i) && !(q.1 + 1 == i && q.2.category == 2)) = m_vl ad (m_sl ls i v) := by
  unfold m_sl m_vl
  rw [List.map_cons, List.filter_map]
  congr 2
  apply List.filter_congr
  intro q _
  show (!(q.1 == i) && !(q.1 + 1 == i && (m_v ad q.2).category == 2)) = _
  rw [m_v_cat]
end
section
def m_tys (cI cZ : ClassId) : List (ClassId × FieldType) := [(cI, .int), (cZ, .boolean)]
/-- what nobody writes: the static tables, the texts -/
def m_St (ad : Nat → Nat) (A : Nat → Prop) (U : State) (H : Heap) : Prop :=
  (∀ g, 499 < g → g < 503 → va_Z "NullKinds" (m_sn g) "[I" (.ref (ad g)) A U H ∧ va_T .int (ad g) (m_len g) (fun j => .int (m_sv g j)) A U H) ∧
  va_Z "java/lang/String" "COMPACT_STRINGS" "Z" (.int 1) A U H ∧ vk_S 3 [24, 24, 24] m_chs (fun i => ad (600 + i)) (fun i => ad (700 + i)) A U H ∧ va_Zq "jdk/internal/util/Preconditions" "SIOOBE_FORMATTER" "Ljava/util/function/BiFunction;" A U H
theorem m_St.moved {ad : Nat → Nat} {A : Nat → Prop} {u U : State} {H : Heap} (hvm : u.vm.Alike U.vm) (h : m_St ad A u H) : m_St ad A U H :=
  ⟨fun g h1 h2 => ⟨va_Z.moved hvm (h.1 g h1 h2).1, va_T.moved hvm (h.1 g h1 h2).2⟩, va_Z.moved hvm h.2.1, vk_S.moved hvm h.2.2.1, va_Zq.moved hvm h.2.2.2⟩
theorem m_St.kept {ad : Nat → Nat} {A : Nat → Prop} {U : State} {H H1 : Heap} (h : m_St ad A U H) (hq : ∀ a : Nat, a < H.size → ¬ A a → H1[a]? = H[a]?) : m_St ad A U H1 :=
  ⟨fun g h1 h2 => ⟨(h.1 g h1 h2).1.kept hq, (h.1 g h1 h2).2.kept hq⟩, h.2.1.kept hq, h.2.2.1.kept hq, h.2.2.2.kept hq⟩
theorem m_St.narrow {ad : Nat → Nat} {A B : Nat → Prop} {U : State} {H : Heap} (h : m_St ad A U H) (hAB : ∀ q, B q → A q) : m_St ad B U H :=
  ⟨fun g h1 h2 => ⟨(h.1 g h1 h2).1.narrow hAB, (h.1 g h1 h2).2.narrow hAB⟩, h.2.1.narrow hAB, h.2.2.1.narrow hAB, h.2.2.2.narrow hAB⟩
def m_txt (g : Nat) : String := bif Nat.beq g 600 then "VVVVVVVVVVVNNNNVNNNNS-VN" else bif Nat.beq g 601 then "-KAVT-TVVVVVVVVN-NNN--V-" else "--N-SSV--NN---NN---S--N-"
/-- links between nest mates, and the texts' links -/
def m_Ns (ad : Nat → Nat) (U : State) : Prop :=
  (∀ q ∈ m_FL, q.2.2.2.2 = 1 → va_Nw (.fieldLinkNest (m_R q.1) q.2.1 (m_Tt q.2.2.1 q.2.2.2.1).1 (m_Tt q.2.2.1 q.2.2.2.1).2.1 (m_Tt q.2.2.1 q.2.2.2.1).2.2.1 "NullKinds") U) ∧
  (∀ q ∈ m_ML, q.2.2.2 = 1 → va_Nw (.methodLinkNest (m_R q.1) q.2.1 (m_y q.2.2.1) "NullKinds") U) ∧
  (∀ q ∈ m_SL, va_Nw (.fieldLinkNest (m_R q.1) q.2.1 "NullKinds" (m_sn q.2.2) "[I" "NullKinds") U) ∧
  (∀ q ∈ [(31, 600), (43, 601), (45, 602)], vk_R (m_R 3) q.1 (m_txt q.2) (ad q.2) U)
theorem m_Ns.warm {ad : Nat → Nat} {s U : State} (hW : s.WarmedH U.vm) (h : m_Ns ad s) : m_Ns ad U :=
  ⟨fun q hq h1 => va_Nw.warmF hW (h.1 q hq h1), fun q hq h1 => va_Nw.warmM hW (h.2.1 q hq h1), fun q hq => va_Nw.warmF hW (h.2.2.1 q hq), fun q hq => vk_R.warm hW (h.2.2.2 q hq)⟩
theorem m_Ns.same {ad : Nat → Nat} {u U : State} (hv : u.vm = U.vm) (h : m_Ns ad u) : m_Ns ad U :=
  ⟨fun q hq h1 => va_Nw.same rfl hv (h.1 q hq h1), fun q hq h1 => va_Nw.same rfl hv (h.2.1 q hq h1), fun q hq => va_Nw.same rfl hv (h.2.2.1 q hq), fun q hq => vk_R.same hv.symm (h.2.2.2 q hq)⟩
def m_rm (d : Nat) : Room := { frames := d, cells := 0, slots := 0, locals := 37 * d }
/-- what stands fixed while method M runs -/
def m_Cx (p : Program) (D : va_G) (ad : Nat → Nat) (cI cZ : ClassId) (s : State) (m : MethodId) (args : Array Value) (meth : Method) (c : Code) (M : Nat) (A : Nat → Prop) : Prop :=
  p.tables.exec = Jvm.exec ∧ c.code = m_b M ∧ meth.sig.returnType = m_rt M ∧ c.maxLocals = m_mx M ∧ s.vm.findClass (m_R (m_ow M)) = some m.cls ∧ (∀ w ∈ m_ws M, w.before args s = true) ∧ meth.locks = false ∧ va_K D vwCl (m_tys cI cZ) s ∧ m_St ad A s s.heap ∧ m_Ns ad s ∧ (∀ q, s.heap.size ≤ q → A q)
/-- an answer that is no reference -/
def m_pl (v : Option Value) : Prop := ∀ x, v = some x → ∀ ad, m_v ad x = x
def m_Qc (D : va_G) (ad : Nat → Nat) (cI cZ : ClassId) (Q : mQ) (A : Nat → Prop) : Array Value → State → Outcome → State → Prop := fun _ st oc t =>
  (∃ (v : Option Value) (S' : mS), oc = .returned v ∧ m_pl v ∧ Q v S' ∧ va_P D vwCl (m_w ad cI cZ S') t.heap ∧ va_K D vwCl (m_tys cI cZ) t ∧ va_D A (m_w ad cI cZ S')) ∧ va_F A st t
theorem m_ok1 {M pc : Nat} {e : mE} (h : m_oke M pc e = true) : decode (m_b M) pc = .ok (e.1, e.2.1 - pc) ∧ m_okx M pc e = true := by
  unfold m_oke at h
  rw [Bool.and_eq_true, Bool.and_eq_true] at h
  exact ⟨of_decide_eq_true h.1.1, h.2⟩
theorem m_dec {b : ByteArray} {pc nx len : Nat} {i : Instr} (h : decode b pc = .ok (i, nx - pc)) (hn : Nat.beq nx (pc + len) = true) : decode b pc = .ok (i, len) ∧ nx = pc + len := by
  have := Nat.eq_of_beq_eq_true hn
  subst this
  rw [Nat.add_sub_cancel_left] at h
  exact ⟨h, rfl⟩
theorem m_and {a b : Bool} (h : (a && b) = true) : a = true ∧ b = true := by
  cases a <;> cases b <;> first | exact ⟨rfl, rfl⟩ | cases h
theorem m_cl {c : Nat} (h : c < 7) : vwCl[c]? = some (m_R c, m_Tt c, m_nf c) := by
  match c, h with
  | 0, _ => rfl
  | 1, _ => rfl
  | 2, _ => rfl
  | 3, _ => rfl
  | 4, _ => rfl
  | 5, _ => rfl
  | 6, _ => rfl
theorem m_okC_at {c : Nat} (h : c < 7) : m_okC c = true := List.all_eq_true.mp ok_C c (List.mem_range.mpr h)
theorem m_uws {c : Nat} (h : c < 7) : ∀ w ∈ u_ws (m_R c) (m_Tt c) (m_nf c), w ∈ m_gws := by
  intro w hw
  have h1 := m_okC_at h
  unfold m_okC at h1
  obtain ⟨h1, -⟩ := m_and h1
  obtain ⟨h1, -⟩ := m_and h1
  obtain ⟨h1, -⟩ := m_and h1
  obtain ⟨k, hk, rfl⟩ := List.mem_map.mp hw
  exact m_gw_in (List.all_eq_true.mp h1 k hk)
theorem m_tyok {c : Nat} (h : c < 7) : ∀ k, k < m_nf c → parseFieldDescriptor (m_Tt c k).2.2.1 = some (m_ty c k) := by
  intro k hk
  have h1 := m_okC_at h
  unfold m_okC at h1
  obtain ⟨h1, -⟩ := m_and h1
  obtain ⟨h1, -⟩ := m_and h1
  obtain ⟨-, h1⟩ := m_and h1
  exact of_decide_eq_true (m_and (List.all_eq_true.mp h1 k (List.mem_range.mpr hk))).1
theorem m_kdok {c : Nat} (h : c < 7) : ∀ k, k < m_nf c → m_kd c k = true := by
  intro k hk
  have h1 := m_okC_at h
  unfold m_okC at h1
  obtain ⟨h1, -⟩ := m_and h1
  obtain ⟨h1, -⟩ := m_and h1
  obtain ⟨-, h1⟩ := m_and h1
  exact (m_and (List.all_eq_true.mp h1 k (List.mem_range.mpr hk))).2
theorem m_nmok {c : Nat} (h : c < 7) : ∀ a, a < m_nf c → ∀ b, b < m_nf c → a ≠ b → (m_Tt c a).2.1 ≠ (m_Tt c b).2.1 := by
  intro a ha b hb hne
  have h1 := m_okC_at h
  unfold m_okC at h1
  obtain ⟨h1, -⟩ := m_and h1
  obtain ⟨-, h1⟩ := m_and h1
  have h2 := List.all_eq_true.mp (List.all_eq_true.mp h1 a (List.mem_range.mpr ha)) b (List.mem_range.mpr hb)
  rw [Bool.or_eq_true] at h2
  rcases h2 with h2 | h2
  · exact absurd (Nat.eq_of_beq_eq_true h2) hne
  · exact of_decide_eq_true h2
theorem m_FLok {q : Nat × Nat × Nat × Nat × Nat} (h : q ∈ m_FL) : ∃ n, m_okF (q, n) = true := by
  obtain ⟨x, hx, rfl⟩ := List.mem_map.mp h
  exact ⟨x.2, List.all_eq_true.mp ok_F x hx⟩
theorem m_MLok {q : Nat × Nat × Nat × Nat} (h : q ∈ m_ML) : ∃ n, m_okL (q, n) = true := by
  obtain ⟨x, hx, rfl⟩ := List.mem_map.mp h
  exact ⟨x.2, List.all_eq_true.mp ok_L x hx⟩
theorem m_LLok {q : Nat × Nat × Int64} (h : q ∈ m_LL) : Cond.constantLong (m_R q.1) q.2.1 q.2.2 ∈ m_gws := by
  obtain ⟨x, hx, rfl⟩ := List.mem_map.mp h
  exact m_gw_in (List.all_eq_true.mp ok_J x hx)
theorem m_SLok {q : Nat × Nat × Nat} (h : q ∈ m_SL) : 499 < q.2.2 ∧ q.2.2 < 503 := by
  obtain ⟨x, hx, rfl⟩ := List.mem_map.mp h
  have h1 := List.all_eq_true.mp ok_S x hx
  unfold m_okS at h1
  obtain ⟨h1, h2⟩ := m_and h1
  obtain ⟨-, h1⟩ := m_and h1
  exact ⟨Nat.le_of_ble_eq_true h1, Nat.le_of_ble_eq_true h2⟩
theorem m_gws_ws {M : Nat} {w : Cond} (h : w ∈ m_gws) : w ∈ m_ws M := List.mem_cons_of_mem _ h
-- what the steps want of the stack
theorem m_2_inv {f : Int32 → Int32 → Int32} {nx : Nat} {ls : mL} {S : mS} {st : List Value} {z : Nat × mL × List Value × mS} (h : m_2 f nx ls S st = some z) : ∃ x y r, st = .int y :: .int x :: r ∧ z = (nx, ls, .int (f x y) :: r, S) := by
  unfold m_2 at h
  split at h
  · next y x r => cases h; exact ⟨x, y, r, rfl, rfl⟩
  · cases h
theorem m_li_inv {nx : Nat} {ls : mL} {st : List Value} {S : mS} {o : Option Value} {z : Nat × mL × List Value × mS} (h : m_li nx ls st S o = some z) : ∃ x, o = some (.int x) ∧ z = (nx, ls, .int x :: st, S) := by
  unfold m_li at h
  split at h
  · next x => cases h; exact ⟨x, rfl, rfl⟩
  · cases h
theorem m_ll_inv {nx : Nat} {ls : mL} {st : List Value} {S : mS} {o : Option Value} {z : Nat × mL × List Value × mS} (h : m_ll nx ls st S o = some z) : ∃ x, o = some (.long x) ∧ z = (nx, ls, .long x :: st, S) := by
  unfold m_ll at h
  split at h
  · next x => cases h; exact ⟨x, rfl, rfl⟩
  · cases h
theorem m_la_inv {nx : Nat} {ls : mL} {st : List Value} {S : mS} {o : Option Value} {z : Nat × mL × List Value × mS} (h : m_la nx ls st S o = some z) : ∃ x, o = some (.ref x) ∧ z = (nx, ls, .ref x :: st, S) := by
  unfold m_la at h
  split at h
  · next x => cases h; exact ⟨x, rfl, rfl⟩
  · cases h
theorem m_st_inv {nx : Nat} {ls : mL} {S : mS} {k : Nat} {st : List Value} {z : Nat × mL × List Value × mS} (h : m_st nx ls S k st = some z) : ∃ x r, st = .int x :: r ∧ z = (nx, m_sl ls k (.int x), r, S) := by
  unfold m_st at h
  split at h
  · next x r => cases h; exact ⟨x, r, rfl, rfl⟩
  · cases h
theorem m_inc_inv {nx : Nat} {ls : mL} {st : List Value} {S : mS} {k : Nat} {c : Int32} {o : Option Value} {z : Nat × mL × List Value × mS} (h : m_inc nx ls st S k c o = some z) : ∃ x, o = some (.int x) ∧ z = (nx, m_sl ls k (.int (x + c)), st, S) := by
  unfold m_inc at h
  split at h
  · next x => cases h; exact ⟨x, rfl, rfl⟩
  · cases h
theorem m_bif {b : Bool} {α : Type} {x z : α} (h : (bif b then some x else none) = some z) : b = true ∧ x = z := by
  cases b with
  | true => exact ⟨rfl, Option.some.inj h⟩
  | false => cases h
theorem m_gf_inv {nx : Nat} {ls : mL} {S : mS} {ex : List Nat} {st : List Value} {z : Nat × mL × List Value × mS} (h : m_gf nx ls S ex st = some z) : ∃ c k q kd g r, ex = [c, k, q, kd, g] ∧ st = .ref c :: r ∧ ((kd = 0 ∧ z = (nx, ls, .int (S.1 q) :: r, S)) ∨ (kd = 1 ∧ z = (nx, ls, .ref g :: r, S)) ∨ (kd = 2 ∧ z = (nx, ls, .int (S.1 q) :: r, S)) ∨ (kd = 3 ∧ z = (nx, ls, .long S.2.1 :: r, S))) := by
  unfold m_gf at h
  split at h
  · next c k q g a r => obtain ⟨h1, h2⟩ := m_bif h; cases Nat.eq_of_beq_eq_true h1; exact ⟨_, _, _, _, _, r, rfl, rfl, Or.inl ⟨rfl, h2.symm⟩⟩
  · next c k q g a r => obtain ⟨h1, h2⟩ := m_bif h; cases Nat.eq_of_beq_eq_true h1; exact ⟨_, _, _, _, _, r, rfl, rfl, Or.inr (Or.inl ⟨rfl, h2.symm⟩)⟩
  · next c k q g a r => obtain ⟨h1, h2⟩ := m_bif h; cases Nat.eq_of_beq_eq_true h1; exact ⟨_, _, _, _, _, r, rfl, rfl, Or.inr (Or.inr (Or.inl ⟨rfl, h2.symm⟩))⟩
  · next c k q g a r => obtain ⟨h1, h2⟩ := m_bif h; cases Nat.eq_of_beq_eq_true h1; exact ⟨_, _, _, _, _, r, rfl, rfl, Or.inr (Or.inr (Or.inr ⟨rfl, h2.symm⟩))⟩
  · cases h
theorem m_pf_inv {nx : Nat} {ls : mL} {S : mS} {ex : List Nat} {st : List Value} {z : Nat × mL × List Value × mS} (h : m_pf nx ls S ex st = some z) : ∃ c k q g r, (∃ x, ex = [c, k, q, 0, g] ∧ st = .int x :: .ref c :: r ∧ z = (nx, ls, r, (upd S.1 q x, S.2))) ∨ (∃ x, ex = [c, k, q, 3, g] ∧ st = .long x :: .ref c :: r ∧ z = (nx, ls, r, (S.1, x, S.2.2))) := by
  unfold m_pf at h
  split at h
  · next c k q g x a r => obtain ⟨h1, h2⟩ := m_bif h; cases Nat.eq_of_beq_eq_true h1; exact ⟨_, _, _, _, r, Or.inl ⟨x, rfl, rfl, h2.symm⟩⟩
  · next c k q g x a r => obtain ⟨h1, h2⟩ := m_bif h; cases Nat.eq_of_beq_eq_true h1; exact ⟨_, _, _, _, r, Or.inr ⟨x, rfl, rfl, h2.symm⟩⟩
  · cases h
theorem m_lkc_len {pc : Nat} : ∀ {ps : List (Int × Int)} {ts : List Nat}, m_lkc pc ps ts = true → ∀ (j : Nat) (o : Int × Int), ps[j]? = some o → (pc : Int) + o.2 = ((ts.getD j 0 : Nat) : Int) := by
  intro ps
  induction ps with
  | nil => intro ts _ j o h; simp at h
  | cons q ps ih =>
    intro ts h j o hj
    obtain ⟨a, b⟩ := q
    cases ts with
    | nil => simp [m_lkc] at h
    | cons t ts =>
      unfold m_lkc at h
      obtain ⟨h1, h2⟩ := m_and h
      cases j with
      | zero => cases hj; exact of_decide_eq_true h1
      | succ j => exact ih h2 j o hj
theorem m_lkF_ok {pc d : Nat} {dflt : Int} (hd : (pc : Int) + dflt = (d : Int)) : ∀ {ps : List (Int × Int)} {ts : List Nat} (v : Int), m_lkc pc ps ts = true → (pc : Int) + Op.lookupswitch.offset ps dflt v = ((m_lkF d ps ts v : Nat) : Int) := by
  intro ps
  induction ps with
  | nil => intro ts v _; unfold m_lkF; rw [Op.lookupswitch.offset_nil]; exact hd
  | cons q ps ih =>
    intro ts v h
    obtain ⟨a, b⟩ := q
    cases ts with
    | nil => simp [m_lkc] at h
    | cons t ts =>
      unfold m_lkc at h
      obtain ⟨h1, h2⟩ := m_and h
      unfold m_lkF
      rw [Op.lookupswitch.offset_cons]
      by_cases hv : a = v
      · rw [if_pos hv, if_pos hv]; exact of_decide_eq_true h1
      · rw [if_neg hv, if_neg hv]; exact ih v h2
theorem m_fl_get {M pc ix nx c0 k q kd g : Nat} {c1 : Int32} {c2 : Int64} (h : m_okx M pc (.getfield ix, nx, [c0, k, q, kd, g], c1, c2) = true) : ((m_ow M, ix, c0, k, 0) ∈ m_FL ∨ (m_ow M, ix, c0, k, 1) ∈ m_FL) ∧ q = 40 * c0 + k ∧ m_fd q = (kd, g) ∧ c0 < 7 ∧ k < m_nf c0 ∧ Nat.beq nx (pc + 3) = true := by
  obtain ⟨a1, a6⟩ := m_and h
  obtain ⟨b1, a5⟩ := m_and a1
  obtain ⟨b2, a4⟩ := m_and b1
  obtain ⟨b3, a3⟩ := m_and b2
  obtain ⟨b4, a2⟩ := m_and b3
  refine ⟨?_, Nat.eq_of_beq_eq_true a2, of_decide_eq_true a3, Nat.le_of_ble_eq_true a4, Nat.le_of_ble_eq_true a5, a6⟩
  rcases (Bool.or_eq_true _ _).mp b4 with z | z
  · exact Or.inl (of_decide_eq_true z)
  · exact Or.inr (of_decide_eq_true z)
theorem m_fl_put {M pc ix nx c0 k q kd g : Nat} {c1 : Int32} {c2 : Int64} (h : m_okx M pc (.putfield ix, nx, [c0, k, q, kd, g], c1, c2) = true) : (m_ow M, ix, c0, k, 0) ∈ m_FL ∧ q = 40 * c0 + k ∧ m_fd q = (kd, g) ∧ c0 < 7 ∧ k < m_nf c0 ∧ Nat.beq nx (pc + 3) = true := by
  obtain ⟨a1, a6⟩ := m_and h
  obtain ⟨b1, a5⟩ := m_and a1
  obtain ⟨b2, a4⟩ := m_and b1
  obtain ⟨b3, a3⟩ := m_and b2
  obtain ⟨b4, a2⟩ := m_and b3
  exact ⟨of_decide_eq_true b4, Nat.eq_of_beq_eq_true a2, of_decide_eq_true a3, Nat.le_of_ble_eq_true a4, Nat.le_of_ble_eq_true a5, a6⟩
theorem m_fl_word {o ix c0 k : Nat} (h : (o, ix, c0, k, 0) ∈ m_FL) : Cond.fieldLink (m_R o) ix (m_Tt c0 k).1 (m_Tt c0 k).2.1 (m_Tt c0 k).2.2.1 ∈ m_gws := by
  obtain ⟨n, hf⟩ := m_FLok h
  have hf2 : m_gw n (.fieldLink (m_R o) ix (m_Tt c0 k).1 (m_Tt c0 k).2.1 (m_Tt c0 k).2.2.1) = true := hf
  exact m_gw_in hf2
theorem m_ml_word {o ix M' : Nat} (h : (o, ix, M', 0) ∈ m_ML) : Cond.methodLink (m_R o) ix (m_y M') ∈ m_gws := by
  obtain ⟨n, hf⟩ := m_MLok h
  have hf2 : m_gw n (.methodLink (m_R o) ix (m_y M')) = true := hf
  exact m_gw_in hf2
theorem m_kd_of {c k kd g : Nat} (hc : c < 7) (hk : k < m_nf c) (h : m_fd (40 * c + k) = (kd, g)) : (kd = 0 → parseFieldDescriptor (m_Tt c k).2.2.1 = some .int ∧ (m_Tt c k).2.2.2 = false) ∧ (kd = 2 → parseFieldDescriptor (m_Tt c k).2.2.1 = some .boolean ∧ (m_Tt c k).2.2.2 = false) ∧ (kd = 3 → parseFieldDescriptor (m_Tt c k).2.2.1 = some .long ∧ (m_Tt c k).2.2.2 = false ∧ c = 6 ∧ k = 9) := by
  have h1 := m_kdok hc k hk
  unfold m_kd at h1
  rw [h] at h1
  refine ⟨fun e => ?_, fun e => ?_, fun e => ?_⟩
  · subst e
    obtain ⟨a, b⟩ := m_and h1
    exact ⟨of_decide_eq_true a, by simpa using b⟩
  · subst e
    obtain ⟨a, b⟩ := m_and h1
    exact ⟨of_decide_eq_true a, by simpa using b⟩
  · subst e
    obtain ⟨a, b⟩ := m_and h1
    obtain ⟨a2, b2⟩ := m_and a
    obtain ⟨a3, b3⟩ := m_and a2
    exact ⟨of_decide_eq_true a3, by simpa using b3, Nat.eq_of_beq_eq_true b2, Nat.eq_of_beq_eq_true b⟩
section MSND
variable {p : Program} {l : Launch} {e : Env} {R : Room} {s : State} {m : MethodId} {args : Array Value} {below : List Frame} {meth : Method} {c : Code} {H : Heap} {locs : List Loc} {Z : State → Prop}
variable {D : va_G} {ad : Nat → Nat} {cI cZ : ClassId} {M pc pc' : Nat} {A : Nat → Prop} {lsr : Array Slot} {ls ls' : mL} {st st' : List Value} {S S' : mS} {en : mE}
set_option maxHeartbeats 1000000 in
theorem m_getf_snd {ix nx : Nat} {ex : List Nat} {c1 : Int32} {c2 : Int64} (hd : decode (m_b M) pc = .ok (.getfield ix, nx - pc)) (hk : m_okx M pc (.getfield ix, nx, ex, c1, c2) = true) (hp : m_gf nx ls S ex st = some (pc', ls', st', S'))
    (hx : p.tables.exec = Jvm.exec) (hb : c.code = m_b M) (hown : s.vm.findClass (m_R (m_ow M)) = some m.cls) (hts : ∀ w ∈ m_ws M, w.before args s = true) (hK : va_K D vwCl (m_tys cI cZ) s) (hNs : m_Ns ad s) (hP : va_P D vwCl (m_w ad cI cZ S) H)
    (kk : S' = S → ls' = ls → W p l e R s m args below meth c H locs 0 0 Z (F0 m pc' lsr (st'.map (m_v ad)))) :
    W p l e R s m args below meth c H locs 0 0 Z (F0 m pc lsr (st.map (m_v ad))) := by
  obtain ⟨c0, k, q, kd, g, r, rfl, rfl, hz⟩ := m_gf_inv hp
  obtain ⟨hlk, hq, hfd, hc, hkn, hnx⟩ := m_fl_get hk
  obtain ⟨hd1, hnx2⟩ := m_dec hd hnx
  subst hnx2
  have hval : ∃ v, m_v ad (m_f S c0 k) = m_v ad v ∧ (pc', ls', st', S') = (pc + 3, ls, v :: r, S) := by
    subst hq
    unfold m_f
    rw [hfd]
    rcases hz with ⟨rfl, hz⟩ | ⟨rfl, hz⟩ | ⟨rfl, hz⟩ | ⟨rfl, hz⟩
    · exact ⟨_, rfl, hz⟩
    · exact ⟨_, rfl, hz⟩
    · exact ⟨_, rfl, hz⟩
    · exact ⟨_, rfl, hz⟩
  obtain ⟨v, hv, hz2⟩ := hval
  cases hz2
  have hat := m_fs_at (ad := ad) (S := S) hkn
  rw [hv] at hat
  rcases hlk with hm | hm
  · exact va_get (N := m_nf c0) (ref := (m_Tt c0 k).1) hx hb hts (fun w hw => m_gws_ws (m_uws hc w hw)) hown hK hP c0 (m_w_obj hc) (m_cl hc) k hkn (hts _ (m_gws_ws (m_fl_word hm))) (fun _ h => h) hat hd1 (kk rfl rfl)
  · have hlk : (Cond.fieldLinkNest (m_R (m_ow M)) ix (m_Tt c0 k).1 (m_Tt c0 k).2.1 (m_Tt c0 k).2.2.1 "NullKinds").before args s = true := va_Nw.use rfl (hNs.1 (m_ow M, ix, c0, k, 1) hm rfl)
    exact va_getN (N := m_nf c0) (ref := (m_Tt c0 k).1) hx hb hts (fun w hw => m_gws_ws (m_uws hc w hw)) hown hK hP c0 (m_w_obj hc) (m_cl hc) k hkn hlk (fun _ h => h) hat hd1 (kk rfl rfl)
set_option maxHeartbeats 1000000 in
theorem m_puti_snd {ix c0 k : Nat} {x : Int32} {ty : FieldType} {r : List Value} (hd1 : decode (m_b M) pc = .ok (.putfield ix, 3)) (hm : (m_ow M, ix, c0, k, 0) ∈ m_FL) (hc : c0 < 7) (hkn : k < m_nf c0) (hkd : (m_fd (40 * c0 + k)).1 = 0 ∨ (m_fd (40 * c0 + k)).1 = 2) (hty : parseFieldDescriptor (m_Tt c0 k).2.2.1 = some ty) (hfin : (m_Tt c0 k).2.2.2 = false) (hn : narrow ty (.int x) = .int x) (hfit : fits ty (.int x) = true)
    (hx : p.tables.exec = Jvm.exec) (hb : c.code = m_b M) (hown : s.vm.findClass (m_R (m_ow M)) = some m.cls) (hts : ∀ w ∈ m_ws M, w.before args s = true) (hK : va_K D vwCl (m_tys cI cZ) s) (hP : va_P D vwCl (m_w ad cI cZ S) H) (hD : va_D A (m_w ad cI cZ S)) (hS : va_S A s.heap H locs)
    (kk : ∀ (H' : Heap) (locs' : List Loc), va_P D vwCl (m_w ad cI cZ (upd S.1 (40 * c0 + k) x, S.2)) H' → va_D A (m_w ad cI cZ (upd S.1 (40 * c0 + k) x, S.2)) → va_S A s.heap H' locs' → W p l e R s m args below meth c H' locs' 0 0 Z (F0 m (pc + 3) lsr (r.map (m_v ad)))) :
    W p l e R s m args below meth c H locs 0 0 Z (F0 m pc lsr (.int x :: .ref (ad c0) :: r.map (m_v ad))) := by
  have e1 := m_w_put (ad := ad) (cI := cI) (cZ := cZ) (S := S) (x := x) hc hkn hkd
  rw [e1] at kk
  exact va_put (N := m_nf c0) (ref := (m_Tt c0 k).1) (ty := ty) hx hb hts (fun w hw => m_gws_ws (m_uws hc w hw)) (m_ty c0) (m_tyok hc) (m_nmok hc) hown hK hP hD hS c0 (m_w_obj hc) (m_cl hc) k hkn (hts _ (m_gws_ws (m_fl_word hm))) (fun _ h => h) hfin hty hn hfit (by rw [m_fs_len]; exact hkn) hd1 kk
set_option maxHeartbeats 1000000 in
theorem m_putf_snd {ix nx : Nat} {ex : List Nat} {c1 : Int32} {c2 : Int64} (hd : decode (m_b M) pc = .ok (.putfield ix, nx - pc)) (hk : m_okx M pc (.putfield ix, nx, ex, c1, c2) = true) (hp : m_pf nx ls S ex st = some (pc', ls', st', S'))
    (hx : p.tables.exec = Jvm.exec) (hb : c.code = m_b M) (hown : s.vm.findClass (m_R (m_ow M)) = some m.cls) (hts : ∀ w ∈ m_ws M, w.before args s = true) (hK : va_K D vwCl (m_tys cI cZ) s) (hP : va_P D vwCl (m_w ad cI cZ S) H) (hD : va_D A (m_w ad cI cZ S)) (hS : va_S A s.heap H locs)
    (kk : ls' = ls → ∀ (H' : Heap) (locs' : List Loc), va_P D vwCl (m_w ad cI cZ S') H' → va_D A (m_w ad cI cZ S') → va_S A s.heap H' locs' → W p l e R s m args below meth c H' locs' 0 0 Z (F0 m pc' lsr (st'.map (m_v ad)))) :
    W p l e R s m args below meth c H locs 0 0 Z (F0 m pc lsr (st.map (m_v ad))) := by
  obtain ⟨c0, k, q, g, r, hz⟩ := m_pf_inv hp
  rcases hz with ⟨x, rfl, rfl, hz⟩ | ⟨x, rfl, rfl, hz⟩
  · obtain ⟨hm, hq, hfd, hc, hkn, hnx⟩ := m_fl_put hk
    obtain ⟨hd1, hnx2⟩ := m_dec hd hnx
    subst hnx2
    subst hq
    cases hz
    obtain ⟨hty, hfin⟩ := (m_kd_of hc hkn hfd).1 rfl
    exact m_puti_snd hd1 hm hc hkn (Or.inl (by rw [hfd])) hty hfin rfl rfl hx hb hown hts hK hP hD hS (kk rfl)
  · obtain ⟨hm, hq, hfd, hc, hkn, hnx⟩ := m_fl_put hk
    obtain ⟨hd1, hnx2⟩ := m_dec hd hnx
    subst hnx2
    subst hq
    cases hz
    obtain ⟨hty, hfin, e6, e9⟩ := (m_kd_of hc hkn hfd).2.2 rfl
    subst e6
    subst e9
    have e1 := m_w_long (ad := ad) (cI := cI) (cZ := cZ) (S := S) (y := x)
    have kk2 := kk rfl
    rw [e1] at kk2
    exact va_put (N := m_nf 6) (ref := (m_Tt 6 9).1) (ty := .long) hx hb hts (fun w hw => m_gws_ws (m_uws hc w hw)) (m_ty 6) (m_tyok hc) (m_nmok hc) hown hK hP hD hS 6 (m_w_obj hc) (m_cl hc) 9 hkn (hts _ (m_gws_ws (m_fl_word hm))) (fun _ h => h) hfin hty rfl rfl (by rw [m_fs_len]; exact hkn) hd1 kk2
set_option maxHeartbeats 1000000 in
/-- a step that always goes on: the machine does it -/
theorem m_p_snd (hok : m_oke M pc en = true) (hp : m_p en ls st S = some (pc', ls', st', S')) (C : m_Cx p D ad cI cZ s m args meth c M A) (hP : va_P D vwCl (m_w ad cI cZ S) H) (hD : va_D A (m_w ad cI cZ S)) (hS : va_S A s.heap H locs) (hl : lv_has lsr (m_mx M) (m_vl ad ls))
    (kk : ∀ (H' : Heap) (locs' : List Loc) (lsr' : Array Slot), va_P D vwCl (m_w ad cI cZ S') H' → va_D A (m_w ad cI cZ S') → va_S A s.heap H' locs' → lv_has lsr' (m_mx M) (m_vl ad ls') → W p l e R s m args below meth c H' locs' 0 0 Z (F0 m pc' lsr' (st'.map (m_v ad)))) :
    W p l e R s m args below meth c H locs 0 0 Z (F0 m pc lsr (st.map (m_v ad))) := by
  obtain ⟨hx, hb, -, -, hown, hts, -, hK, hSt, hNs, -⟩ := C
  obtain ⟨hd, hk⟩ := m_ok1 hok
  obtain ⟨i, nx, ex, c1, c2⟩ := en
  dsimp only at hd
  cases i
  case iconst v =>
    obtain ⟨h1, h2⟩ := m_and hk
    obtain ⟨hd1, rfl⟩ := m_dec hd h2
    cases hp
    exact lv_iconst hx hb hd1 (of_decide_eq_true h1) (kk H locs lsr hP hD hS hl)
  case bipush v =>
    obtain ⟨h1, h2⟩ := m_and hk
    obtain ⟨hd1, rfl⟩ := m_dec hd h2
    cases hp
    exact lv_bipush hx hb hd1 (of_decide_eq_true h1) (kk H locs lsr hP hD hS hl)
  case sipush v =>
    obtain ⟨h1, h2⟩ := m_and hk
    obtain ⟨hd1, rfl⟩ := m_dec hd h2
    cases hp
    exact lv_sipush hx hb hd1 (of_decide_eq_true h1) (kk H locs lsr hP hD hS hl)
  case lconst v =>
    obtain ⟨h1, h2⟩ := m_and hk
    obtain ⟨hd1, rfl⟩ := m_dec hd h2
    cases hp
    exact lv_lconst hx hb hd1 (of_decide_eq_true h1) (kk H locs lsr hP hD hS hl)
  case ldc2_w ix =>
    obtain ⟨h1, h2⟩ := m_and hk
    obtain ⟨hd1, rfl⟩ := m_dec hd h2
    cases hp
    have hm : (m_ow M, ix, c2) ∈ m_LL := of_decide_eq_true h1
    have hlk : (Cond.constantLong (m_R (m_ow M)) ix c2).before args s = true := hts _ (m_gws_ws (m_LLok hm))
    exact lv_ldc2 hx hb hown hlk hd1 (kk H locs lsr hP hD hS hl)
  case iload k =>
    obtain ⟨hd1, rfl⟩ := m_dec (len := 2) hd hk
    obtain ⟨x, h1, h2⟩ := m_li_inv hp
    cases h2
    exact lv_iload hx hb hd1 (m_gl_at hl h1).1 (kk H locs lsr hP hD hS hl)
  case iload_n k =>
    obtain ⟨hd1, rfl⟩ := m_dec (len := 1) hd hk
    obtain ⟨x, h1, h2⟩ := m_li_inv hp
    cases h2
    exact lv_iload_n hx hb hd1 rfl (m_gl_at hl h1).1 (kk H locs lsr hP hD hS hl)
  case lload k =>
    obtain ⟨hd1, rfl⟩ := m_dec (len := 2) hd hk
    obtain ⟨x, h1, h2⟩ := m_ll_inv hp
    cases h2
    exact lv_lload hx hb hd1 (m_gl_at hl h1).1 (kk H locs lsr hP hD hS hl)
  case lload_n k =>
    obtain ⟨hd1, rfl⟩ := m_dec (len := 1) hd hk
    obtain ⟨x, h1, h2⟩ := m_ll_inv hp
    cases h2
    exact lv_lload_n hx hb hd1 rfl (m_gl_at hl h1).1 (kk H locs lsr hP hD hS hl)
  case aload_n k =>
    obtain ⟨hd1, rfl⟩ := m_dec (len := 1) hd hk
    obtain ⟨x, h1, h2⟩ := m_la_inv hp
    cases h2
    exact lv_aload_n hx hb hd1 rfl (m_gl_at hl h1).1 (kk H locs lsr hP hD hS hl)
  case istore k =>
    obtain ⟨h0, h2⟩ := m_and hk
    obtain ⟨hd1, rfl⟩ := m_dec hd h2
    obtain ⟨x, r, h1, h2⟩ := m_st_inv hp
    cases h2
    subst h1
    exact lv_istore hx hb hd1 hl (Nat.le_of_ble_eq_true h0) (m_sl_vl (v := .int _)) (fun lsr' hl' => kk H locs lsr' hP hD hS hl')
  case istore_n k =>
    obtain ⟨h0, h2⟩ := m_and hk
    obtain ⟨hd1, rfl⟩ := m_dec hd h2
    obtain ⟨x, r, h1, h2⟩ := m_st_inv hp
    cases h2
    subst h1
    exact lv_istore_n hx hb hd1 rfl hl (Nat.le_of_ble_eq_true h0) (m_sl_vl (v := .int _)) (fun lsr' hl' => kk H locs lsr' hP hD hS hl')
  case iinc k v =>
    obtain ⟨h0, h2⟩ := m_and hk
    obtain ⟨h0, h3⟩ := m_and h0
    obtain ⟨hd1, rfl⟩ := m_dec hd h2
    obtain ⟨x, h1, h2⟩ := m_inc_inv hp
    cases h2
    obtain ⟨-, n, hn⟩ := m_gl_at hl h1
    have hv : Int32.ofInt v = c1 := of_decide_eq_true h3
    exact lv_iinc (v := x + c1) hx hb hd1 hl hn (by rw [hv]) (Nat.le_of_ble_eq_true h0) (m_sl_vl (v := .int _)) (fun lsr' hl' => kk H locs lsr' hP hD hS hl')
  case iadd =>
    obtain ⟨hd1, rfl⟩ := m_dec (len := 1) hd hk
    obtain ⟨x, y, r, h1, h2⟩ := m_2_inv hp
    cases h2
    subst h1
    exact lv_iadd hx hb hd1 (kk H locs lsr hP hD hS hl)
  case isub =>
    obtain ⟨hd1, rfl⟩ := m_dec (len := 1) hd hk
    obtain ⟨x, y, r, h1, h2⟩ := m_2_inv hp
    cases h2
    subst h1
    exact lv_isub hx hb hd1 (kk H locs lsr hP hD hS hl)
  case imul =>
    obtain ⟨hd1, rfl⟩ := m_dec (len := 1) hd hk
    obtain ⟨x, y, r, h1, h2⟩ := m_2_inv hp
    cases h2
    subst h1
    exact lv_imul hx hb hd1 (kk H locs lsr hP hD hS hl)
  case iand =>
    obtain ⟨hd1, rfl⟩ := m_dec (len := 1) hd hk
    obtain ⟨x, y, r, h1, h2⟩ := m_2_inv hp
    cases h2
    subst h1
    exact lv_iand hx hb hd1 (kk H locs lsr hP hD hS hl)
  case ior =>
    obtain ⟨hd1, rfl⟩ := m_dec (len := 1) hd hk
    obtain ⟨x, y, r, h1, h2⟩ := m_2_inv hp
    cases h2
    subst h1
    exact lv_ior hx hb hd1 (kk H locs lsr hP hD hS hl)
  case ixor =>
    obtain ⟨hd1, rfl⟩ := m_dec (len := 1) hd hk
    obtain ⟨x, y, r, h1, h2⟩ := m_2_inv hp
    cases h2
    subst h1
    exact lv_ixor hx hb hd1 (kk H locs lsr hP hD hS hl)
  case ishl =>
    obtain ⟨hd1, rfl⟩ := m_dec (len := 1) hd hk
    obtain ⟨x, y, r, h1, h2⟩ := m_2_inv hp
    cases h2
    subst h1
    exact lv_ishl hx hb hd1 (kk H locs lsr hP hD hS hl)
  case ishr =>
    obtain ⟨hd1, rfl⟩ := m_dec (len := 1) hd hk
    obtain ⟨x, y, r, h1, h2⟩ := m_2_inv hp
    cases h2
    subst h1
    exact lv_ishr hx hb hd1 (kk H locs lsr hP hD hS hl)
  case iushr =>
    obtain ⟨hd1, rfl⟩ := m_dec (len := 1) hd hk
    obtain ⟨x, y, r, h1, h2⟩ := m_2_inv hp
    cases h2
    subst h1
    exact lv_iushr hx hb hd1 rfl (kk H locs lsr hP hD hS hl)
  case goto off =>
    simp only [m_okx] at hk
    simp only [m_p] at hp
    split at hp
    · next t =>
      obtain ⟨h1, h2⟩ := m_and hk
      obtain ⟨hd1, rfl⟩ := m_dec hd h2
      cases hp
      exact lv_goto hx hb hd1 (of_decide_eq_true h1) (kk H locs lsr hP hD hS hl)
    · cases hp
  case dup =>
    obtain ⟨hd1, rfl⟩ := m_dec (len := 1) hd hk
    simp only [m_p] at hp
    split at hp
    · cases hp
      exact lv_dup hx hb hd1 rfl (kk H locs lsr hP hD hS hl)
    · cases hp
      exact lv_dup hx hb hd1 rfl (kk H locs lsr hP hD hS hl)
    · cases hp
  case dup2 =>
    obtain ⟨hd1, rfl⟩ := m_dec (len := 1) hd hk
    simp only [m_p] at hp
    split at hp
    · cases hp
      exact lv_dup2_11 hx hb hd1 rfl rfl (kk H locs lsr hP hD hS hl)
    · cases hp
  case i2l =>
    obtain ⟨hd1, rfl⟩ := m_dec (len := 1) hd hk
    simp only [m_p] at hp
    split at hp
    · cases hp
      exact lv_i2l hx hb hd1 rfl (kk H locs lsr hP hD hS hl)
    · cases hp
  case l2i =>
    obtain ⟨hd1, rfl⟩ := m_dec (len := 1) hd hk
    simp only [m_p] at hp
    split at hp
    · cases hp
      exact lv_l2i hx hb hd1 rfl (kk H locs lsr hP hD hS hl)
    · cases hp
  case lcmp =>
    obtain ⟨hd1, rfl⟩ := m_dec (len := 1) hd hk
    simp only [m_p] at hp
    split at hp
    · cases hp
      exact W.lcmp hx hb hd1 (kk H locs lsr hP hD hS hl)
    · cases hp
  case ladd =>
    obtain ⟨hd1, rfl⟩ := m_dec (len := 1) hd hk
    simp only [m_p] at hp
    split at hp
    · cases hp
      exact lv_ladd hx hb hd1 (kk H locs lsr hP hD hS hl)
    · cases hp
  case tableswitch dflt lo hi offs =>
    obtain ⟨h1, h3⟩ := m_and hk
    obtain ⟨h1, h2⟩ := m_and h1
    simp only [m_p] at hp
    split at hp
    · next x r =>
      cases hp
      have hlen : hi - lo + 1 = ((offs.toList.length : Nat) : Int) := of_decide_eq_true h2
      unfold m_ts at kk
      by_cases ho : x.toInt < lo ∨ hi < x.toInt
      · rw [if_pos ho] at kk
        exact lv_tableOut hx hb hd ho (of_decide_eq_true h1) (kk H locs lsr hP hD hS hl)
      · rw [if_neg ho] at kk
        have hj : (x.toInt - lo).toNat < offs.toList.length := by omega
        obtain ⟨o, hoo⟩ : ∃ o, offs.toList[(x.toInt - lo).toNat]? = some o := ⟨_, List.getElem?_eq_getElem hj⟩
        have h4 := m_lkc_len h3 (x.toInt - lo).toNat (0, o) (by rw [List.getElem?_map, hoo]; rfl)
        have h5 : (ex.drop 1).getD (x.toInt - lo).toNat 0 = ex.getD ((x.toInt - lo).toNat + 1) 0 := by
          simp [List.getD_eq_getElem?_getD, List.getElem?_drop, Nat.add_comm]
        rw [h5] at h4
        exact lv_tableIn hx hb hd (fun q => ho (Or.inl q)) (fun q => ho (Or.inr q)) (by rw [← Array.getElem?_toList]; exact hoo) h4 (kk H locs lsr hP hD hS hl)
    · cases hp
  case lookupswitch dflt ps =>
    obtain ⟨h1, h3⟩ := m_and hk
    obtain ⟨h1, h2⟩ := m_and h1
    simp only [m_p] at hp
    split at hp
    · next x r =>
      cases hp
      exact lv_lookup hx hb hd h2 rfl (m_lkF_ok (of_decide_eq_true h1) x.toInt h3) (kk H locs lsr hP hD hS hl)
    · cases hp
  case getstatic ix =>
    simp only [m_okx] at hk
    simp only [m_p] at hp
    split at hp
    · next g =>
      obtain ⟨h1, h2⟩ := m_and hk
      obtain ⟨hd1, rfl⟩ := m_dec hd h2
      cases hp
      have hm : (m_ow M, ix, g) ∈ m_SL := of_decide_eq_true h1
      obtain ⟨g1, g2⟩ := m_SLok hm
      have hlk : (Cond.fieldLinkNest (m_R (m_ow M)) ix "NullKinds" (m_sn g) "[I" "NullKinds").before args s = true := va_Nw.use rfl (hNs.2.2.1 (m_ow M, ix, g) hm)
      exact va_getsN hx hb (hSt.1 g g1 g2).1 hS hown hlk (fun _ h => h) hd1 (kk H locs lsr hP hD hS hl)
    · cases hp
  case ldc ix =>
    simp only [m_okx] at hk
    simp only [m_p] at hp
    split at hp
    · next g =>
      obtain ⟨h1, h2⟩ := m_and hk
      obtain ⟨h1, h3⟩ := m_and h1
      obtain ⟨hd1, rfl⟩ := m_dec hd h2
      cases hp
      have ho := Nat.eq_of_beq_eq_true h3
      rw [ho] at hown
      have hm : (ix, g) ∈ [(31, 600), (43, 601), (45, 602)] := of_decide_eq_true h1
      have hR3 : vk_R (m_R 3) ix (m_txt g) (ad g) s := hNs.2.2.2 (ix, g) hm
      exact va_ldcS hx hb hown hR3 hd1 (kk H locs lsr hP hD hS hl)
    · cases hp
  case getfield ix => exact m_getf_snd hd hk hp hx hb hown hts hK hNs hP (fun e1 e2 => by subst e1; subst e2; exact kk H locs lsr hP hD hS hl)
  case putfield ix => exact m_putf_snd hd hk hp hx hb hown hts hK hP hD hS (fun e2 H1 locs1 h1 h2 h3 => by subst e2; exact kk H1 locs1 lsr h1 h2 h3 hl)
  all_goals (cases hp)
end MSND
section MSND2
variable {p : Program} {l : Launch} {e : Env} {R : Room} {s : State} {m : MethodId} {args : Array Value} {below : List Frame} {meth : Method} {c : Code} {H : Heap} {locs : List Loc} {Z : State → Prop}
variable {D : va_G} {ad : Nat → Nat} {cI cZ : ClassId} {M pc t : Nat} {A : Nat → Prop} {lsr : Array Slot} {ls : mL} {st st' r : List Value} {S S' : mS} {en : mE} {P G : Prop}
set_option maxHeartbeats 1000000 in
theorem m_b_snd (hok : m_oke M pc en = true) (hp : m_br en st = some (P, t, r)) (C : m_Cx p D ad cI cZ s m args meth c M A)
    (kt : P → W p l e R s m args below meth c H locs 0 0 Z (F0 m t lsr (r.map (m_v ad)))) (kf : ¬ P → W p l e R s m args below meth c H locs 0 0 Z (F0 m en.2.1 lsr (r.map (m_v ad)))) :
    W p l e R s m args below meth c H locs 0 0 Z (F0 m pc lsr (st.map (m_v ad))) := by
  obtain ⟨hx, hb, -⟩ := C
  obtain ⟨hd, hk⟩ := m_ok1 hok
  obtain ⟨i, nx, ex, c1, c2⟩ := en
  dsimp only at hd kf
  cases i
  case ifCond cnd off =>
    simp only [m_okx] at hk
    simp only [m_br] at hp
    split at hp
    · next t0 x r0 =>
      obtain ⟨h1, h2⟩ := m_and hk
      obtain ⟨hd1, rfl⟩ := m_dec hd h2
      cases hp
      cases cnd
      · exact lv_if_eq hx hb hd1 (of_decide_eq_true h1) kt kf
      · exact lv_if_ne hx hb hd1 (of_decide_eq_true h1) kt (fun q => kf (fun z => z q))
      · exact lv_if_lt hx hb hd1 (of_decide_eq_true h1) kt kf
      · exact lv_if_ge hx hb hd1 (of_decide_eq_true h1) kt kf
      · exact lv_if_gt hx hb hd1 (of_decide_eq_true h1) kt kf
      · exact lv_if_le hx hb hd1 (of_decide_eq_true h1) kt kf
    · cases hp
  case if_icmp cnd off =>
    simp only [m_okx] at hk
    simp only [m_br] at hp
    split at hp
    · next t0 y x r0 =>
      obtain ⟨h1, h2⟩ := m_and hk
      obtain ⟨hd1, rfl⟩ := m_dec hd h2
      cases hp
      cases cnd
      · exact lv_icmp_eq hx hb hd1 (of_decide_eq_true h1) kt kf
      · exact lv_icmp_ne hx hb hd1 (of_decide_eq_true h1) kt (fun q => kf (fun z => z q))
      · exact lv_icmp_lt hx hb hd1 (of_decide_eq_true h1) kt kf
      · exact lv_icmp_ge hx hb hd1 (of_decide_eq_true h1) kt kf
      · exact lv_icmp_gt hx hb hd1 (of_decide_eq_true h1) kt kf
      · exact lv_icmp_le hx hb hd1 (of_decide_eq_true h1) kt kf
    · cases hp
  all_goals (cases hp)
theorem m_isSome {a : Nat} (h : (m_ai a).isSome = true) : ∃ n, m_ai a = some n := Option.isSome_iff_exists.mp h
theorem m_ld_w {S : mS} {a n : Nat} (h : m_ai a = some n) (x : Int32) : m_ld S a x = S.2.2 a x.toNatClampNeg := by
  have h1 := (m_ai_lt h).1
  unfold m_ld
  rw [show Nat.blt a 500 = true from Nat.ble_eq_true_of_le h1]
  rfl
theorem m_bool {x : Int32} (h : x = 0 ∨ x = 1) : narrow .boolean (.int x) = .int x ∧ fits .boolean (.int x) = true ∧ vp_nar .boolean x = x := by
  rcases h with h | h <;> subst h <;> exact ⟨rfl, rfl, rfl⟩
set_option maxHeartbeats 1000000 in
theorem m_g_snd (hok : m_oke M pc en = true) (hp : m_g en st S = some (G, st', S')) (hG : G) (C : m_Cx p D ad cI cZ s m args meth c M A) (hP : va_P D vwCl (m_w ad cI cZ S) H) (hD : va_D A (m_w ad cI cZ S)) (hS : va_S A s.heap H locs)
    (kk : ∀ (H' : Heap) (locs' : List Loc), va_P D vwCl (m_w ad cI cZ S') H' → va_D A (m_w ad cI cZ S') → va_S A s.heap H' locs' → W p l e R s m args below meth c H' locs' 0 0 Z (F0 m en.2.1 lsr (st'.map (m_v ad)))) :
    W p l e R s m args below meth c H locs 0 0 Z (F0 m pc lsr (st.map (m_v ad))) := by
  obtain ⟨hx, hb, -, -, hown, hts, -, hK, hSt, hNs, -⟩ := C
  obtain ⟨hd, hk⟩ := m_ok1 hok
  obtain ⟨i, nx, ex, c1, c2⟩ := en
  dsimp only at hd kk
  cases i
  case putfield ix =>
    simp only [m_g] at hp
    split at hp
    · next c0 k q g x a r0 =>
      obtain ⟨h0, hz⟩ := m_bif hp
      have ha := Nat.eq_of_beq_eq_true h0
      subst ha
      obtain ⟨hm, hq, hfd, hc, hkn, hnx⟩ := m_fl_put hk
      obtain ⟨hd1, hnx2⟩ := m_dec hd hnx
      subst hnx2
      subst hq
      cases hz
      obtain ⟨hty, hfin⟩ := (m_kd_of hc hkn hfd).2.1 rfl
      exact m_puti_snd hd1 hm hc hkn (Or.inr (by rw [hfd])) hty hfin (m_bool hG).1 (m_bool hG).2.1 hx hb hown hts hK hP hD hS kk
    · cases hp
  case iaload =>
    obtain ⟨hd1, rfl⟩ := m_dec (len := 1) hd hk
    simp only [m_g] at hp
    split at hp
    · next x a r0 =>
      obtain ⟨h0, hz⟩ := m_bif hp
      cases hz
      by_cases hw : m_wI a = true
      · obtain ⟨h1, h2⟩ := m_and hw
        obtain ⟨n, hn⟩ := m_isSome h1
        have hat := m_w_arr (ad := ad) (cI := cI) (cZ := cZ) (S := S) hn
        rw [show m_az a = false by simpa using h2] at hat
        rw [m_ld_w hn] at kk
        exact va_iald hx hb hK hP (7 + n) 0 hat rfl hG hd1 (kk H locs hP hD hS)
      · have hg : a = 500 ∨ a = 501 ∨ a = 502 := by
          unfold m_rI at h0
          unfold m_wI at hw
          simp only [Bool.or_eq_true] at h0
          rcases h0 with ((h0 | h0) | h0) | h0
          · exact absurd h0 hw
          · exact Or.inl (Nat.eq_of_beq_eq_true h0)
          · exact Or.inr (Or.inl (Nat.eq_of_beq_eq_true h0))
          · exact Or.inr (Or.inr (Nat.eq_of_beq_eq_true h0))
        rcases hg with rfl | rfl | rfl
        · exact va_ti hx hb (hSt.1 500 (by decide) (by decide)).2 hS hG rfl hd1 (kk H locs hP hD hS)
        · exact va_ti hx hb (hSt.1 501 (by decide) (by decide)).2 hS hG rfl hd1 (kk H locs hP hD hS)
        · exact va_ti hx hb (hSt.1 502 (by decide) (by decide)).2 hS hG rfl hd1 (kk H locs hP hD hS)
    · cases hp
  case baload =>
    obtain ⟨hd1, rfl⟩ := m_dec (len := 1) hd hk
    simp only [m_g] at hp
    split at hp
    · next x a r0 =>
      obtain ⟨h0, hz⟩ := m_bif hp
      cases hz
      obtain ⟨h1, h2⟩ := m_and h0
      obtain ⟨n, hn⟩ := m_isSome h1
      have hat := m_w_arr (ad := ad) (cI := cI) (cZ := cZ) (S := S) hn
      rw [h2] at hat
      exact va_zald hx hb hK hP (7 + n) 1 hat rfl hG hd1 (kk H locs hP hD hS)
    · cases hp
  case iastore =>
    obtain ⟨hd1, rfl⟩ := m_dec (len := 1) hd hk
    simp only [m_g] at hp
    split at hp
    · next x y a r0 =>
      obtain ⟨h0, hz⟩ := m_bif hp
      cases hz
      obtain ⟨h1, h2⟩ := m_and h0
      obtain ⟨n, hn⟩ := m_isSome h1
      have hat := m_w_arr (ad := ad) (cI := cI) (cZ := cZ) (S := S) hn
      have e1 := m_w_ast (ad := ad) (cI := cI) (cZ := cZ) (S := S) (f := upd (S.2.2 a) y.toNatClampNeg x) hn
      rw [show m_az a = false by simpa using h2] at hat e1
      exact va_iast hx hb hK hP hD hS (7 + n) 0 hat rfl hG hd1 (fun H1 locs1 hP1 hD1 hS1 => kk H1 locs1 (by rw [e1]; exact hP1) (by rw [e1]; exact hD1) hS1)
    · cases hp
  case bastore =>
    obtain ⟨hd1, rfl⟩ := m_dec (len := 1) hd hk
    simp only [m_g] at hp
    split at hp
    · next x y a r0 =>
      obtain ⟨h0, hz⟩ := m_bif hp
      cases hz
      obtain ⟨h1, h2⟩ := m_and h0
      obtain ⟨n, hn⟩ := m_isSome h1
      have hat := m_w_arr (ad := ad) (cI := cI) (cZ := cZ) (S := S) hn
      have e1 := m_w_ast (ad := ad) (cI := cI) (cZ := cZ) (S := S) (f := upd (S.2.2 a) y.toNatClampNeg x) hn
      rw [h2] at hat e1
      exact va_zast hx hb hK hP hD hS (7 + n) 1 hat rfl hG.2 hd1 (fun H1 locs1 hP1 hD1 hS1 => kk H1 locs1 (by rw [e1]; rw [(m_bool hG.1).2.2] at hP1; exact hP1) (by rw [e1]; rw [(m_bool hG.1).2.2] at hD1; exact hD1) hS1)
    · cases hp
  case arraylength =>
    obtain ⟨hd1, rfl⟩ := m_dec (len := 1) hd hk
    simp only [m_g] at hp
    split at hp
    · next a r0 =>
      obtain ⟨h0, hz⟩ := m_bif hp
      cases hz
      obtain ⟨n, hn⟩ := m_isSome h0
      have hat := m_w_arr (ad := ad) (cI := cI) (cZ := cZ) (S := S) hn
      cases haz : m_az a with
      | true =>
        rw [haz] at hat
        exact va_alen hx hb hK hP (7 + n) 1 hat rfl rfl hd1 (kk H locs hP hD hS)
      | false =>
        rw [haz] at hat
        exact va_alen hx hb hK hP (7 + n) 0 hat rfl rfl hd1 (kk H locs hP hD hS)
    · cases hp
  case idiv =>
    obtain ⟨hd1, rfl⟩ := m_dec (len := 1) hd hk
    simp only [m_g] at hp
    split at hp
    · cases hp
      exact lv_idiv hx hb hd1 hG (kk H locs hP hD hS)
    · cases hp
  case ldiv =>
    obtain ⟨hd1, rfl⟩ := m_dec (len := 1) hd hk
    simp only [m_g] at hp
    split at hp
    · cases hp
      exact lv_ldiv hx hb hd1 hG (kk H locs hP hD hS)
    · cases hp
  all_goals (cases hp)
set_option maxHeartbeats 1000000 in
theorem m_r_snd {v : Option Value} {Q : mQ} (hok : m_oke M pc en = true) (hp : m_rv en st = some (G, v)) (hG : G) (hQ : Q v S) (C : m_Cx p D ad cI cZ s m args meth c M A) (hP : va_P D vwCl (m_w ad cI cZ S) H) (hD : va_D A (m_w ad cI cZ S)) (hS : va_S A s.heap H locs) :
    W p l e R s m args below meth c H locs 0 0 (MQ below (m_Qc D ad cI cZ Q A) args s 0 0 A) (F0 m pc lsr (st.map (m_v ad))) := by
  obtain ⟨hx, hb, hr, -, -, -, hlocks, hK, -⟩ := C
  obtain ⟨hd, hk⟩ := m_ok1 hok
  have hq : m_pl v → ∀ t : State, t.heap = H → s.WarmedH t.vm → m_Qc D ad cI cZ Q A args s (.returned v) t := fun hpl t ht hW => ⟨⟨v, S, rfl, hpl, hQ, by rw [ht]; exact hP, va_K.moved hW.alike hK, hD⟩, hS.F ht⟩
  obtain ⟨i, nx, ex, c1, c2⟩ := en
  dsimp only at hd
  cases i
  case ireturn =>
    simp only [m_rv] at hp
    split at hp
    · next x =>
      cases hp
      obtain ⟨hk1, hk2⟩ := m_and hk
      have hrt : m_rt M = some .int := of_decide_eq_true hk1
      rw [hrt] at hr
      obtain ⟨hd1, -⟩ := m_dec hd hk2
      exact W.iret hx hb hr (hq (fun _ e => by first | (cases e; done) | (cases e; exact fun _ => rfl))) hS.2.2 hd1 hlocks
    · next x =>
      cases hp
      obtain ⟨hk1, hk2⟩ := m_and hk
      have hrt : m_rt M = some .boolean := of_decide_eq_true hk1
      rw [hrt] at hr
      obtain ⟨hd1, -⟩ := m_dec hd hk2
      exact W.zret hx hb hr (m_bool hG).1 (hq (fun _ e => by first | (cases e; done) | (cases e; exact fun _ => rfl))) hS.2.2 hd1 hlocks
    · cases hp
  case lreturn =>
    simp only [m_rv] at hp
    split at hp
    · next x =>
      cases hp
      obtain ⟨hk1, hk2⟩ := m_and hk
      have hrt : m_rt M = some .long := of_decide_eq_true hk1
      rw [hrt] at hr
      obtain ⟨hd1, -⟩ := m_dec hd hk2
      exact W.lret hx hb hr (hq (fun _ e => by first | (cases e; done) | (cases e; exact fun _ => rfl))) hS.2.2 hd1 hlocks
    · cases hp
  case return_ =>
    simp only [m_rv] at hp
    split at hp
    · cases hp
      obtain ⟨hk1, hk2⟩ := m_and hk
      have hrt : m_rt M = none := of_decide_eq_true hk1
      rw [hrt] at hr
      obtain ⟨hd1, -⟩ := m_dec hd hk2
      exact W.vret hx hb hr (hq (fun _ e => by first | (cases e; done) | (cases e; exact fun _ => rfl))) hS.2.2 hd1 hlocks
    · cases hp
  all_goals (cases hp)
end MSND2
end
section
theorem m_args_vl (ad : Nat → Nat) : ∀ (as : List Value) (k : Nat), lv_args k (as.map (m_v ad)) = m_vl ad (lv_args k as) := by
  intro as
  induction as with
  | nil => intro k; rfl
  | cons v vs ih =>
    intro k
    show (k, m_v ad v) :: lv_args (if (m_v ad v).category = 2 then k + 2 else k + 1) (vs.map (m_v ad)) = _
    rw [ih, m_v_cat]
    rfl
theorem m_sl_sum : ∀ (vs : List Value), (lg_sl vs).length = (vs.map fun v => v.category).sum := by
  intro vs
  induction vs with
  | nil => rfl
  | cons v vs ih =>
    have h1 : lg_sl (v :: vs) = (if v.category = 2 then [.val v, .second] else [.val v]) ++ lg_sl vs := by simp [lg_sl]
    rw [h1, List.length_append, ih, List.map_cons, List.sum_cons]
    rcases lv_cat v with h | h <;> simp [h]
theorem m_cat_map (ad : Nat → Nat) (vs : List Value) : ((vs.map (m_v ad)).map fun v => v.category).sum = (vs.map fun v => v.category).sum := by
  rw [List.map_map]
  congr 1
  apply List.map_congr_left
  intro v _
  exact m_v_cat ad v
/-- where a method of the mini machine begins -/
def m_Pc (D : va_G) (ad : Nat → Nat) (cI cZ : ClassId) (as : List Value) (S : mS) (sz : Nat) : Array Value → State → Prop :=
  va_Pc (as.map (m_v ad)) (fun U => U.heap.size = sz ∧ va_P D vwCl (m_w ad cI cZ S) U.heap ∧ va_K D vwCl (m_tys cI cZ) U ∧ va_D (fun _ => True) (m_w ad cI cZ S) ∧ m_St ad (va_A (m_w ad cI cZ S) sz) U U.heap ∧ m_Ns ad U)
theorem m_Pc_blind {D : va_G} {ad : Nat → Nat} {cI cZ : ClassId} {as : List Value} {S : mS} {sz : Nat} : FrameBlind (m_Pc D ad cI cZ as S sz) := by
  intro a U g mk q
  obtain ⟨q0, q1, qP, qK, qD, qS, qN⟩ := q
  exact ⟨q0, q1, qP, va_K.moved (u := U) (U := U.calling g mk a) (Vm.Alike.refl U.vm) qK, qD, m_St.moved (u := U) (U := U.calling g mk a) (Vm.Alike.refl U.vm) qS, m_Ns.same (u := U) (U := U.calling g mk a) rfl qN⟩
/-- the soundness of one place of the mini machine -/
def m_Snd (l : Launch) (D : va_G) (ad : Nat → Nat) (cI cZ : ClassId) : mX := fun d M pc ls st S Q =>
  M < m_NM → ∀ (p : Program) (e : Env) (s : State) (m : MethodId) (args : Array Value) (below : List Frame) (meth : Method) (c : Code) (A : Nat → Prop) (H : Heap) (locs : List Loc) (lsr : Array Slot),
    m_Cx p D ad cI cZ s m args meth c M A → va_P D vwCl (m_w ad cI cZ S) H → va_D A (m_w ad cI cZ S) → va_S A s.heap H locs → lv_has lsr (m_mx M) (m_vl ad ls) →
    W p l e (m_rm d) s m args below meth c H locs 0 0 (MQ below (m_Qc D ad cI cZ Q A) args s 0 0 A) (F0 m pc lsr (st.map (m_v ad)))
theorem m_Snd_mono (l : Launch) (D : va_G) (ad : Nat → Nat) (cI cZ : ClassId) : m_mono (m_Snd l D ad cI cZ) := by
  intro d M pc ls st S Q Q' hq h hM p e s m args below meth c A H locs lsr C hP hD hS hl T hT X
  obtain ⟨t, h1, o, h2, h3, ⟨⟨v, S', h4, h5, h6, h7⟩, h8⟩, h9⟩ := h hM p e s m args below meth c A H locs lsr C hP hD hS hl T hT X
  exact ⟨t, h1, o, h2, h3, ⟨⟨v, S', h4, h5, hq v S' h6, h7⟩, h8⟩, h9⟩
theorem m_okM_all {M : Nat} (h : M < m_NM) : m_cw M ∈ m_gws ∧ Cond.initialized (m_R (m_ow M)) ∈ m_gws ∧ (m_y M).cls = m_R (m_ow M) ∧ plainName (m_y M).cls = true ∧ (m_y M).cls ≠ "java/lang/invoke/MethodHandle" ∧ (m_y M).cls ≠ "java/lang/invoke/VarHandle" ∧ (parseMethodDescriptor (m_y M).desc).map (fun d => d.parameters.length) = some (m_np M) ∧ (m_is M = true → Cond.static (m_y M) ∈ m_gws) ∧ (m_is M = false → Cond.instanceMethod (m_y M) ∈ m_gws ∧ Cond.selects (m_R (m_ow M)) (m_y M) (m_y M) ∈ m_gws ∧ m_ow M < 7) ∧ m_mx M ≤ 18 := by
  obtain ⟨h1, hcw⟩ := ok_M h
  unfold m_okM at h1
  obtain ⟨h1, k9⟩ := m_and h1
  obtain ⟨h1, k8⟩ := m_and h1
  obtain ⟨h1, k7⟩ := m_and h1
  obtain ⟨h1, k6⟩ := m_and h1
  obtain ⟨h1, k5⟩ := m_and h1
  obtain ⟨h1, k4⟩ := m_and h1
  obtain ⟨h1, k3⟩ := m_and h1
  refine ⟨List.mem_filter.mpr ⟨hcw, m_cw_good M⟩, m_gw_in h1, of_decide_eq_true k3, k4, of_decide_eq_true k5, of_decide_eq_true k6, of_decide_eq_true k7, fun hi => ?_, fun hi => ?_, Nat.le_of_ble_eq_true k9⟩
  · rw [hi, cond_true] at k8
    exact m_gw_in k8
  · rw [hi, cond_false] at k8
    obtain ⟨k8, k10⟩ := m_and k8
    obtain ⟨k8, k11⟩ := m_and k8
    exact ⟨m_gw_in k8, m_gw_in k11, Nat.le_of_ble_eq_true k10⟩
/-- a method's contract out of the mini machine -/
theorem m_met {l : Launch} {D : va_G} {ad : Nat → Nat} {cI cZ : ClassId} {d M : Nat} {as : List Value} {S : mS} {Q : mQ} (hM : M < m_NM) (hcat : (as.map fun v => v.category).sum ≤ m_mx M) (h : m_Snd l D ad cI cZ d M 0 (lv_args 0 as) [] S Q) (sz : Nat) :
    Met l (m_y M) (m_ws M) (m_rm d) (m_Pc D ad cI cZ as S sz) (m_Qc D ad cI cZ Q (va_A (m_w ad cI cZ S) sz)) 0 0 (va_A (m_w ad cI cZ S) sz) := by
  obtain ⟨-, -, hcl, hpl, -⟩ := m_okM_all hM
  refine Met.ofW (cc := m_b M) (maxL := m_mx M) (ret := m_rt M) hpl rfl ?_
  intro p e s m args below meth c s₁ B hml hv
  obtain ⟨rfl, hsz, hP, hK, hD0, hSt, hNs⟩ := hv
  subst hsz
  have hown : s.vm.findClass (m_R (m_ow M)) = some m.cls := by rw [← hcl]; exact findClass_of_methodNamed B.named
  rw [lg_entry_eq]
  refine h hM p e s m _ below meth c _ s.heap [] _ ⟨B.exec, B.bytes, B.returns, hml, hown, atoms_spec (ws := m_ws M) B.pre, B.notSynchronized, hK, hSt, hNs, fun q hq => Or.inr hq⟩ hP hD0.self va_S.rf ?_
  rw [← m_args_vl]
  exact lv_entry _ (by rw [m_sl_sum, m_cat_map]; exact hcat)
theorem m_goodw {M : Nat} {w : Cond} (h : w ∈ m_gws) : w ∈ m_ws M ∧ ((w.onTables && w.keeps) = true ∨ ∃ ty, w = .arrayClass ty) := ⟨m_gws_ws h, good_of_word (List.mem_filter.mp h).2⟩
theorem m_good {M : Nat} {ws : List Cond} (h : ∀ w ∈ ws, w ∈ m_gws) : GoodIn (m_ws M) ws := fun w hw => m_goodw (h w hw)
theorem m_ws_gws {M : Nat} (hM : M < m_NM) : ∀ w ∈ m_ws M, w ∈ m_gws := by
  intro w hw
  rcases List.mem_cons.mp hw with h | h
  · rw [h]; exact (m_okM_all hM).1
  · exact h
section MSND3
variable {p : Program} {l : Launch} {e : Env} {R : Room} {s : State} {m : MethodId} {args : Array Value} {below : List Frame} {meth : Method} {c : Code} {H : Heap} {locs : List Loc} {Z : State → Prop}
variable {D : va_G} {ad : Nat → Nat} {cI cZ : ClassId} {A0 A1 : Nat → Prop} {a : Array Value} {H0 : Heap} {pc : Nat} {lsr : Array Slot} {st0 rest : List Value} {Q : mQ} {free : Addr → Prop}
/-- behind a call -/
theorem m_call (hr : va_Run p l e R s m args below meth c H locs 0 0 0 0 (F0 m pc lsr st0) rest (m_Qc D ad cI cZ Q A1 a) free) (hS : va_S A0 H0 H locs) (hA : ∀ q, q < H.size → A1 q → A0 q) (hf : ∀ q, free q → A0 q)
    (kk : ∀ (v : Option Value) (S' : mS) (t : State) (H1 : Heap) (locs1 : List Loc), t.heap = H1 → s.vm.Alike t.vm → m_pl v → Q v S' → va_P D vwCl (m_w ad cI cZ S') H1 → va_D A1 (m_w ad cI cZ S') → H.size ≤ H1.size → (∀ q : Nat, q < H.size → ¬ A1 q → H1[q]? = H[q]?) → va_S A0 H0 H1 locs1 → W p l e R s m args below meth c H1 locs1 0 0 Z (F0 m (pc + 3) lsr (v.toList ++ rest))) :
    W p l e R s m args below meth c H locs 0 0 Z (F0 m pc lsr st0) := by
  intro T hT X
  obtain ⟨v, st₀, t, T', L, h0, X', hL, e1, e2, ⟨⟨v', S', hv, hpl, hq, hP, hK, hD⟩, hz, hk⟩, stp⟩ := hr T hT X
  cases hv
  rw [h0] at hz hk
  obtain ⟨t2, a1, b1⟩ := kk v S' t T'.heap (locs ++ L) e1.symm (by rw [← e2]; exact X'.warmed.alike) hpl hq (by rw [e1]; exact hP) hD (by rw [e1]; exact hz) (fun q h1 h2 => by rw [e1]; exact hk q h1 h2)
    ⟨Nat.le_trans hS.1 (by rw [e1]; exact hz), fun q h1 h2 => by rw [e1, hk q (Nat.lt_of_lt_of_le h1 hS.1) (fun z => h2 (hA q (Nat.lt_of_lt_of_le h1 hS.1) z))]; exact hS.2.1 q h1 h2, fun q hq => by
      rcases List.mem_append.mp hq with h | h
      · exact hS.2.2 q h
      · exact hf _ (hL q h)⟩ T' rfl X'
  exact ⟨t2, stp t2 a1, b1⟩
end MSND3
theorem m_v_list {ad : Nat → Nat} {v : Option Value} (h : m_pl v) : v.toList.map (m_v ad) = v.toList := by
  cases v with
  | none => rfl
  | some x => show [m_v ad x] = [x]; rw [h x rfl ad]
theorem m_w_addr {ad : Nat → Nat} {cI cZ : ClassId} {S S' : mS} {k : Nat} {q : Nat × va_E} (h : (m_w ad cI cZ S)[k]? = some q) : ∃ e', (m_w ad cI cZ S')[k]? = some (q.1, e') := by
  unfold m_w at h ⊢
  by_cases hk : k < 7
  · rw [List.getElem?_append_left (by rw [m_wo_len]; exact hk), m_wo_at hk] at h
    rw [List.getElem?_append_left (by rw [m_wo_len]; exact hk), m_wo_at hk]
    cases h
    exact ⟨_, rfl⟩
  · rw [List.getElem?_append_right (by rw [m_wo_len]; omega), m_wo_len] at h
    rw [List.getElem?_append_right (by rw [m_wo_len]; omega), m_wo_len]
    unfold m_wa at h ⊢
    rw [List.getElem?_map] at h ⊢
    cases hx : m_ar[k - 7]? with
    | none => rw [hx] at h; cases h
    | some x => rw [hx] at h; cases h; exact ⟨_, rfl⟩
theorem m_A_le {ad : Nat → Nat} {cI cZ : ClassId} {S : mS} {A : Nat → Prop} {H0 H : Heap} {locs : List Loc} (hD : va_D A (m_w ad cI cZ S)) (hS : va_S A H0 H locs) (hA : ∀ q, H0.size ≤ q → A q) : ∀ q, va_A (m_w ad cI cZ S) H.size q → A q := by
  intro q h
  rcases h with ⟨k, e, h⟩ | h
  · exact hD.2 k (q, e) h
  · exact hA q (Nat.le_trans hS.1 h)
set_option maxHeartbeats 1000000 in
theorem m_i_snd {p : Program} {l : Launch} {e : Env} {s : State} {m : MethodId} {args : Array Value} {below : List Frame} {meth : Method} {c : Code} {H : Heap} {locs : List Loc} {Z : State → Prop} {D : va_G} {ad : Nat → Nat} {cI cZ : ClassId} {d M M' pc : Nat} {A : Nat → Prop} {lsr : Array Slot} {ls : mL} {st as r : List Value} {S : mS} {en : mE} {Q : mQ}
    (hok : m_oke M pc en = true) (hp : m_iv en st = some (M', as, r)) (hd0 : 0 < d) (h : m_Snd l D ad cI cZ (d - 1) M' 0 (lv_args 0 as) [] S Q) (C : m_Cx p D ad cI cZ s m args meth c M A) (hP : va_P D vwCl (m_w ad cI cZ S) H) (hD : va_D A (m_w ad cI cZ S)) (hS : va_S A s.heap H locs) (hl : lv_has lsr (m_mx M) (m_vl ad ls))
    (kk : ∀ (v : Option Value) (S' : mS) (H1 : Heap) (locs1 : List Loc), Q v S' → va_P D vwCl (m_w ad cI cZ S') H1 → va_D A (m_w ad cI cZ S') → va_S A s.heap H1 locs1 → W p l e (m_rm d) s m args below meth c H1 locs1 0 0 Z (F0 m en.2.1 lsr ((v.toList ++ r).map (m_v ad)))) :
    W p l e (m_rm d) s m args below meth c H locs 0 0 Z (F0 m pc lsr (st.map (m_v ad))) := by
  obtain ⟨hx, hb, -, hml, hown, hts, -, hK, hSt, hNs, hA⟩ := C
  obtain ⟨hd, hk⟩ := m_ok1 hok
  have hFr := m_A_le hD hS hA
  have hpre : ∀ U : State, U.heap = H → s.WarmedH U.vm → m_Pc D ad cI cZ as S H.size (as.map (m_v ad)).toArray U := fun U hU hW =>
    ⟨rfl, by rw [hU], by rw [hU]; exact hP, va_K.moved hW.alike hK, hD.weaken (fun _ _ _ _ => trivial), by rw [hU]; exact m_St.moved hW.alike ((hSt.kept hS.2.1).narrow hFr), m_Ns.warm hW hNs⟩
  obtain ⟨i, nx, ex, c1, c2⟩ := en
  dsimp only at hd kk
  have kk2 : ∀ (hnx : nx = pc + 3) (v : Option Value) (S' : mS) (t : State) (H1 : Heap) (locs1 : List Loc), t.heap = H1 → s.vm.Alike t.vm → m_pl v → Q v S' → va_P D vwCl (m_w ad cI cZ S') H1 → va_D (va_A (m_w ad cI cZ S) H.size) (m_w ad cI cZ S') → H.size ≤ H1.size → (∀ q : Nat, q < H.size → ¬ va_A (m_w ad cI cZ S) H.size q → H1[q]? = H[q]?) → va_S A s.heap H1 locs1 → W p l e (m_rm d) s m args below meth c H1 locs1 0 0 Z (F0 m (pc + 3) lsr (v.toList ++ r.map (m_v ad))) := by
    intro hnx v S' t H1 locs1 _ _ hpl hq hP1 hD1 _ _ hS1
    have := kk v S' H1 locs1 hq hP1 (hD1.weaken (fun k q _ hh => hFr q.1 hh)) hS1
    rw [List.map_append, m_v_list hpl, hnx] at this
    exact this
  simp only [m_iv] at hp
  split at hp
  · next ix =>
    split at hp
    · next M0 =>
      obtain ⟨h0, hz⟩ := m_bif hp
      cases hz
      obtain ⟨h0, hb4⟩ := m_and h0
      obtain ⟨h0, hb3⟩ := m_and h0
      obtain ⟨hb1, hb2⟩ := m_and h0
      obtain ⟨hk4, hk3⟩ := m_and hk
      obtain ⟨hk5, hk2⟩ := m_and hk4
      obtain ⟨hd1, hnx⟩ := m_dec hd hk3
      have hM' := Nat.le_of_ble_eq_true hk2
      obtain ⟨a1, a2, a3, a4, a5, a6, a7, a8, a9, a10⟩ := m_okM_all (M := M') hM'
      have hlen : m_np M' ≤ st.length := Nat.le_of_ble_eq_true hb2
      have hcat : (((st.take (m_np M')).reverse).map fun v => v.category).sum ≤ m_mx M' := by
        rw [List.map_reverse, List.sum_reverse]
        exact Nat.le_of_ble_eq_true hb4
      have hMet := m_met hM' hcat h H.size
      have hn : (((st.take (m_np M')).reverse).map (m_v ad)).length = m_np M' := by simp [hlen]
      have hstk : st.map (m_v ad) = (((st.take (m_np M')).reverse).map (m_v ad)).reverse ++ (st.drop (m_np M')).map (m_v ad) := by
        rw [← List.map_reverse, List.reverse_reverse, ← List.map_append, List.take_append_drop]
      have hW8 : 2 * (F0 m pc lsr (st.map (m_v ad))).monitorRoom + ((((st.drop (m_np M')).map (m_v ad))).map fun v => v.category).sum ≤ 8 := by
        rw [m_cat_map]
        exact lv_room (m := m) (pc := pc) (ls := lsr) (rest := st.map (m_v ad)) (Nat.le_of_ble_eq_true hb3)
      have hRm : (m_rm (d - 1)).frames + 1 ≤ (m_rm d).frames ∧ 8 + (m_mx M' + 11) + (m_rm (d - 1)).locals ≤ (m_rm d).locals := by
        show d - 1 + 1 ≤ d ∧ 8 + (m_mx M' + 11) + 37 * (d - 1) ≤ 37 * d
        omega
      rcases (Bool.or_eq_true _ _).mp hk5 with hk1 | hk1
      · have hf := m_ml_word (of_decide_eq_true hk1)
        refine m_call (va_runS (As := ((st.take (m_np M')).reverse).map (m_v ad)) ⟨hx, hb, hml, hown, hts⟩ hMet (va_cwS (index := ix) (m_np M') hts (m_good (fun w hw => ?_)) rfl rfl rfl ⟨a5, a6, a7⟩ hRm) ⟨m_Pc_blind, hpre⟩ rfl hn hl.1 hstk hW8 hd1 ⟨Nat.zero_le _, Nat.zero_le _⟩) hS (fun q _ hq => hFr q hq) hFr (kk2 hnx)
        unfold va_wsS at hw
        rcases List.mem_append.mp hw with hw | hw
        · rcases List.mem_cons.mp hw with rfl | hw
          · exact hf
          rcases List.mem_cons.mp hw with rfl | hw
          · exact a8 hb1
          rcases List.mem_cons.mp hw with rfl | hw
          · rw [a3]; exact a2
          · cases hw
        · exact m_ws_gws hM' w hw
      · have hm : (m_ow M, ix, M', 1) ∈ m_ML := of_decide_eq_true hk1
        have hnw : va_Nw (.methodLinkNest (m_R (m_ow M)) ix (m_y M') "NullKinds") s := hNs.2.1 (m_ow M, ix, M', 1) hm rfl
        have hini : (Cond.initialized (m_y M').cls).before args s = true := by rw [a3]; exact hts _ (m_gws_ws a2)
        have hsta : (Cond.static (m_y M')).before args s = true := hts _ (m_gws_ws (a8 hb1))
        refine m_call (va_runSN (As := ((st.take (m_np M')).reverse).map (m_v ad)) ⟨hx, hb, hml, hown, hts⟩ hMet ⟨va_cnB (index := ix) (m_np M') hts (m_good (m_ws_gws hM')) rfl rfl rfl hnw hini ⟨a5, a6, a7⟩ hRm, hsta, trivial⟩ ⟨m_Pc_blind, hpre⟩ rfl hn hl.1 hstk hW8 hd1 ⟨Nat.zero_le _, Nat.zero_le _⟩) hS (fun q _ hq => hFr q hq) hFr (kk2 hnx)
    · cases hp
  · next ix =>
    split at hp
    · next M0 a0 r0 hdrop =>
      obtain ⟨h0, hz⟩ := m_bif hp
      cases hz
      obtain ⟨h0, hb5⟩ := m_and h0
      obtain ⟨h0, hb4⟩ := m_and h0
      obtain ⟨h0, hb3⟩ := m_and h0
      obtain ⟨hb1, hb2⟩ := m_and h0
      have hst : m_is M' = false := by simpa using hb1
      have ha0 := Nat.eq_of_beq_eq_true hb2
      subst ha0
      obtain ⟨hk4, hk3⟩ := m_and hk
      obtain ⟨hd1, hnx⟩ := m_dec hd hk3
      have hkk : (m_ow M, ix, M', 0) ∈ m_ML ∧ M' < m_NM := by
        rcases (Bool.or_eq_true _ _).mp hk4 with hk1 | hk1
        · obtain ⟨h1, h2⟩ := m_and hk1
          exact ⟨of_decide_eq_true h1, Nat.le_of_ble_eq_true h2⟩
        · obtain ⟨h1, h2⟩ := m_and hk1
          have := Nat.eq_of_beq_eq_true h1
          subst this
          exact absurd hst (by decide +kernel)
      obtain ⟨hmem, hM'⟩ := hkk
      obtain ⟨a1, a2, a3, a4, a5, a6, a7, a8, a9, a10⟩ := m_okM_all (M := M') hM'
      obtain ⟨b1, b2, b3⟩ := a9 hst
      have hlen : m_np M' ≤ st.length := Nat.le_of_ble_eq_true hb3
      have hcat : ((Value.ref (m_ow M') :: (st.take (m_np M')).reverse).map fun v => v.category).sum ≤ m_mx M' := by
        rw [List.map_cons, List.sum_cons, List.map_reverse, List.sum_reverse, Nat.add_comm]
        exact Nat.le_of_ble_eq_true hb5
      have hMet := m_met hM' hcat h H.size
      have hn : (((st.take (m_np M')).reverse).map (m_v ad)).length = m_np M' := by simp [hlen]
      have hstk : st.map (m_v ad) = (((st.take (m_np M')).reverse).map (m_v ad)).reverse ++ .ref (ad (m_ow M')) :: r.map (m_v ad) := by
        have hdrop' : st.drop (m_np M') = Value.ref (m_ow M') :: r := hdrop
        rw [← List.map_reverse, List.reverse_reverse]
        have : (Value.ref (ad (m_ow M')) :: r.map (m_v ad)) = (st.drop (m_np M')).map (m_v ad) := by rw [hdrop']; rfl
        rw [this, ← List.map_append, List.take_append_drop]
      have hW8 : 2 * (F0 m pc lsr (st.map (m_v ad))).monitorRoom + ((r.map (m_v ad)).map fun v => v.category).sum ≤ 8 := by
        rw [m_cat_map]
        exact lv_room (m := m) (pc := pc) (ls := lsr) (rest := st.map (m_v ad)) (Nat.le_of_ble_eq_true hb4)
      have hRm : (m_rm (d - 1)).frames + 1 ≤ (m_rm d).frames ∧ 8 + (m_mx M' + 11) + (m_rm (d - 1)).locals ≤ (m_rm d).locals := by
        show d - 1 + 1 ≤ d ∧ 8 + (m_mx M' + 11) + 37 * (d - 1) ≤ 37 * d
        omega
      have hf := m_ml_word hmem
      refine m_call (va_runV (C := m_R (m_ow M')) (As := ((st.take (m_np M')).reverse).map (m_v ad)) ⟨hx, hb, hml, hown, hts⟩ hMet (cwV (index := ix) (m_np M') hts (m_good (fun w hw => ?_)) rfl rfl rfl ⟨a3, a5, a6, a7⟩ hRm) ⟨m_Pc_blind, va_recv hK hP (m_cl b3) (m_w_obj b3), hpre⟩ rfl hn hl.1 hstk hW8 hd1 ⟨Nat.zero_le _, Nat.zero_le _⟩) hS (fun q _ hq => hFr q hq) hFr (kk2 hnx)
      unfold wsV at hw
      rcases List.mem_append.mp hw with hw | hw
      · rcases List.mem_cons.mp hw with rfl | hw
        · exact hf
        rcases List.mem_cons.mp hw with rfl | hw
        · exact b1
        rcases List.mem_cons.mp hw with rfl | hw
        · exact b2
        rcases List.mem_cons.mp hw with rfl | hw
        · exact a2
        · cases hw
      · exact m_ws_gws hM' w hw
    · cases hp
  · cases hp
end
section
-- the JDK's String.charAt over the texts of the class
theorem jgood {w0 : Cond} {ws : List Cond} (h : ∀ w ∈ ws, w ∈ m_gws) : GoodIn (w0 :: m_gws) ws := fun w hw => ⟨List.mem_cons_of_mem _ (h w hw), good_of_word (List.mem_filter.mp (h w hw)).2⟩
theorem jall3 {a b c : Cond} {ws : List Cond} (ha : a ∈ m_gws) (hb : b ∈ m_gws) (hc : c ∈ m_gws) (hw : ∀ w ∈ ws, w ∈ m_gws) : ∀ w ∈ ([a, b, c] : List Cond) ++ ws, w ∈ m_gws := by
  intro w h
  rcases List.mem_append.mp h with h | h
  · rcases List.mem_cons.mp h with rfl | h
    · exact ha
    rcases List.mem_cons.mp h with rfl | h
    · exact hb
    rcases List.mem_cons.mp h with rfl | h
    · exact hc
    · cases h
  · exact hw w h
theorem jall4 {a b c d : Cond} {ws : List Cond} (ha : a ∈ m_gws) (hb : b ∈ m_gws) (hc : c ∈ m_gws) (hd : d ∈ m_gws) (hw : ∀ w ∈ ws, w ∈ m_gws) : ∀ w ∈ ([a, b, c, d] : List Cond) ++ ws, w ∈ m_gws := by
  intro w h
  rcases List.mem_append.mp h with h | h
  · rcases List.mem_cons.mp h with rfl | h
    · exact ha
    rcases List.mem_cons.mp h with rfl | h
    · exact hb
    rcases List.mem_cons.mp h with rfl | h
    · exact hc
    rcases List.mem_cons.mp h with rfl | h
    · exact hd
    · cases h
  · exact hw w h
theorem jallc {a : Cond} {ws : List Cond} (ha : a ∈ m_gws) (hw : ∀ w ∈ ws, w ∈ m_gws) : ∀ w ∈ a :: ws, w ∈ m_gws := fun w h => (List.mem_cons.mp h).elim (fun e => e ▸ ha) (hw w)
theorem jself : ∀ w ∈ m_gws, w ∈ m_gws := fun _ h => h
abbrev jk_pci : Cond := .code yJ3_checkIndex_8e157 cJ3_checkIndex_8e157 3 (some .int)
abbrev jk_sci : Cond := .code yJ0_checkIndex_df160 cJ0_checkIndex_df160 2 none
abbrev jk_lat : Cond := .code yJ1_charAt_3b067 cJ1_charAt_3b067 2 (some .char)
abbrev jk_isl : Cond := .code yJ0_isLatin1_aae02 cJ0_isLatin1_aae02 1 (some .boolean)
abbrev jk_chr : Cond := .code yJ0_charAt_5068e cJ0_charAt_5068e 2 (some .char)
theorem jc_pci : jk_pci ∈ m_gws := List.mem_filter.mpr ⟨List.mem_of_getElem? (i := 277) rfl, rfl⟩
theorem jc_sci : jk_sci ∈ m_gws := List.mem_filter.mpr ⟨List.mem_of_getElem? (i := 272) rfl, rfl⟩
theorem jc_lat : jk_lat ∈ m_gws := List.mem_filter.mpr ⟨List.mem_of_getElem? (i := 269) rfl, rfl⟩
theorem jc_isl : jk_isl ∈ m_gws := List.mem_filter.mpr ⟨List.mem_of_getElem? (i := 264) rfl, rfl⟩
theorem jc_chr : jk_chr ∈ m_gws := List.mem_filter.mpr ⟨List.mem_of_getElem? (i := 260) rfl, rfl⟩
theorem jl_chr : Cond.methodLink RX3 33 yJ0_charAt_5068e ∈ m_gws := m_gw_in (k := 257) (by decide +kernel)
theorem jl_isl : Cond.methodLink RJ0 492 yJ0_isLatin1_aae02 ∈ m_gws := m_gw_in (k := 261) (by decide +kernel)
theorem jl_lat : Cond.methodLink RJ0 495 yJ1_charAt_3b067 ∈ m_gws := m_gw_in (k := 267) (by decide +kernel)
theorem jl_sci : Cond.methodLink RJ1 9 yJ0_checkIndex_df160 ∈ m_gws := m_gw_in (k := 270) (by decide +kernel)
theorem jl_pci : Cond.methodLink RJ0 1059 yJ3_checkIndex_8e157 ∈ m_gws := m_gw_in (k := 275) (by decide +kernel)
theorem js_lat : Cond.static yJ1_charAt_3b067 ∈ m_gws := m_gw_in (k := 268) (by decide +kernel)
theorem js_sci : Cond.static yJ0_checkIndex_df160 ∈ m_gws := m_gw_in (k := 271) (by decide +kernel)
theorem js_pci : Cond.static yJ3_checkIndex_8e157 ∈ m_gws := m_gw_in (k := 276) (by decide +kernel)
theorem ji_chr : Cond.instanceMethod yJ0_charAt_5068e ∈ m_gws := m_gw_in (k := 258) (by decide +kernel)
theorem ji_isl : Cond.instanceMethod yJ0_isLatin1_aae02 ∈ m_gws := m_gw_in (k := 262) (by decide +kernel)
theorem je_chr : Cond.selects RJ0 yJ0_charAt_5068e yJ0_charAt_5068e ∈ m_gws := m_gw_in (k := 259) (by decide +kernel)
theorem je_isl : Cond.selects RJ0 yJ0_isLatin1_aae02 yJ0_isLatin1_aae02 ∈ m_gws := m_gw_in (k := 263) (by decide +kernel)
theorem jn_0 : Cond.initialized RJ0 ∈ m_gws := m_gw_in (k := 68) (by decide +kernel)
theorem jn_1 : Cond.initialized RJ1 ∈ m_gws := m_gw_in (k := 69) (by decide +kernel)
theorem jn_3 : Cond.initialized RJ3 ∈ m_gws := m_gw_in (k := 70) (by decide +kernel)
theorem jf_cs : Cond.fieldLink RJ0 38 "java/lang/String" "COMPACT_STRINGS" "Z" ∈ m_gws := m_gw_in (k := 265) (by decide +kernel)
theorem jf_fm : Cond.fieldLink RJ0 1053 "jdk/internal/util/Preconditions" "SIOOBE_FORMATTER" "Ljava/util/function/BiFunction;" ∈ m_gws := m_gw_in (k := 273) (by decide +kernel)
theorem jf_co : Cond.fieldLink RJ0 15 "java/lang/String" "coder" "B" ∈ m_gws := m_gw_in (k := 1077) (by decide +kernel)
theorem jf_va : Cond.fieldLink RJ0 9 "java/lang/String" "value" "[B" ∈ m_gws := m_gw_in (k := 1078) (by decide +kernel)
theorem jd3_0 : decode cJ3_checkIndex_8e157 0 = .ok (.iload_n 0, 1) := by decide +kernel
theorem jd3_1 : decode cJ3_checkIndex_8e157 1 = .ok (.ifCond .lt 8, 3) := by decide +kernel
theorem jd3_4 : decode cJ3_checkIndex_8e157 4 = .ok (.iload_n 0, 1) := by decide +kernel
theorem jd3_5 : decode cJ3_checkIndex_8e157 5 = .ok (.iload_n 1, 1) := by decide +kernel
theorem jd3_6 : decode cJ3_checkIndex_8e157 6 = .ok (.if_icmp .lt 10, 3) := by decide +kernel
theorem jd3_16 : decode cJ3_checkIndex_8e157 16 = .ok (.iload_n 0, 1) := by decide +kernel
theorem jd3_17 : decode cJ3_checkIndex_8e157 17 = .ok (.ireturn, 1) := by decide +kernel
theorem jdc_0 : decode cJ0_checkIndex_df160 0 = .ok (.iload_n 0, 1) := by decide +kernel
theorem jdc_1 : decode cJ0_checkIndex_df160 1 = .ok (.iload_n 1, 1) := by decide +kernel
theorem jdc_2 : decode cJ0_checkIndex_df160 2 = .ok (.getstatic 1053, 3) := by decide +kernel
theorem jdc_5 : decode cJ0_checkIndex_df160 5 = .ok (.invokestatic 1059, 3) := by decide +kernel
theorem jdc_8 : decode cJ0_checkIndex_df160 8 = .ok (.pop, 1) := by decide +kernel
theorem jdc_9 : decode cJ0_checkIndex_df160 9 = .ok (.return_, 1) := by decide +kernel
theorem jdl_0 : decode cJ1_charAt_3b067 0 = .ok (.iload_n 1, 1) := by decide +kernel
theorem jdl_1 : decode cJ1_charAt_3b067 1 = .ok (.aload_n 0, 1) := by decide +kernel
theorem jdl_2 : decode cJ1_charAt_3b067 2 = .ok (.arraylength, 1) := by decide +kernel
theorem jdl_3 : decode cJ1_charAt_3b067 3 = .ok (.invokestatic 9, 3) := by decide +kernel
theorem jdl_6 : decode cJ1_charAt_3b067 6 = .ok (.aload_n 0, 1) := by decide +kernel
theorem jdl_7 : decode cJ1_charAt_3b067 7 = .ok (.iload_n 1, 1) := by decide +kernel
theorem jdl_8 : decode cJ1_charAt_3b067 8 = .ok (.baload, 1) := by decide +kernel
theorem jdl_9 : decode cJ1_charAt_3b067 9 = .ok (.sipush 255, 3) := by decide +kernel
theorem jdl_12 : decode cJ1_charAt_3b067 12 = .ok (.iand, 1) := by decide +kernel
theorem jdl_13 : decode cJ1_charAt_3b067 13 = .ok (.i2c, 1) := by decide +kernel
theorem jdl_14 : decode cJ1_charAt_3b067 14 = .ok (.ireturn, 1) := by decide +kernel
theorem jdi_0 : decode cJ0_isLatin1_aae02 0 = .ok (.getstatic 38, 3) := by decide +kernel
theorem jdi_3 : decode cJ0_isLatin1_aae02 3 = .ok (.ifCond .eq 14, 3) := by decide +kernel
theorem jdi_6 : decode cJ0_isLatin1_aae02 6 = .ok (.aload_n 0, 1) := by decide +kernel
theorem jdi_7 : decode cJ0_isLatin1_aae02 7 = .ok (.getfield 15, 3) := by decide +kernel
theorem jdi_10 : decode cJ0_isLatin1_aae02 10 = .ok (.ifCond .ne 7, 3) := by decide +kernel
theorem jdi_13 : decode cJ0_isLatin1_aae02 13 = .ok (.iconst 1, 1) := by decide +kernel
theorem jdi_14 : decode cJ0_isLatin1_aae02 14 = .ok (.goto 4, 3) := by decide +kernel
theorem jdi_18 : decode cJ0_isLatin1_aae02 18 = .ok (.ireturn, 1) := by decide +kernel
theorem jdh_0 : decode cJ0_charAt_5068e 0 = .ok (.aload_n 0, 1) := by decide +kernel
theorem jdh_1 : decode cJ0_charAt_5068e 1 = .ok (.invokevirtual 492, 3) := by decide +kernel
theorem jdh_4 : decode cJ0_charAt_5068e 4 = .ok (.ifCond .eq 12, 3) := by decide +kernel
theorem jdh_7 : decode cJ0_charAt_5068e 7 = .ok (.aload_n 0, 1) := by decide +kernel
theorem jdh_8 : decode cJ0_charAt_5068e 8 = .ok (.getfield 9, 3) := by decide +kernel
theorem jdh_11 : decode cJ0_charAt_5068e 11 = .ok (.iload_n 1, 1) := by decide +kernel
theorem jdh_12 : decode cJ0_charAt_5068e 12 = .ok (.invokestatic 495, 3) := by decide +kernel
theorem jdh_15 : decode cJ0_charAt_5068e 15 = .ok (.ireturn, 1) := by decide +kernel
abbrev jZ (A : Nat → Prop) (U : State) (H : Heap) : Prop := va_Zq "jdk/internal/util/Preconditions" "SIOOBE_FORMATTER" "Ljava/util/function/BiFunction;" A U H
set_option maxHeartbeats 1000000 in
set_option maxRecDepth 100000 in
theorem c_pci (l : Launch) (x n : Int32) (v : Value) (hv : v = .null ∨ ∃ t, v = .ref t) (h0 : ¬ x < 0) (h1 : x < n) : Met l yJ3_checkIndex_8e157 (jk_pci :: m_gws) (m_rm 0) (fun a _ => a = ([.int x, .int n, v] : List Value).toArray) (vp_Si (fun r => r = x)) 0 0 (fun _ => False) := by
  refine Met.ofW (cc := cJ3_checkIndex_8e157) (maxL := 3) (ret := some .int) (by decide) rfl ?_
  intro p e s m args below meth c s₁ B hml ha
  subst ha
  have hx := B.exec
  have hb := B.bytes
  have hr := B.returns
  have hlocks := B.notSynchronized
  have hl := lv_entry ([.int x, .int n, v]) (n := 3) (by rcases hv with rfl | ⟨t, rfl⟩ <;> exact Nat.le_of_ble_eq_true rfl)
  rw [lg_entry_eq]
  generalize (lg_sl ([.int x, .int n, v]) ++ List.replicate (3 - (lg_sl ([.int x, .int n, v])).length) Slot.unset).toArray = ls at hl ⊢
  have hl : lv_has ls 3 [(0, .int x), (1, .int n), (2, v)] := hl
  refine lv_iload_n hx hb jd3_0 rfl (lv_at hl 0 rfl) ?_
  refine lv_if_lt (tgt := 9) hx hb jd3_1 (by decide) (fun c1 => absurd c1 h0) (fun _ => ?_)
  refine lv_iload_n hx hb jd3_4 rfl (lv_at hl 0 rfl) ?_
  refine lv_iload_n hx hb jd3_5 rfl (lv_at hl 1 rfl) ?_
  refine lv_icmp_lt (tgt := 16) hx hb jd3_6 (by decide) (fun _ => ?_) (fun c1 => absurd h1 c1)
  refine lv_iload_n hx hb jd3_16 rfl (lv_at hl 0 rfl) ?_
  exact W.iret hx hb hr (fun t ht hW => ⟨x, rfl, rfl, ht⟩) (fun _ h => by cases h) jd3_17 hlocks
set_option maxHeartbeats 1000000 in
set_option maxRecDepth 100000 in
theorem c_sci (l : Launch) (A : Nat → Prop) (x n : Int32) (h0 : ¬ x < 0) (h1 : x < n) : Met l yJ0_checkIndex_df160 (jk_sci :: m_gws) (m_rm 1) (va_Pc [.int x, .int n] (fun U => jZ A U U.heap)) (va_Sv (fun _ => True)) 0 0 (fun _ => False) := by
  refine Met.ofW (cc := cJ0_checkIndex_df160) (maxL := 2) (ret := none) (by decide) rfl ?_
  intro p e s m args below meth c s₁ B hml ha
  obtain ⟨rfl, hZ⟩ := ha
  have hx := B.exec
  have hb := B.bytes
  have hr := B.returns
  have hts := atoms_spec (ws := jk_sci :: m_gws) B.pre
  have hown : s.vm.findClass RJ0 = some m.cls := findClass_of_methodNamed B.named
  have hlocks := B.notSynchronized
  have hg : ∀ w ∈ m_gws, w.before ([Value.int x, .int n] : List Value).toArray s = true := fun w h => hts w (List.mem_cons_of_mem _ h)
  have hl := lv_entry ([.int x, .int n]) (n := 2) (Nat.le_of_ble_eq_true rfl)
  rw [lg_entry_eq]
  generalize (lg_sl ([.int x, .int n]) ++ List.replicate (2 - (lg_sl ([.int x, .int n])).length) Slot.unset).toArray = ls at hl ⊢
  have hl : lv_has ls 2 [(0, .int x), (1, .int n)] := hl
  have hS : va_S A s.heap s.heap [] := va_S.rf
  obtain ⟨v, hv, hZv⟩ : ∃ v : Value, (v = .null ∨ ∃ t, v = .ref t) ∧ va_Z "jdk/internal/util/Preconditions" "SIOOBE_FORMATTER" "Ljava/util/function/BiFunction;" v A s s.heap := by
    rcases hZ with h | ⟨t, h⟩
    · exact ⟨_, Or.inl rfl, h⟩
    · exact ⟨_, Or.inr ⟨t, rfl⟩, h⟩
  refine lv_iload_n hx hb jdc_0 rfl (lv_at hl 0 rfl) ?_
  refine lv_iload_n hx hb jdc_1 rfl (lv_at hl 1 rfl) ?_
  refine va_gets hx hb hZv hS hown (hg _ jf_fm) (fun _ h => h) jdc_2 ?_
  refine vp_callSi (W.runS (As := [.int x, .int n, v]) (rest := []) ⟨hx, hb, hml, hown, hts⟩ (c_pci l x n v hv h0 h1) (va_cwS (index := 1059) 3 hts (jgood (jall3 jl_pci js_pci jn_3 (jallc jc_pci jself))) rfl rfl rfl (by decide +kernel) ⟨Nat.le_of_ble_eq_true rfl, Nat.le_of_ble_eq_true rfl⟩) ⟨fun _ _ _ _ q => q, fun _ _ _ => rfl⟩ rfl rfl hl.1 rfl (lv_room (Nat.le_of_ble_eq_true rfl)) jdc_5 ⟨Nat.le_of_ble_eq_true rfl, Nat.le_of_ble_eq_true rfl⟩) (fun r hr1 => ?_)
  refine lv_pop hx hb jdc_8 rfl ?_
  exact W.vret hx hb hr (fun t ht hW => ⟨rfl, trivial, ht⟩) (fun _ h => by cases h) jdc_9 hlocks
theorem j_chv : ∀ g, g < 3 → ∀ j, j < 24 → (((m_chs.getD g []).getD j 0 &&& 255).toUInt32 % 65536).toInt32 = (m_chs.getD g []).getD j 0 := by decide +kernel
theorem j_chn : ∀ g, g < 3 → ∀ j, j < 24 → narrow .char (.int ((m_chs.getD g []).getD j 0)) = .int ((m_chs.getD g []).getD j 0) := by decide +kernel
set_option maxHeartbeats 1000000 in
set_option maxRecDepth 100000 in
theorem c_lat (l : Launch) (A : Nat → Prop) (a g : Nat) (hg3 : g < 3) (x : Int32) (hi : vp_in x 24) : Met l yJ1_charAt_3b067 (jk_lat :: m_gws) (m_rm 2) (va_Pc [.ref a, .int x] (fun U => jZ A U U.heap ∧ va_T .byte a 24 (fun j => .int ((m_chs.getD g []).getD j 0)) A U U.heap)) (vp_Si (fun r => r = (m_chs.getD g []).getD x.toNatClampNeg 0)) 0 0 (fun _ => False) := by
  refine Met.ofW (cc := cJ1_charAt_3b067) (maxL := 2) (ret := some .char) (by decide) rfl ?_
  intro p e s m args below meth c s₁ B hml ha
  obtain ⟨rfl, hZ, hT⟩ := ha
  have hx := B.exec
  have hb := B.bytes
  have hr := B.returns
  have hts := atoms_spec (ws := jk_lat :: m_gws) B.pre
  have hown : s.vm.findClass RJ1 = some m.cls := findClass_of_methodNamed B.named
  have hlocks := B.notSynchronized
  have hl := lv_entry ([.ref a, .int x]) (n := 2) (Nat.le_of_ble_eq_true rfl)
  rw [lg_entry_eq]
  generalize (lg_sl ([.ref a, .int x]) ++ List.replicate (2 - (lg_sl ([.ref a, .int x])).length) Slot.unset).toArray = ls at hl ⊢
  have hl : lv_has ls 2 [(0, .ref a), (1, .int x)] := hl
  have hS : va_S A s.heap s.heap [] := va_S.rf
  obtain ⟨j, hj, ej⟩ := vp_in_of hi (by decide)
  have hcl : x.toNatClampNeg = j := by rw [ej]; exact nI_clamp (by omega)
  refine lv_iload_n hx hb jdl_0 rfl (lv_at hl 1 rfl) ?_
  refine lv_aload_n hx hb jdl_1 rfl (lv_at hl 0 rfl) ?_
  refine va_tlen hx hb hT hS (v := 24) rfl jdl_2 ?_
  refine va_csv (W.runS (As := [.int x, .int 24]) (rest := []) ⟨hx, hb, hml, hown, hts⟩ (c_sci l A x 24 (by rw [ej]; exact nI_pos (by omega)) (by rw [ej]; exact nI_lt hj (by decide))) (va_cwS (index := 9) 2 hts (jgood (jall3 jl_sci js_sci jn_0 (jallc jc_sci jself))) rfl rfl rfl (by decide +kernel) ⟨Nat.le_of_ble_eq_true rfl, Nat.le_of_ble_eq_true rfl⟩) ⟨fun q U g9 mk z => ⟨z.1, va_Zq.moved (u := U) (U := U.calling g9 mk q) (Vm.Alike.refl U.vm) z.2⟩, fun U hU hW => ⟨rfl, by show jZ A U U.heap; rw [hU]; exact va_Zq.moved hW.alike hZ⟩⟩ rfl rfl hl.1 rfl (lv_room (Nat.le_of_ble_eq_true rfl)) jdl_3 ⟨Nat.le_of_ble_eq_true rfl, Nat.le_of_ble_eq_true rfl⟩) (fun _ => ?_)
  refine lv_aload_n hx hb jdl_6 rfl (lv_at hl 0 rfl) ?_
  refine lv_iload_n hx hb jdl_7 rfl (lv_at hl 1 rfl) ?_
  refine va_tb hx hb hT hS hi (v := .int ((m_chs.getD g []).getD x.toNatClampNeg 0)) rfl jdl_8 ?_
  refine lv_sipush hx hb jdl_9 (v := 255) (by decide) ?_
  refine lv_iand hx hb jdl_12 ?_
  refine lv_i2c hx hb jdl_13 (v := (m_chs.getD g []).getD x.toNatClampNeg 0) (by rw [hcl]; exact j_chv g hg3 j hj) ?_
  exact W.zret hx hb hr (by rw [hcl]; exact j_chn g hg3 j hj) (fun t ht hW => ⟨_, rfl, rfl, ht⟩) (fun _ h => by cases h) jdl_14 hlocks
set_option maxHeartbeats 1000000 in
set_option maxRecDepth 100000 in
theorem c_isl (l : Launch) (A : Nat → Prop) (a : Nat) : Met l yJ0_isLatin1_aae02 (jk_isl :: m_gws) (m_rm 0) (va_Pc [.ref a] (fun U => va_Z "java/lang/String" "COMPACT_STRINGS" "Z" (.int 1) A U U.heap ∧ va_OF "java/lang/String" "coder" "B" (.int 0) a A U U.heap)) (vp_Si (fun r => r = 1)) 0 0 (fun _ => False) := by
  refine Met.ofW (cc := cJ0_isLatin1_aae02) (maxL := 1) (ret := some .boolean) (by decide) rfl ?_
  intro p e s m args below meth c s₁ B hml ha
  obtain ⟨rfl, hZ, hO⟩ := ha
  have hx := B.exec
  have hb := B.bytes
  have hr := B.returns
  have hts := atoms_spec (ws := jk_isl :: m_gws) B.pre
  have hown : s.vm.findClass RJ0 = some m.cls := findClass_of_methodNamed B.named
  have hlocks := B.notSynchronized
  have hg : ∀ w ∈ m_gws, w.before ([Value.ref a] : List Value).toArray s = true := fun w h => hts w (List.mem_cons_of_mem _ h)
  have hl := lv_entry ([.ref a]) (n := 1) (Nat.le_of_ble_eq_true rfl)
  rw [lg_entry_eq]
  generalize (lg_sl ([.ref a]) ++ List.replicate (1 - (lg_sl ([.ref a])).length) Slot.unset).toArray = ls at hl ⊢
  have hl : lv_has ls 1 [(0, .ref a)] := hl
  have hS : va_S A s.heap s.heap [] := va_S.rf
  refine va_gets hx hb hZ hS hown (hg _ jf_cs) (fun _ h => h) jdi_0 ?_
  refine lv_if_eq (tgt := 17) hx hb jdi_3 (by decide) (fun c1 => absurd c1 (by decide)) (fun _ => ?_)
  refine lv_aload_n hx hb jdi_6 rfl (lv_at hl 0 rfl) ?_
  refine vk_getf hx hb hO hS hown (hg _ jf_co) (fun _ h => h) jdi_7 ?_
  refine lv_if_ne (tgt := 17) hx hb jdi_10 (by decide) (fun c1 => absurd rfl c1) (fun _ => ?_)
  refine lv_iconst (v := 1) hx hb jdi_13 (by decide) ?_
  refine lv_goto (tgt := 18) hx hb jdi_14 (by decide) ?_
  exact W.zret hx hb hr rfl (fun t ht hW => ⟨1, rfl, rfl, ht⟩) (fun _ h => by cases h) jdi_18 hlocks
theorem j_24 : ∀ g, g < 3 → ([24, 24, 24] : List Nat).getD g 0 = 24 := by decide
/-- a text's char: what the caller must hold -/
def j_Px (A : Nat → Prop) (ad : Nat → Nat) (U : State) : Prop := va_Z "java/lang/String" "COMPACT_STRINGS" "Z" (.int 1) A U U.heap ∧ vk_S 3 [24, 24, 24] m_chs (fun i => ad (600 + i)) (fun i => ad (700 + i)) A U U.heap ∧ jZ A U U.heap
theorem j_Px.moved {A : Nat → Prop} {ad : Nat → Nat} {u U : State} (hvm : u.vm.Alike U.vm) (hh : U.heap = u.heap) (h : j_Px A ad u) : j_Px A ad U := by
  unfold j_Px
  rw [hh]
  exact ⟨va_Z.moved hvm h.1, vk_S.moved hvm h.2.1, va_Zq.moved hvm h.2.2⟩
set_option maxHeartbeats 1000000 in
set_option maxRecDepth 100000 in
theorem c_chr (l : Launch) (A : Nat → Prop) (ad : Nat → Nat) (g : Nat) (hg3 : g < 3) (x : Int32) (hi : vp_in x 24) : Met l yJ0_charAt_5068e (jk_chr :: m_gws) (m_rm 3) (va_Pc [.ref (ad (600 + g)), .int x] (j_Px A ad)) (vp_Si (fun r => r = (m_chs.getD g []).getD x.toNatClampNeg 0)) 0 0 (fun _ => False) := by
  refine Met.ofW (cc := cJ0_charAt_5068e) (maxL := 2) (ret := some .char) (by decide) rfl ?_
  intro p e s m args below meth c s₁ B hml ha
  obtain ⟨rfl, hZ, hV, hF⟩ := ha
  have hx := B.exec
  have hb := B.bytes
  have hr := B.returns
  have hts := atoms_spec (ws := jk_chr :: m_gws) B.pre
  have hown : s.vm.findClass RJ0 = some m.cls := findClass_of_methodNamed B.named
  have hlocks := B.notSynchronized
  have hg : ∀ w ∈ m_gws, w.before ([Value.ref (ad (600 + g)), .int x] : List Value).toArray s = true := fun w h => hts w (List.mem_cons_of_mem _ h)
  have hl := lv_entry ([.ref (ad (600 + g)), .int x]) (n := 2) (Nat.le_of_ble_eq_true rfl)
  rw [lg_entry_eq]
  generalize (lg_sl ([.ref (ad (600 + g)), .int x]) ++ List.replicate (2 - (lg_sl ([.ref (ad (600 + g)), .int x])).length) Slot.unset).toArray = ls at hl ⊢
  have hl : lv_has ls 2 [(0, .ref (ad (600 + g))), (1, .int x)] := hl
  have hS : va_S A s.heap s.heap [] := va_S.rf
  obtain ⟨j, hj, ej⟩ := vp_in_of hi (by decide)
  have hcl : x.toNatClampNeg = j := by rw [ej]; exact nI_clamp (by omega)
  obtain ⟨v1, v2, v3, v4⟩ := hV.1 g hg3
  have v4' : va_T .byte (ad (700 + g)) 24 (fun j => .int ((m_chs.getD g []).getD j 0)) A s s.heap := by
    rw [j_24 g hg3] at v4
    exact v4
  refine lv_aload_n hx hb jdh_0 rfl (lv_at hl 0 rfl) ?_
  refine vp_callSi (W.runV (C := RJ0) (As := []) (rest := []) ⟨hx, hb, hml, hown, hts⟩ (c_isl l A (ad (600 + g))) (cwV (index := 492) 0 hts (jgood (jall4 jl_isl ji_isl je_isl jn_0 (jallc jc_isl jself))) rfl rfl rfl (by decide +kernel) ⟨Nat.le_of_ble_eq_true rfl, Nat.le_of_ble_eq_true rfl⟩) ⟨fun q U g9 mk z => ⟨z.1, va_Z.moved (u := U) (U := U.calling g9 mk q) (Vm.Alike.refl U.vm) z.2.1, va_OF.moved (u := U) (U := U.calling g9 mk q) (Vm.Alike.refl U.vm) z.2.2⟩, vk_recv hV hg3 hS, fun U hU hW => ⟨rfl, by rw [hU]; exact va_Z.moved hW.alike hZ, by rw [hU]; exact va_OF.moved hW.alike v2⟩⟩ rfl rfl hl.1 rfl (lv_room (Nat.le_of_ble_eq_true rfl)) jdh_1 ⟨Nat.le_of_ble_eq_true rfl, Nat.le_of_ble_eq_true rfl⟩) (fun r hr1 => ?_)
  subst hr1
  refine lv_if_eq (tgt := 16) hx hb jdh_4 (by decide) (fun c1 => absurd c1 (by decide)) (fun _ => ?_)
  refine lv_aload_n hx hb jdh_7 rfl (lv_at hl 0 rfl) ?_
  refine vk_getf hx hb v3 hS hown (hg _ jf_va) (fun _ h => h) jdh_8 ?_
  refine lv_iload_n hx hb jdh_11 rfl (lv_at hl 1 rfl) ?_
  refine vp_callSi (W.runS (As := [.ref (ad (700 + g)), .int x]) (rest := []) ⟨hx, hb, hml, hown, hts⟩ (c_lat l A (ad (700 + g)) g hg3 x hi) (va_cwS (index := 495) 2 hts (jgood (jall3 jl_lat js_lat jn_1 (jallc jc_lat jself))) rfl rfl rfl (by decide +kernel) ⟨Nat.le_of_ble_eq_true rfl, Nat.le_of_ble_eq_true rfl⟩) ⟨fun q U g9 mk z => ⟨z.1, va_Zq.moved (u := U) (U := U.calling g9 mk q) (Vm.Alike.refl U.vm) z.2.1, va_T.moved (u := U) (U := U.calling g9 mk q) (Vm.Alike.refl U.vm) z.2.2⟩, fun U hU hW => ⟨rfl, by rw [hU]; exact va_Zq.moved hW.alike hF, by rw [hU]; exact va_T.moved hW.alike v4'⟩⟩ rfl rfl hl.1 rfl (lv_room (Nat.le_of_ble_eq_true rfl)) jdh_12 ⟨Nat.le_of_ble_eq_true rfl, Nat.le_of_ble_eq_true rfl⟩) (fun r hr1 => ?_)
  subst hr1
  exact W.zret hx hb hr (by rw [hcl]; exact j_chn g hg3 j hj) (fun t ht hW => ⟨_, rfl, rfl, ht⟩) (fun _ h => by cases h) jdh_15 hlocks
end
section
theorem m_DL_only {o ix : Nat} (h : (o, ix) ∈ m_DL) : o = 3 ∧ ix = 33 := by
  unfold m_DL at h
  rcases List.mem_cons.mp h with h | h
  · cases h; exact ⟨rfl, rfl⟩
  · cases h
set_option maxHeartbeats 1000000 in
set_option maxRecDepth 100000 in
theorem m_c_snd {p : Program} {l : Launch} {e : Env} {s : State} {m : MethodId} {args : Array Value} {below : List Frame} {meth : Method} {c : Code} {H : Heap} {locs : List Loc} {Z : State → Prop} {D : va_G} {ad : Nat → Nat} {cI cZ : ClassId} {d M pc a : Nat} {x : Int32} {A : Nat → Prop} {lsr : Array Slot} {ls : mL} {st r : List Value} {en : mE}
    (hok : m_oke M pc en = true) (hp : m_cr en st = some (a, x, r)) (hd4 : 4 ≤ d) (hi : vp_in x 24) (C : m_Cx p D ad cI cZ s m args meth c M A) (hS : va_S A s.heap H locs) (hl : lv_has lsr (m_mx M) (m_vl ad ls))
    (kk : W p l e (m_rm d) s m args below meth c H locs 0 0 Z (F0 m en.2.1 lsr ((Value.int (m_ch a x) :: r).map (m_v ad)))) :
    W p l e (m_rm d) s m args below meth c H locs 0 0 Z (F0 m pc lsr (st.map (m_v ad))) := by
  obtain ⟨hx, hb, -, hml, hown, hts, -, hK, hSt, hNs, hA⟩ := C
  obtain ⟨hd, hk⟩ := m_ok1 hok
  have hSt' := hSt.kept hS.2.1
  obtain ⟨i, nx, ex, c1, c2⟩ := en
  dsimp only at hd kk
  cases i
  case invokevirtual ix =>
    simp only [m_cr] at hp
    split at hp
    · next x0 a0 r0 =>
      obtain ⟨h0, hz⟩ := m_bif hp
      cases hz
      obtain ⟨h1, h2⟩ := m_and h0
      obtain ⟨h3, h4⟩ := m_and h1
      have ha1 : a < 603 := Nat.le_of_ble_eq_true h3
      have ha2 : 599 < a := Nat.le_of_ble_eq_true h4
      obtain ⟨hk1, hk2⟩ := m_and hk
      obtain ⟨hd1, hnx⟩ := m_dec hd hk2
      have hmem : (m_ow M, ix) ∈ m_DL := by
        rcases (Bool.or_eq_true _ _).mp hk1 with z | z
        · obtain ⟨-, z2⟩ := m_and z
          exact absurd z2 (by decide +kernel)
        · exact of_decide_eq_true (m_and z).2
      obtain ⟨ho, hix⟩ := m_DL_only hmem
      subst hix
      rw [ho] at hown
      obtain ⟨g, rfl⟩ : ∃ g, a = 600 + g := ⟨a - 600, by omega⟩
      have hg3 : g < 3 := by omega
      have hRm : (m_rm 3).frames + 1 ≤ (m_rm d).frames ∧ 8 + (2 + 11) + (m_rm 3).locals ≤ (m_rm d).locals := by
        show 3 + 1 ≤ d ∧ 8 + (2 + 11) + 37 * 3 ≤ 37 * d
        omega
      have hW8 : 2 * (F0 m pc lsr ((Value.int x :: .ref (600 + g) :: r).map (m_v ad))).monitorRoom + ((r.map (m_v ad)).map fun v => v.category).sum ≤ 8 := by
        rw [m_cat_map]
        exact lv_room (m := m) (pc := pc) (ls := lsr) (rest := (Value.int x :: .ref (600 + g) :: r).map (m_v ad)) (Nat.le_of_ble_eq_true h2)
      have hch : m_ch (600 + g) x = (m_chs.getD g []).getD x.toNatClampNeg 0 := by
        unfold m_ch
        rw [Nat.add_sub_cancel_left]
      refine vp_callSi (W.runV (C := RJ0) (As := [.int x]) (rest := r.map (m_v ad)) ⟨hx, hb, hml, hown, hts⟩ (c_chr l A ad g hg3 x hi) (cwV (own := RX3) (index := 33) 1 hts (m_good (jall4 jl_chr ji_chr je_chr jn_0 (jallc jc_chr jself))) rfl rfl rfl (by decide +kernel) hRm) ⟨fun q U g9 mk z => ⟨z.1, j_Px.moved (u := U) (U := U.calling g9 mk q) (Vm.Alike.refl U.vm) rfl z.2⟩, vk_recv hSt.2.2.1 hg3 hS, fun U hU hW => ⟨rfl, by rw [hU]; exact va_Z.moved hW.alike hSt'.2.1, by rw [hU]; exact vk_S.moved hW.alike hSt'.2.2.1, by rw [hU]; exact va_Zq.moved hW.alike hSt'.2.2.2⟩⟩ rfl rfl hl.1 rfl hW8 hd1 ⟨Nat.zero_le _, Nat.zero_le _⟩) (fun r1 hr1 => ?_)
      subst hr1
      rw [hch, hnx] at kk
      exact kk
    · cases hp
  all_goals (cases hp)
set_option maxHeartbeats 1000000 in
/-- what the mini machine does, the machine does -/
theorem m_snd_closed (l : Launch) (D : va_G) (ad : Nat → Nat) (cI cZ : ClassId) : ∀ d M pc ls st S Q, m_T (m_Snd l D ad cI cZ) d M pc ls st S Q → m_Snd l D ad cI cZ d M pc ls st S Q := by
  intro d M pc ls st S Q h hM p e s m args below meth c A H locs lsr C hP hD hS hl
  unfold m_T at h
  cases hc : m_code M pc with
  | none => rw [hc] at h; exact h.elim
  | some en =>
    rw [hc] at h
    dsimp only at h
    have hok := ok_code hM hc
    cases hp : m_p en ls st S with
    | some z =>
      obtain ⟨pc', ls', st', S'⟩ := z
      rw [hp] at h
      exact m_p_snd hok hp C hP hD hS hl (fun H' locs' lsr' h1 h2 h3 h4 => h hM p e s m args below meth c A H' locs' lsr' C h1 h2 h3 h4)
    | none =>
      rw [hp] at h
      dsimp only at h
      cases hbr : m_br en st with
      | some z =>
        obtain ⟨P, t, r⟩ := z
        rw [hbr] at h
        exact m_b_snd hok hbr C (fun q => h.1 q hM p e s m args below meth c A H locs lsr C hP hD hS hl) (fun q => h.2 q hM p e s m args below meth c A H locs lsr C hP hD hS hl)
      | none =>
        rw [hbr] at h
        dsimp only at h
        cases hg : m_g en st S with
        | some z =>
          obtain ⟨G, st', S'⟩ := z
          rw [hg] at h
          exact m_g_snd hok hg h.1 C hP hD hS (fun H' locs' h1 h2 h3 => h.2 hM p e s m args below meth c A H' locs' lsr C h1 h2 h3 hl)
        | none =>
          rw [hg] at h
          dsimp only at h
          cases hr : m_rv en st with
          | some z =>
            obtain ⟨G, v⟩ := z
            rw [hr] at h
            exact m_r_snd hok hr h.1 h.2 C hP hD hS
          | none =>
            rw [hr] at h
            dsimp only at h
            cases hcr : m_cr en st with
            | some z =>
              obtain ⟨a, x, r⟩ := z
              rw [hcr] at h
              exact m_c_snd hok hcr h.1 h.2.1 C hS hl (h.2.2 hM p e s m args below meth c A H locs lsr C hP hD hS hl)
            | none =>
              rw [hcr] at h
              dsimp only at h
              cases hiv : m_iv en st with
              | some z =>
                obtain ⟨M', as, r⟩ := z
                rw [hiv] at h
                exact m_i_snd hok hiv h.1 h.2 C hP hD hS hl (fun v S' H1 locs1 hq h1 h2 h3 => hq hM p e s m args below meth c A H1 locs1 lsr C h1 h2 h3 hl)
              | none => rw [hiv] at h; exact h.elim
/-- a method's contract: any answer of the mini machine is the machine's -/
theorem Wp.met {d M : Nat} {as : List Value} {S : mS} {Q : mQ} (h : Ev d M as S Q) (hM : M < m_NM) (hcat : (as.map fun v => v.category).sum ≤ m_mx M) (l : Launch) (D : va_G) (ad : Nat → Nat) (cI cZ : ClassId) (sz : Nat) :
    Met l (m_y M) (m_ws M) (m_rm d) (m_Pc D ad cI cZ as S sz) (m_Qc D ad cI cZ Q (va_A (m_w ad cI cZ S) sz)) 0 0 (va_A (m_w ad cI cZ S) sz) :=
  m_met hM hcat (h _ (m_Snd_mono l D ad cI cZ) (m_snd_closed l D ad cI cZ)) sz
end
section
def bI (p : Prop) [Decidable p] : Int32 := if p then 1 else 0
theorem bI_t {p : Prop} [Decidable p] (h : p) : bI p = 1 := if_pos h
theorem bI_f {p : Prop} [Decidable p] (h : ¬ p) : bI p = 0 := if_neg h
theorem bI_01 {p : Prop} [Decidable p] : bI p = 0 ∨ bI p = 1 := by
  unfold bI
  split
  · exact Or.inr rfl
  · exact Or.inl rfl
theorem bI_0 {p : Prop} [Decidable p] : bI p = 0 ↔ ¬ p := by
  unfold bI
  split
  · next h => exact ⟨fun e => absurd e (by decide), fun e => absurd h e⟩
  · next h => exact ⟨fun _ => h, fun _ => rfl⟩
abbrev sF (S : mS) (q : Nat) (x : Int32) : mS := (upd S.1 q x, S.2)
abbrev sA (S : mS) (a i : Nat) (x : Int32) : mS := (S.1, S.2.1, va_up S.2.2 a (upd (S.2.2 a) i x))
theorem s_isVariable {d : Nat} {S : mS} {Q : mQ} {v : Int32} (h : Q (some (.int (bI (0 ≤ v ∧ v < 6)))) S) : Ev d n_X5_isVariable [.int v] S Q := by
  refine Wp.p rfl ?_
  refine Wp.b rfl (fun h1 => ?_) (fun h1 => ?_)
  · rw [bI_f (fun q => Int32.not_lt.mpr q.1 h1)] at h
    refine Wp.p rfl ?_
    exact Wp.r rfl (Or.inl rfl) h
  · iterate 2 refine Wp.p rfl ?_
    refine Wp.b rfl (fun h2 => ?_) (fun h2 => ?_)
    · rw [bI_f (fun q => Int32.not_le.mpr q.2 h2)] at h
      refine Wp.p rfl ?_
      exact Wp.r rfl (Or.inl rfl) h
    · rw [bI_t ⟨Int32.not_lt.mp h1, Int32.not_le.mp h2⟩] at h
      iterate 2 refine Wp.p rfl ?_
      exact Wp.r rfl (Or.inr rfl) h
theorem s_isNumber {d : Nat} {S : mS} {Q : mQ} {v : Int32} (h : Q (some (.int (bI (0 ≤ v ∧ v < 4)))) S) : Ev d n_X5_isNumber [.int v] S Q := by
  refine Wp.p rfl ?_
  refine Wp.b rfl (fun h1 => ?_) (fun h1 => ?_)
  · rw [bI_f (fun q => Int32.not_lt.mpr q.1 h1)] at h
    refine Wp.p rfl ?_
    exact Wp.r rfl (Or.inl rfl) h
  · iterate 2 refine Wp.p rfl ?_
    refine Wp.b rfl (fun h2 => ?_) (fun h2 => ?_)
    · rw [bI_f (fun q => Int32.not_le.mpr q.2 h2)] at h
      refine Wp.p rfl ?_
      exact Wp.r rfl (Or.inl rfl) h
    · rw [bI_t ⟨Int32.not_lt.mp h1, Int32.not_le.mp h2⟩] at h
      iterate 2 refine Wp.p rfl ?_
      exact Wp.r rfl (Or.inr rfl) h
theorem s_only {d : Nat} {S : mS} {Q : mQ} {k : Int32} (h : Q (some (.int (1 <<< (k &&& 31)))) S) : Ev d n_X5_only [.int k] S Q := by
  iterate 3 refine Wp.p rfl ?_
  exact Wp.r rfl trivial h
/-- a set has a kind -/
abbrev hB (x k : Int32) : Prop := ¬ (x >>> (k &&& 31)) &&& 1 = 0
theorem s_holds {d : Nat} {S : mS} {Q : mQ} {x k : Int32} (h1 : hB x k → Q (some (.int 1)) S) (h0 : ¬ hB x k → Q (some (.int 0)) S) : Ev d n_X5_holds [.int x, .int k] S Q := by
  iterate 5 refine Wp.p rfl ?_
  refine Wp.b rfl (fun c => ?_) (fun c => ?_)
  · refine Wp.p rfl ?_
    exact Wp.r rfl (Or.inl rfl) (h0 (fun q => q c))
  · iterate 2 refine Wp.p rfl ?_
    exact Wp.r rfl (Or.inr rfl) (h1 c)
theorem s_share {d : Nat} {S : mS} {Q : mQ} {x y : Int32} (h1 : ¬ x &&& y = 0 → Q (some (.int 1)) S) (h0 : x &&& y = 0 → Q (some (.int 0)) S) : Ev d n_X5_share [.int x, .int y] S Q := by
  iterate 3 refine Wp.p rfl ?_
  refine Wp.b rfl (fun c => ?_) (fun c => ?_)
  · refine Wp.p rfl ?_
    exact Wp.r rfl (Or.inl rfl) (h0 c)
  · iterate 2 refine Wp.p rfl ?_
    exact Wp.r rfl (Or.inr rfl) (h1 c)
theorem s_faultIf {d : Nat} {S : mS} {Q : mQ} {b f : Int32} (h1 : ¬ b = 0 → Q (some (.int (1 <<< (f &&& 31)))) S) (h0 : b = 0 → Q (some (.int 0)) S) : Ev d n_X5_faultIf [.int b, .int f] S Q := by
  refine Wp.p rfl ?_
  refine Wp.b rfl (fun c => ?_) (fun c => ?_)
  · refine Wp.p rfl ?_
    exact Wp.r rfl trivial (h0 c)
  · iterate 4 refine Wp.p rfl ?_
    exact Wp.r rfl trivial (h1 c)
-- Program
theorem s_P_size {d : Nat} {S : mS} {Q : mQ} (h : Q (some (.int (S.1 125))) S) : Ev d n_X3_size [.ref 3] S Q := by
  iterate 2 refine Wp.p rfl ?_
  exact Wp.r rfl trivial h
theorem s_P_empty {d : Nat} {S : mS} {Q : mQ} (h : Q none (sF S 125 0)) : Ev d n_X3_empty [.ref 3] S Q := by
  iterate 3 refine Wp.p rfl ?_
  exact Wp.r rfl trivial h
theorem s_P_has {d : Nat} {S : mS} {Q : mQ} {k : Int32} (h : Q (some (.int (bI (0 ≤ k ∧ k < S.1 125)))) S) : Ev d n_X3_has [.ref 3, .int k] S Q := by
  refine Wp.p rfl ?_
  refine Wp.b rfl (fun h1 => ?_) (fun h1 => ?_)
  · rw [bI_f (fun q => Int32.not_lt.mpr q.1 h1)] at h
    refine Wp.p rfl ?_
    exact Wp.r rfl (Or.inl rfl) h
  · iterate 3 refine Wp.p rfl ?_
    refine Wp.b rfl (fun h2 => ?_) (fun h2 => ?_)
    · rw [bI_f (fun q => Int32.not_le.mpr q.2 h2)] at h
      refine Wp.p rfl ?_
      exact Wp.r rfl (Or.inl rfl) h
    · rw [bI_t ⟨Int32.not_lt.mp h1, Int32.not_le.mp h2⟩] at h
      iterate 2 refine Wp.p rfl ?_
      exact Wp.r rfl (Or.inr rfl) h
theorem s_P_add {d : Nat} {S : mS} {Q : mQ} {co a b c hd : Int32} (hi : vp_in (S.1 125) 32) (h : Q (some (.int (S.1 125))) (sF (sA (sA (sA (sA (sA S 220 (S.1 125).toNatClampNeg co) 221 (S.1 125).toNatClampNeg a) 222 (S.1 125).toNatClampNeg b) 223 (S.1 125).toNatClampNeg c) 224 (S.1 125).toNatClampNeg hd) 125 (S.1 125 + 1))) : Ev d n_X3_add [.ref 3, .int co, .int a, .int b, .int c, .int hd] S Q := by
  iterate 7 refine Wp.p rfl ?_
  refine Wp.g rfl hi ?_
  iterate 4 refine Wp.p rfl ?_
  refine Wp.g rfl hi ?_
  iterate 4 refine Wp.p rfl ?_
  refine Wp.g rfl hi ?_
  iterate 4 refine Wp.p rfl ?_
  refine Wp.g rfl hi ?_
  iterate 4 refine Wp.p rfl ?_
  refine Wp.g rfl hi ?_
  iterate 7 refine Wp.p rfl ?_
  exact Wp.r rfl trivial h
-- Watch
theorem s_W_noteRun {d : Nat} {S : mS} {Q : mQ} (h : Q none (sF S 163 (S.1 163 + 1))) : Ev d n_X4_noteRun [.ref 4] S Q := by
  iterate 6 refine Wp.p rfl ?_
  exact Wp.r rfl trivial h
theorem s_W_noteStep {d : Nat} {S : mS} {Q : mQ} (h : Q none (sF S 162 (S.1 162 + 1))) : Ev d n_X4_noteStep [.ref 4] S Q := by
  iterate 6 refine Wp.p rfl ?_
  exact Wp.r rfl trivial h
theorem s_W_noteKind {d : Nat} {S : mS} {Q : mQ} {s v k : Int32} (hi : vp_in (s * 6 + v) 192) (h : Q none (sA S 260 (s * 6 + v).toNatClampNeg (S.2.2 260 (s * 6 + v).toNatClampNeg ||| 1 <<< (k &&& 31)))) : Ev (d + 1) n_X4_noteKind [.ref 4, .int s, .int v, .int k] S Q := by
  iterate 8 refine Wp.p rfl ?_
  refine Wp.g rfl hi ?_
  refine Wp.p rfl ?_
  refine Wp.i rfl (s_only ?_)
  refine Wp.p rfl ?_
  refine Wp.g rfl hi ?_
  exact Wp.r rfl trivial h
theorem s_W_noteFault {d : Nat} {S : mS} {Q : mQ} {s f : Int32} (hi : vp_in s 32) (h : Q none (sA S 261 s.toNatClampNeg (S.2.2 261 s.toNatClampNeg ||| 1 <<< (f &&& 31)))) : Ev d n_X4_noteFault [.ref 4, .int s, .int f] S Q := by
  iterate 4 refine Wp.p rfl ?_
  refine Wp.g rfl hi ?_
  iterate 4 refine Wp.p rfl ?_
  refine Wp.g rfl hi ?_
  exact Wp.r rfl trivial h
theorem s_W_kindsAt {d : Nat} {S : mS} {Q : mQ} {s v : Int32} (hi : vp_in (s * 6 + v) 192) (h : Q (some (.int (S.2.2 260 (s * 6 + v).toNatClampNeg))) S) : Ev d n_X4_kindsAt [.ref 4, .int s, .int v] S Q := by
  iterate 7 refine Wp.p rfl ?_
  refine Wp.g rfl hi ?_
  exact Wp.r rfl trivial h
theorem s_W_faultsAt {d : Nat} {S : mS} {Q : mQ} {s : Int32} (hi : vp_in s 32) (h : Q (some (.int (S.2.2 261 s.toNatClampNeg))) S) : Ev d n_X4_faultsAt [.ref 4, .int s] S Q := by
  iterate 3 refine Wp.p rfl ?_
  refine Wp.g rfl hi ?_
  exact Wp.r rfl trivial h
theorem s_W_stepsDone {d : Nat} {S : mS} {Q : mQ} (h : Q (some (.int (S.1 162))) S) : Ev d n_X4_stepsDone [.ref 4] S Q := by
  iterate 2 refine Wp.p rfl ?_
  exact Wp.r rfl trivial h
theorem s_W_runs {d : Nat} {S : mS} {Q : mQ} (h : Q (some (.int (S.1 163))) S) : Ev d n_X4_runs [.ref 4] S Q := by
  iterate 2 refine Wp.p rfl ?_
  exact Wp.r rfl trivial h
end
section
/-- all but these int fields and these arrays stays -/
def Fr (fs as : List Nat) (S S' : mS) : Prop := (∀ q, q ∉ fs → S'.1 q = S.1 q) ∧ S'.2.1 = S.2.1 ∧ ∀ a, a ∉ as → S'.2.2 a = S.2.2 a
theorem Fr.rf {fs as : List Nat} {S : mS} : Fr fs as S S := ⟨fun _ _ => rfl, rfl, fun _ _ => rfl⟩
theorem Fr.tr {fs as : List Nat} {S S' S'' : mS} (h : Fr fs as S S') (h2 : Fr fs as S' S'') : Fr fs as S S'' := ⟨fun q hq => (h2.1 q hq).trans (h.1 q hq), h2.2.1.trans h.2.1, fun a ha => (h2.2.2 a ha).trans (h.2.2 a ha)⟩
theorem Fr.up {fs as fs' as' : List Nat} {S S' : mS} (h : Fr fs as S S') (h1 : ∀ q ∈ fs, q ∈ fs') (h2 : ∀ q ∈ as, q ∈ as') : Fr fs' as' S S' := ⟨fun q hq => h.1 q (fun z => hq (h1 q z)), h.2.1, fun a ha => h.2.2 a (fun z => ha (h2 a z))⟩
theorem Fr.f {fs as : List Nat} {S S' : mS} {q : Nat} {x : Int32} (h : Fr fs as S S') (hq : q ∈ fs) : Fr fs as S (sF S' q x) := ⟨fun z hz => by
  show upd S'.1 q x z = S.1 z
  rw [show upd S'.1 q x z = S'.1 z from if_neg (fun e : z = q => hz (by rw [e]; exact hq))]
  exact h.1 z hz, h.2.1, h.2.2⟩
theorem Fr.a {fs as : List Nat} {S S' : mS} {a n : Nat} {x : Int32} (h : Fr fs as S S') (ha : a ∈ as) : Fr fs as S (sA S' a n x) := ⟨h.1, h.2.1, fun z hz => by
  show va_up S'.2.2 a _ z = S.2.2 z
  rw [show va_up S'.2.2 a (upd (S'.2.2 a) n x) z = S'.2.2 z from if_neg (fun e : z = a => hz (by rw [e]; exact ha))]
  exact h.2.2 z hz⟩
/-- the kind of a reference, as the class tells it -/
def kOf (S : mS) (r : Int32) : Int32 := if 0 ≤ r ∧ r < S.1 5 then S.2.2 100 r.toNatClampNeg else if r = -2 then 5 else 0
theorem s_H_empty {d : Nat} {S : mS} {Q : mQ} (h : Q none (sF S 5 0)) : Ev d n_X0_empty [.ref 0] S Q := by
  repeat refine Wp.p rfl ?_
  exact Wp.r rfl trivial h
theorem s_H_size {d : Nat} {S : mS} {Q : mQ} (h : Q (some (.int (S.1 5))) S) : Ev d n_X0_size [.ref 0] S Q := by
  repeat refine Wp.p rfl ?_
  exact Wp.r rfl trivial h
theorem s_H_isFull {d : Nat} {S : mS} {Q : mQ} (h : Q (some (.int (bI (40 ≤ S.1 5)))) S) : Ev d n_X0_isFull [.ref 0] S Q := by
  repeat refine Wp.p rfl ?_
  refine Wp.b rfl (fun c => ?_) (fun c => ?_)
  · rw [bI_f (Int32.not_le.mpr c)] at h
    repeat refine Wp.p rfl ?_
    exact Wp.r rfl (Or.inl rfl) h
  · rw [bI_t (Int32.not_lt.mp c)] at h
    repeat refine Wp.p rfl ?_
    exact Wp.r rfl (Or.inr rfl) h
theorem s_H_firstCell {d : Nat} {S : mS} {Q : mQ} {k : Int32} (h : Q (some (.int (if k = 9 then -2 else if k = 7 ∨ k = 8 then -1 else 0))) S) : Ev d n_X0_firstCell [.int k] S Q := by
  repeat refine Wp.p rfl ?_
  refine Wp.b rfl (fun c => ?_) (fun c => ?_)
  · rw [if_neg c] at h
    repeat refine Wp.p rfl ?_
    refine Wp.b rfl (fun (c7 : k = 7) => ?_) (fun (c7 : ¬ k = 7) => ?_)
    · rw [if_pos (Or.inl c7)] at h
      repeat refine Wp.p rfl ?_
      exact Wp.r rfl trivial h
    · repeat refine Wp.p rfl ?_
      refine Wp.b rfl (fun (c8 : ¬ k = 8) => ?_) (fun (c8 : ¬ ¬ k = 8) => ?_)
      · rw [if_neg (fun q => q.elim c7 c8)] at h
        repeat refine Wp.p rfl ?_
        exact Wp.r rfl trivial h
      · rw [if_pos (Or.inr (Decidable.not_not.mp c8))] at h
        repeat refine Wp.p rfl ?_
        exact Wp.r rfl trivial h
  · rw [if_pos (Decidable.not_not.mp c)] at h
    repeat refine Wp.p rfl ?_
    exact Wp.r rfl trivial h
theorem vp_in_of2 {x y : Int32} {n : Nat} (h0 : 0 ≤ x) (h1 : x < y) (hy : y.toInt ≤ n) : vp_in x n := by
  rw [vp_in_iff]
  have a := Int32.le_iff_toInt_le.mp h0
  have b := Int32.lt_iff_toInt_lt.mp h1
  rw [Int32.toInt_zero] at a
  omega
theorem s_H_kindOf {d : Nat} {S : mS} {Q : mQ} {r : Int32} (hm : (S.1 5).toInt ≤ 40) (h : Q (some (.int (kOf S r))) S) : Ev d n_X0_kindOf [.ref 0, .int r] S Q := by
  unfold kOf at h
  repeat refine Wp.p rfl ?_
  refine Wp.b rfl (fun c => ?_) (fun c => ?_)
  · rw [if_neg (fun q => Int32.not_lt.mpr q.1 c)] at h
    repeat refine Wp.p rfl ?_
    refine Wp.b rfl (fun c2 => ?_) (fun c2 => ?_)
    · rw [if_neg c2] at h
      repeat refine Wp.p rfl ?_
      exact Wp.r rfl trivial h
    · rw [if_pos (Decidable.not_not.mp c2)] at h
      repeat refine Wp.p rfl ?_
      exact Wp.r rfl trivial h
  · repeat refine Wp.p rfl ?_
    refine Wp.b rfl (fun c1 => ?_) (fun c1 => ?_)
    · rw [if_neg (fun q => Int32.not_le.mpr q.2 c1)] at h
      repeat refine Wp.p rfl ?_
      refine Wp.b rfl (fun c2 => ?_) (fun c2 => ?_)
      · rw [if_neg c2] at h
        repeat refine Wp.p rfl ?_
        exact Wp.r rfl trivial h
      · rw [if_pos (Decidable.not_not.mp c2)] at h
        repeat refine Wp.p rfl ?_
        exact Wp.r rfl trivial h
    · have c' := Int32.not_lt.mp c
      have c1' := Int32.not_le.mp c1
      rw [if_pos ⟨c', c1'⟩] at h
      repeat refine Wp.p rfl ?_
      refine Wp.g rfl (vp_in_of2 c' c1' hm) ?_
      exact Wp.r rfl trivial h
theorem s_H_lengthOf {d : Nat} {S : mS} {Q : mQ} {r : Int32} (hi : vp_in r 40) (h : Q (some (.int (S.2.2 101 r.toNatClampNeg))) S) : Ev d n_X0_lengthOf [.ref 0, .int r] S Q := by
  repeat refine Wp.p rfl ?_
  refine Wp.g rfl hi ?_
  exact Wp.r rfl trivial h
theorem s_H_nextOf {d : Nat} {S : mS} {Q : mQ} {r : Int32} (hi : vp_in r 40) (h : Q (some (.int (S.2.2 102 r.toNatClampNeg))) S) : Ev d n_X0_nextOf [.ref 0, .int r] S Q := by
  repeat refine Wp.p rfl ?_
  refine Wp.g rfl hi ?_
  exact Wp.r rfl trivial h
theorem s_H_setNext {d : Nat} {S : mS} {Q : mQ} {r x : Int32} (hi : vp_in r 40) (h : Q none (sA S 102 r.toNatClampNeg x)) : Ev d n_X0_setNext [.ref 0, .int r, .int x] S Q := by
  repeat refine Wp.p rfl ?_
  refine Wp.g rfl hi ?_
  exact Wp.r rfl trivial h
theorem s_H_cell {d : Nat} {S : mS} {Q : mQ} {r x : Int32} (hi : vp_in (r * 20 + x) 800) (h : Q (some (.int (S.2.2 103 (r * 20 + x).toNatClampNeg))) S) : Ev d n_X0_cell [.ref 0, .int r, .int x] S Q := by
  repeat refine Wp.p rfl ?_
  refine Wp.g rfl hi ?_
  exact Wp.r rfl trivial h
theorem s_H_setCell {d : Nat} {S : mS} {Q : mQ} {r x v : Int32} (hi : vp_in (r * 20 + x) 800) (h : Q none (sA S 103 (r * 20 + x).toNatClampNeg v)) : Ev d n_X0_setCell [.ref 0, .int r, .int x, .int v] S Q := by
  repeat refine Wp.p rfl ?_
  refine Wp.g rfl hi ?_
  exact Wp.r rfl trivial h
theorem s_H_takes {d : Nat} {S : mS} {Q : mQ} {r x : Int32} (hi : vp_in r 40) (hm : (S.1 5).toInt ≤ 40) (hk : vp_in (S.2.2 100 r.toNatClampNeg) 10) (h1 : hB (m_sv 501 (S.2.2 100 r.toNatClampNeg).toNatClampNeg) (kOf S x) → Q (some (.int 1)) S) (h0 : ¬ hB (m_sv 501 (S.2.2 100 r.toNatClampNeg).toNatClampNeg) (kOf S x) → Q (some (.int 0)) S) : Ev (d + 1) n_X0_takes [.ref 0, .int r, .int x] S Q := by
  repeat refine Wp.p rfl ?_
  refine Wp.g rfl hi ?_
  refine Wp.g rfl hk ?_
  repeat refine Wp.p rfl ?_
  refine Wp.i rfl (s_H_kindOf hm ?_)
  refine Wp.i rfl (s_holds (fun c => ?_) (fun c => ?_))
  · exact Wp.r rfl (Or.inr rfl) (h1 c)
  · exact Wp.r rfl (Or.inl rfl) (h0 c)
/-- what a loop has laid into the cells -/
def fillC (f : Nat → Int32) (lo : Nat) (x : Int32) : Nat → Nat → Int32
  | 0 => f
  | n + 1 => upd (fillC f lo x n) (lo + n) x
theorem s_H_make_loop {d : Nat} {Q : mQ} {o len : Nat} {ki fc : Int32} (ho : o < 40) (hlen : len ≤ 20) (S0 : mS) (hQ : ∀ S', Fr [] [103] S0 S' → S'.2.2 103 = fillC (S0.2.2 103) (20 * o) fc len → Q (some (.int (nI o))) S') : ∀ (n j : Nat) (S : mS), j + n = len → Fr [] [103] S0 S → S.2.2 103 = fillC (S0.2.2 103) (20 * o) fc j →
    Wp (d + 1) n_X0_make 45 [(5, .int (nI j)), (4, .int fc), (3, .int (nI o)), (0, .ref 0), (1, .int ki), (2, .int (nI len))] [] S Q := by
  intro n
  induction n with
  | zero =>
    intro j S hj hF hC
    obtain rfl : j = len := by omega
    repeat refine Wp.p rfl ?_
    refine Wp.b rfl (fun c => ?_) (fun c => absurd (nI_le (Nat.le_refl _) (by omega)) c)
    repeat refine Wp.p rfl ?_
    exact Wp.r rfl trivial (hQ S hF hC)
  | succ n ih =>
    intro j S hj hF hC
    have hlt : j < len := by omega
    have hix : nI o * 20 + nI j = nI (20 * o + j) := by
      rw [show (20 : Int32) = nI 20 from rfl, pk_mul, nI_add, Nat.mul_comm]
    repeat refine Wp.p rfl ?_
    refine Wp.b rfl (fun c => absurd c (nI_ge hlt (by omega))) (fun c => ?_)
    repeat refine Wp.p rfl ?_
    refine Wp.i rfl (s_H_setCell (by rw [hix]; exact vp_in_nI (by omega) (by omega)) ?_)
    iterate 2 refine Wp.p rfl ?_
    show Wp (d + 1) n_X0_make 45 [(5, .int (nI j + 1)), (4, .int fc), (3, .int (nI o)), (0, .ref 0), (1, .int ki), (2, .int (nI len))] [] _ Q
    rw [nI_1]
    refine ih (j + 1) _ (by omega) (hF.a (by decide)) ?_
    show upd (S.2.2 103) _ fc = _
    rw [hix, nI_clamp (by omega), hC]
    rfl
theorem s_H_make {d : Nat} {Q : mQ} {o len : Nat} {ki : Int32} {S : mS} (ho : o < 40) (hlen : len ≤ 20) (hm : S.1 5 = nI o) (hQ : ∀ S', Fr [5] [100, 101, 102, 103] S S' → S'.1 5 = nI (o + 1) → S'.2.2 100 = upd (S.2.2 100) o ki → S'.2.2 101 = upd (S.2.2 101) o (nI len) → S'.2.2 102 = upd (S.2.2 102) o (-1) → S'.2.2 103 = fillC (S.2.2 103) (20 * o) (if ki = 9 then -2 else if ki = 7 ∨ ki = 8 then -1 else 0) len → Q (some (.int (nI o))) S') : Ev (d + 1) n_X0_make [.ref 0, .int ki, .int (nI len)] S Q := by
  have hin : vp_in (S.1 5) 40 := by rw [hm]; exact vp_in_nI ho (by omega)
  have hcl : (S.1 5).toNatClampNeg = o := by rw [hm]; exact nI_clamp (by omega)
  repeat refine Wp.p rfl ?_
  refine Wp.g rfl hin ?_
  repeat refine Wp.p rfl ?_
  refine Wp.g rfl hin ?_
  repeat refine Wp.p rfl ?_
  refine Wp.g rfl hin ?_
  repeat refine Wp.p rfl ?_
  refine Wp.i rfl (s_H_firstCell ?_)
  iterate 3 refine Wp.p rfl ?_
  have key := s_H_make_loop (d := d) (Q := Q) (ki := ki) (fc := if ki = 9 then -2 else if ki = 7 ∨ ki = 8 then -1 else 0) ho hlen (sF (sA (sA (sA S 100 (S.1 5).toNatClampNeg ki) 101 (S.1 5).toNatClampNeg (nI len)) 102 (S.1 5).toNatClampNeg (-1)) 5 (S.1 5 + 1)) (fun S' hF hC => by
    refine hQ S' ?_ ?_ ?_ ?_ ?_ hC
    · exact Fr.tr ((((Fr.rf.a (by decide)).a (by decide)).a (by decide)).f (by decide)) (hF.up (by decide) (by decide))
    · rw [hF.1 5 (by decide)]
      show S.1 5 + 1 = _
      rw [hm, nI_1]
    · rw [hF.2.2 100 (by decide), ← hcl]; rfl
    · rw [hF.2.2 101 (by decide), ← hcl]; rfl
    · rw [hF.2.2 102 (by decide), ← hcl]; rfl) len 0 _ (by omega) Fr.rf rfl
  rw [← hm] at key
  exact key
end
section
-- Machine: the small methods
theorem s_M_castFault {d : Nat} {S : mS} {Q : mQ} {r ty : Int32} (ht : vp_in ty 11) (hm : (S.1 5).toInt ≤ 40) (h0 : hB (m_sv 500 ty.toNatClampNeg ||| 1) (kOf S r) → Q (some (.int 0)) S) (h2 : ¬ hB (m_sv 500 ty.toNatClampNeg ||| 1) (kOf S r) → Q (some (.int 2)) S) : Ev (d + 1) n_X1_castFault [.ref 1, .int r, .int ty] S Q := by
  repeat refine Wp.p rfl ?_
  refine Wp.i rfl (s_H_kindOf hm ?_)
  repeat refine Wp.p rfl ?_
  refine Wp.g rfl ht ?_
  repeat refine Wp.p rfl ?_
  refine Wp.i rfl (s_holds (fun c => ?_) (fun c => ?_))
  · refine Wp.b rfl (fun (e : (1 : Int32) = 0) => absurd e (by decide)) (fun _ => ?_)
    repeat refine Wp.p rfl ?_
    exact Wp.r rfl trivial (h0 c)
  · refine Wp.b rfl (fun _ => ?_) (fun e => absurd rfl e)
    repeat refine Wp.p rfl ?_
    exact Wp.r rfl trivial (h2 c)
theorem s_M_useFault {d : Nat} {S : mS} {Q : mQ} {r ty : Int32} (ht : vp_in ty 11) (hm : (S.1 5).toInt ≤ 40) (h1 : kOf S r = 0 → Q (some (.int 1)) S) (h0 : ¬ kOf S r = 0 → hB (m_sv 500 ty.toNatClampNeg) (kOf S r) → Q (some (.int 0)) S) (h2 : ¬ kOf S r = 0 → ¬ hB (m_sv 500 ty.toNatClampNeg) (kOf S r) → Q (some (.int 2)) S) : Ev (d + 1) n_X1_useFault [.ref 1, .int r, .int ty] S Q := by
  repeat refine Wp.p rfl ?_
  refine Wp.i rfl (s_H_kindOf hm ?_)
  repeat refine Wp.p rfl ?_
  refine Wp.b rfl (fun c1 => ?_) (fun (c1 : ¬ ¬ kOf S r = 0) => ?_)
  · repeat refine Wp.p rfl ?_
    refine Wp.g rfl ht ?_
    repeat refine Wp.p rfl ?_
    refine Wp.i rfl (s_holds (fun c => ?_) (fun c => ?_))
    · refine Wp.b rfl (fun (e : (1 : Int32) = 0) => absurd e (by decide)) (fun _ => ?_)
      repeat refine Wp.p rfl ?_
      exact Wp.r rfl trivial (h0 c1 c)
    · refine Wp.b rfl (fun _ => ?_) (fun e => absurd rfl e)
      repeat refine Wp.p rfl ?_
      exact Wp.r rfl trivial (h2 c1 c)
  · repeat refine Wp.p rfl ?_
    exact Wp.r rfl trivial (h1 (Decidable.not_not.mp c1))
theorem s_M_cellFault {d : Nat} {S : mS} {Q : mQ} {r ty x : Int32} (ht : vp_in ty 11) (hm : (S.1 5).toInt ≤ 40) (hv : ¬ kOf S r = 0 → vp_in r 40) (h1 : kOf S r = 0 → Q (some (.int 1)) S) (h2 : ¬ kOf S r = 0 → ¬ hB (m_sv 500 ty.toNatClampNeg) (kOf S r) → Q (some (.int 2)) S) (h3 : ¬ kOf S r = 0 → hB (m_sv 500 ty.toNatClampNeg) (kOf S r) → ¬ (0 ≤ x ∧ x < S.2.2 101 r.toNatClampNeg) → Q (some (.int 3)) S) (h0 : ¬ kOf S r = 0 → hB (m_sv 500 ty.toNatClampNeg) (kOf S r) → 0 ≤ x → x < S.2.2 101 r.toNatClampNeg → Q (some (.int 0)) S) : Ev (d + 2) n_X1_cellFault [.ref 1, .int r, .int ty, .int x] S Q := by
  repeat refine Wp.p rfl ?_
  refine Wp.i rfl (s_M_useFault ht hm (fun c => ?_) (fun c1 c => ?_) (fun c1 c => ?_))
  · repeat refine Wp.p rfl ?_
    refine Wp.b rfl (fun (e : (1 : Int32) = 0) => absurd e (by decide)) (fun _ => ?_)
    repeat refine Wp.p rfl ?_
    exact Wp.r rfl trivial (h1 c)
  · repeat refine Wp.p rfl ?_
    refine Wp.b rfl (fun _ => ?_) (fun e => absurd rfl e)
    repeat refine Wp.p rfl ?_
    refine Wp.b rfl (fun (e : x < 0) => ?_) (fun (e : ¬ x < 0) => ?_)
    · repeat refine Wp.p rfl ?_
      exact Wp.r rfl trivial (h3 c1 c (fun q => Int32.not_lt.mpr q.1 e))
    · repeat refine Wp.p rfl ?_
      refine Wp.i rfl (s_H_lengthOf (hv c1) ?_)
      refine Wp.b rfl (fun (e2 : x < S.2.2 101 r.toNatClampNeg) => ?_) (fun (e2 : ¬ x < S.2.2 101 r.toNatClampNeg) => ?_)
      · repeat refine Wp.p rfl ?_
        exact Wp.r rfl trivial (h0 c1 c (Int32.not_lt.mp e) e2)
      · repeat refine Wp.p rfl ?_
        exact Wp.r rfl trivial (h3 c1 c (fun q => e2 q.2))
  · repeat refine Wp.p rfl ?_
    refine Wp.b rfl (fun (e : (2 : Int32) = 0) => absurd e (by decide)) (fun _ => ?_)
    repeat refine Wp.p rfl ?_
    exact Wp.r rfl trivial (h2 c1 c)
theorem s_M_jumpIf {d : Nat} {S : mS} {Q : mQ} {b x : Int32} (h1 : ¬ b = 0 → Q none (sF S 45 x)) (h0 : b = 0 → Q none S) : Ev d n_X1_jumpIf [.ref 1, .int b, .int x] S Q := by
  repeat refine Wp.p rfl ?_
  refine Wp.b rfl (fun c => ?_) (fun c => ?_)
  · exact Wp.r rfl trivial (h0 c)
  · repeat refine Wp.p rfl ?_
    exact Wp.r rfl trivial (h1 c)
theorem s_M_makeThing {d o : Nat} {S : mS} {Q : mQ} {v k : Int32} (hv : vp_in v 6) (ho : o ≤ 40) (hm : S.1 5 = nI o) (h8 : o = 40 → Q (some (.int 8)) S) (h0 : o < 40 → ∀ S', Fr [5] [143, 100, 101, 102, 103] S S' → S'.1 5 = nI (o + 1) → S'.2.2 143 = upd (S.2.2 143) v.toNatClampNeg (nI o) → S'.2.2 100 = upd (S.2.2 100) o k → S'.2.2 101 = upd (S.2.2 101) o 0 → S'.2.2 102 = upd (S.2.2 102) o (-1) → S'.2.2 103 = S.2.2 103 → Q (some (.int 0)) S') : Ev (d + 2) n_X1_makeThing [.ref 1, .int v, .int k] S Q := by
  repeat refine Wp.p rfl ?_
  refine Wp.i rfl (s_H_isFull ?_)
  by_cases hf : o = 40
  · refine Wp.b rfl (fun e => absurd (show (40 : Int32) ≤ S.1 5 by rw [hm, hf]; decide) (bI_0.mp e)) (fun _ => ?_)
    repeat refine Wp.p rfl ?_
    exact Wp.r rfl trivial (h8 hf)
  · have hlt : o < 40 := by omega
    refine Wp.b rfl (fun _ => ?_) (fun e => absurd (bI_0.mpr (show ¬ (40 : Int32) ≤ S.1 5 by rw [hm]; exact nI_ge (b := 40) hlt (by decide))) e)
    repeat refine Wp.p rfl ?_
    refine Wp.i rfl (s_H_make (len := 0) hlt (by omega) hm (fun S' hF f5 k0 l0 x0 c0 => ?_))
    refine Wp.g rfl hv ?_
    repeat refine Wp.p rfl ?_
    refine Wp.r rfl trivial (h0 hlt _ (Fr.a (hF.up (by decide) (by decide)) (by decide)) f5 ?_ ?_ ?_ ?_ ?_)
    · show upd (S'.2.2 143) _ _ = _
      rw [hF.2.2 143 (by decide)]
    · exact k0
    · exact l0
    · exact x0
    · exact c0
theorem s_M_makeArray {d o : Nat} {S : mS} {Q : mQ} {v k n : Int32} (hv : vp_in v 6) (ho : o ≤ 40) (hm : S.1 5 = nI o) (h5 : n < 0 → Q (some (.int 5)) S) (h8 : ¬ n < 0 → (20 < n ∨ o = 40) → Q (some (.int 8)) S) (h0 : ∀ len, len ≤ 20 → n = nI len → o < 40 → ∀ S', Fr [5] [143, 100, 101, 102, 103] S S' → S'.1 5 = nI (o + 1) → S'.2.2 143 = upd (S.2.2 143) v.toNatClampNeg (nI o) → S'.2.2 100 = upd (S.2.2 100) o k → S'.2.2 101 = upd (S.2.2 101) o (nI len) → S'.2.2 102 = upd (S.2.2 102) o (-1) → S'.2.2 103 = fillC (S.2.2 103) (20 * o) (if k = 9 then -2 else if k = 7 ∨ k = 8 then -1 else 0) len → Q (some (.int 0)) S') : Ev (d + 2) n_X1_makeArray [.ref 1, .int v, .int k, .int n] S Q := by
  repeat refine Wp.p rfl ?_
  refine Wp.b rfl (fun (c : 0 ≤ n) => ?_) (fun c => ?_)
  · have c' : ¬ n < 0 := Int32.not_lt.mpr c
    repeat refine Wp.p rfl ?_
    refine Wp.b rfl (fun (c2 : 20 < n) => ?_) (fun (c2 : ¬ 20 < n) => ?_)
    · repeat refine Wp.p rfl ?_
      exact Wp.r rfl trivial (h8 c' (Or.inl c2))
    · obtain ⟨len, hl, rfl⟩ := nI_of2 (M := 20) (n := 20) rfl c' (Int32.not_lt.mp c2)
      repeat refine Wp.p rfl ?_
      refine Wp.i rfl (s_H_isFull ?_)
      by_cases hf : o = 40
      · refine Wp.b rfl (fun e => absurd (show (40 : Int32) ≤ S.1 5 by rw [hm, hf]; decide) (bI_0.mp e)) (fun _ => ?_)
        repeat refine Wp.p rfl ?_
        exact Wp.r rfl trivial (h8 c' (Or.inr hf))
      · have hlt : o < 40 := by omega
        refine Wp.b rfl (fun _ => ?_) (fun e => absurd (bI_0.mpr (show ¬ (40 : Int32) ≤ S.1 5 by rw [hm]; exact nI_ge (b := 40) hlt (by decide))) e)
        repeat refine Wp.p rfl ?_
        refine Wp.i rfl (s_H_make hlt hl hm (fun S' hF f5 k0 l0 x0 c0 => ?_))
        refine Wp.g rfl hv ?_
        repeat refine Wp.p rfl ?_
        refine Wp.r rfl trivial (h0 len hl rfl hlt _ (Fr.a (hF.up (by decide) (by decide)) (by decide)) f5 ?_ ?_ ?_ ?_ ?_)
        · show upd (S'.2.2 143) _ _ = _
          rw [hF.2.2 143 (by decide)]
        · exact k0
        · exact l0
        · exact x0
        · exact c0
  · repeat refine Wp.p rfl ?_
    exact Wp.r rfl trivial (h5 (Int32.not_le.mp c))
end
section
theorem t1v : m_sv 500 (1 : Int32).toNatClampNeg = 30 := by decide
theorem t5v : m_sv 500 (5 : Int32).toNatClampNeg = 20 := by decide
theorem t6v : m_sv 500 (6 : Int32).toNatClampNeg = 32 := by decide
theorem t8v : m_sv 500 (8 : Int32).toNatClampNeg = 384 := by decide
theorem i_in {x : Int32} {n : Nat} (h : 0 ≤ x.toInt ∧ x.toInt < n) : vp_in x n := vp_in_iff.mpr h
theorem s_M_castInto {d : Nat} {S : mS} {Q : mQ} {v r ty : Int32} (hv : vp_in v 6) (ht : vp_in ty 11) (hm : (S.1 5).toInt ≤ 40) (h2 : ¬ hB (m_sv 500 ty.toNatClampNeg ||| 1) (kOf S r) → Q (some (.int 2)) S) (h0 : hB (m_sv 500 ty.toNatClampNeg ||| 1) (kOf S r) → Q (some (.int 0)) (sA S 143 v.toNatClampNeg r)) : Ev (d + 2) n_X1_castInto [.ref 1, .int v, .int r, .int ty] S Q := by
  repeat refine Wp.p rfl ?_
  refine Wp.i rfl (s_M_castFault ht hm (fun c => ?_) (fun c => ?_))
  · repeat refine Wp.p rfl ?_
    refine Wp.b rfl (fun (e : ¬ (0 : Int32) = 0) => absurd rfl e) (fun _ => ?_)
    repeat refine Wp.p rfl ?_
    refine Wp.g rfl hv ?_
    repeat refine Wp.p rfl ?_
    exact Wp.r rfl trivial (h0 c)
  · repeat refine Wp.p rfl ?_
    refine Wp.b rfl (fun _ => ?_) (fun (e : ¬ ¬ (2 : Int32) = 0) => absurd (by decide) e)
    repeat refine Wp.p rfl ?_
    exact Wp.r rfl trivial (h2 c)
theorem s_M_getNext {d : Nat} {S : mS} {Q : mQ} {v r : Int32} (hv : vp_in v 6) (hm : (S.1 5).toInt ≤ 40) (hr : ¬ kOf S r = 0 → vp_in r 40) (h1 : kOf S r = 0 → Q (some (.int 1)) S) (h2 : ¬ kOf S r = 0 → ¬ hB 30 (kOf S r) → Q (some (.int 2)) S) (h0 : ¬ kOf S r = 0 → hB 30 (kOf S r) → Q (some (.int 0)) (sA S 143 v.toNatClampNeg (S.2.2 102 r.toNatClampNeg))) : Ev (d + 2) n_X1_getNext [.ref 1, .int v, .int r] S Q := by
  repeat refine Wp.p rfl ?_
  refine Wp.i rfl (s_M_useFault (by unfold vp_in; decide) hm (fun c => ?_) (fun c1 c => ?_) (fun c1 c => ?_))
  · repeat refine Wp.p rfl ?_
    refine Wp.b rfl (fun _ => ?_) (fun (e : ¬ ¬ (1 : Int32) = 0) => absurd (by decide) e)
    repeat refine Wp.p rfl ?_
    exact Wp.r rfl trivial (h1 c)
  · repeat refine Wp.p rfl ?_
    refine Wp.b rfl (fun (e : ¬ (0 : Int32) = 0) => absurd rfl e) (fun _ => ?_)
    repeat refine Wp.p rfl ?_
    refine Wp.i rfl (s_H_nextOf (hr c1) ?_)
    refine Wp.g rfl hv ?_
    repeat refine Wp.p rfl ?_
    exact Wp.r rfl trivial (h0 c1 (t1v ▸ c))
  · repeat refine Wp.p rfl ?_
    refine Wp.b rfl (fun _ => ?_) (fun (e : ¬ ¬ (2 : Int32) = 0) => absurd (by decide) e)
    repeat refine Wp.p rfl ?_
    exact Wp.r rfl trivial (h2 c1 (t1v ▸ c))
theorem s_M_setNext {d : Nat} {S : mS} {Q : mQ} {r x : Int32} (hm : (S.1 5).toInt ≤ 40) (hr : ¬ kOf S r = 0 → vp_in r 40) (h1 : kOf S r = 0 → Q (some (.int 1)) S) (h2 : ¬ kOf S r = 0 → ¬ hB 30 (kOf S r) → Q (some (.int 2)) S) (h0 : ¬ kOf S r = 0 → hB 30 (kOf S r) → Q (some (.int 0)) (sA S 102 r.toNatClampNeg x)) : Ev (d + 2) n_X1_setNext [.ref 1, .int r, .int x] S Q := by
  repeat refine Wp.p rfl ?_
  refine Wp.i rfl (s_M_useFault (by unfold vp_in; decide) hm (fun c => ?_) (fun c1 c => ?_) (fun c1 c => ?_))
  · repeat refine Wp.p rfl ?_
    refine Wp.b rfl (fun _ => ?_) (fun (e : ¬ ¬ (1 : Int32) = 0) => absurd (by decide) e)
    repeat refine Wp.p rfl ?_
    exact Wp.r rfl trivial (h1 c)
  · repeat refine Wp.p rfl ?_
    refine Wp.b rfl (fun (e : ¬ (0 : Int32) = 0) => absurd rfl e) (fun _ => ?_)
    repeat refine Wp.p rfl ?_
    refine Wp.i rfl (s_H_setNext (hr c1) ?_)
    repeat refine Wp.p rfl ?_
    exact Wp.r rfl trivial (h0 c1 (t1v ▸ c))
  · repeat refine Wp.p rfl ?_
    refine Wp.b rfl (fun _ => ?_) (fun (e : ¬ ¬ (2 : Int32) = 0) => absurd (by decide) e)
    repeat refine Wp.p rfl ?_
    exact Wp.r rfl trivial (h2 c1 (t1v ▸ c))
theorem s_M_getCell {d : Nat} {S : mS} {Q : mQ} {v r x : Int32} (hv : vp_in v 6) (hm : (S.1 5).toInt ≤ 40) (hr : ¬ kOf S r = 0 → vp_in r 40) (hc : ¬ kOf S r = 0 → 0 ≤ x → x < S.2.2 101 r.toNatClampNeg → vp_in (r * 20 + x) 800) (h1 : kOf S r = 0 → Q (some (.int 1)) S) (h2 : ¬ kOf S r = 0 → ¬ hB 384 (kOf S r) → Q (some (.int 2)) S) (h3 : ¬ kOf S r = 0 → hB 384 (kOf S r) → ¬ (0 ≤ x ∧ x < S.2.2 101 r.toNatClampNeg) → Q (some (.int 3)) S) (h0 : ¬ kOf S r = 0 → hB 384 (kOf S r) → 0 ≤ x → x < S.2.2 101 r.toNatClampNeg → Q (some (.int 0)) (sA S 143 v.toNatClampNeg (S.2.2 103 (r * 20 + x).toNatClampNeg))) : Ev (d + 3) n_X1_getCell [.ref 1, .int v, .int r, .int x] S Q := by
  repeat refine Wp.p rfl ?_
  refine Wp.i rfl (s_M_cellFault (by unfold vp_in; decide) hm hr (fun c => ?_) (fun c1 c => ?_) (fun c1 c c3 => ?_) (fun c1 c c3 c4 => ?_))
  · repeat refine Wp.p rfl ?_
    refine Wp.b rfl (fun _ => ?_) (fun (e : ¬ ¬ (1 : Int32) = 0) => absurd (by decide) e)
    repeat refine Wp.p rfl ?_
    exact Wp.r rfl trivial (h1 c)
  · repeat refine Wp.p rfl ?_
    refine Wp.b rfl (fun _ => ?_) (fun (e : ¬ ¬ (2 : Int32) = 0) => absurd (by decide) e)
    repeat refine Wp.p rfl ?_
    exact Wp.r rfl trivial (h2 c1 (t8v ▸ c))
  · repeat refine Wp.p rfl ?_
    refine Wp.b rfl (fun _ => ?_) (fun (e : ¬ ¬ (3 : Int32) = 0) => absurd (by decide) e)
    repeat refine Wp.p rfl ?_
    exact Wp.r rfl trivial (h3 c1 (t8v ▸ c) c3)
  · repeat refine Wp.p rfl ?_
    refine Wp.b rfl (fun (e : ¬ (0 : Int32) = 0) => absurd rfl e) (fun _ => ?_)
    repeat refine Wp.p rfl ?_
    refine Wp.i rfl (s_H_cell (hc c1 c3 c4) ?_)
    refine Wp.g rfl hv ?_
    repeat refine Wp.p rfl ?_
    exact Wp.r rfl trivial (h0 c1 (t8v ▸ c) c3 c4)
theorem s_M_getInt {d : Nat} {S : mS} {Q : mQ} {v r x : Int32} (hv : vp_in v 4) (hm : (S.1 5).toInt ≤ 40) (hr : ¬ kOf S r = 0 → vp_in r 40) (hc : ¬ kOf S r = 0 → 0 ≤ x → x < S.2.2 101 r.toNatClampNeg → vp_in (r * 20 + x) 800) (h1 : kOf S r = 0 → Q (some (.int 1)) S) (h2 : ¬ kOf S r = 0 → ¬ hB 32 (kOf S r) → Q (some (.int 2)) S) (h3 : ¬ kOf S r = 0 → hB 32 (kOf S r) → ¬ (0 ≤ x ∧ x < S.2.2 101 r.toNatClampNeg) → Q (some (.int 3)) S) (h0 : ¬ kOf S r = 0 → hB 32 (kOf S r) → 0 ≤ x → x < S.2.2 101 r.toNatClampNeg → Q (some (.int 0)) (sA S 144 v.toNatClampNeg (S.2.2 103 (r * 20 + x).toNatClampNeg))) : Ev (d + 3) n_X1_getInt [.ref 1, .int v, .int r, .int x] S Q := by
  repeat refine Wp.p rfl ?_
  refine Wp.i rfl (s_M_cellFault (by unfold vp_in; decide) hm hr (fun c => ?_) (fun c1 c => ?_) (fun c1 c c3 => ?_) (fun c1 c c3 c4 => ?_))
  · repeat refine Wp.p rfl ?_
    refine Wp.b rfl (fun _ => ?_) (fun (e : ¬ ¬ (1 : Int32) = 0) => absurd (by decide) e)
    repeat refine Wp.p rfl ?_
    exact Wp.r rfl trivial (h1 c)
  · repeat refine Wp.p rfl ?_
    refine Wp.b rfl (fun _ => ?_) (fun (e : ¬ ¬ (2 : Int32) = 0) => absurd (by decide) e)
    repeat refine Wp.p rfl ?_
    exact Wp.r rfl trivial (h2 c1 (t6v ▸ c))
  · repeat refine Wp.p rfl ?_
    refine Wp.b rfl (fun _ => ?_) (fun (e : ¬ ¬ (3 : Int32) = 0) => absurd (by decide) e)
    repeat refine Wp.p rfl ?_
    exact Wp.r rfl trivial (h3 c1 (t6v ▸ c) c3)
  · repeat refine Wp.p rfl ?_
    refine Wp.b rfl (fun (e : ¬ (0 : Int32) = 0) => absurd rfl e) (fun _ => ?_)
    repeat refine Wp.p rfl ?_
    refine Wp.i rfl (s_H_cell (hc c1 c3 c4) ?_)
    refine Wp.g rfl hv ?_
    repeat refine Wp.p rfl ?_
    exact Wp.r rfl trivial (h0 c1 (t6v ▸ c) c3 c4)
theorem s_M_setInt {d : Nat} {S : mS} {Q : mQ} {r x y : Int32} (hm : (S.1 5).toInt ≤ 40) (hr : ¬ kOf S r = 0 → vp_in r 40) (hc : ¬ kOf S r = 0 → 0 ≤ x → x < S.2.2 101 r.toNatClampNeg → vp_in (r * 20 + x) 800) (h1 : kOf S r = 0 → Q (some (.int 1)) S) (h2 : ¬ kOf S r = 0 → ¬ hB 32 (kOf S r) → Q (some (.int 2)) S) (h3 : ¬ kOf S r = 0 → hB 32 (kOf S r) → ¬ (0 ≤ x ∧ x < S.2.2 101 r.toNatClampNeg) → Q (some (.int 3)) S) (h0 : ¬ kOf S r = 0 → hB 32 (kOf S r) → 0 ≤ x → x < S.2.2 101 r.toNatClampNeg → Q (some (.int 0)) (sA S 103 (r * 20 + x).toNatClampNeg y)) : Ev (d + 3) n_X1_setInt [.ref 1, .int r, .int x, .int y] S Q := by
  repeat refine Wp.p rfl ?_
  refine Wp.i rfl (s_M_cellFault (by unfold vp_in; decide) hm hr (fun c => ?_) (fun c1 c => ?_) (fun c1 c c3 => ?_) (fun c1 c c3 c4 => ?_))
  · repeat refine Wp.p rfl ?_
    refine Wp.b rfl (fun _ => ?_) (fun (e : ¬ ¬ (1 : Int32) = 0) => absurd (by decide) e)
    repeat refine Wp.p rfl ?_
    exact Wp.r rfl trivial (h1 c)
  · repeat refine Wp.p rfl ?_
    refine Wp.b rfl (fun _ => ?_) (fun (e : ¬ ¬ (2 : Int32) = 0) => absurd (by decide) e)
    repeat refine Wp.p rfl ?_
    exact Wp.r rfl trivial (h2 c1 (t6v ▸ c))
  · repeat refine Wp.p rfl ?_
    refine Wp.b rfl (fun _ => ?_) (fun (e : ¬ ¬ (3 : Int32) = 0) => absurd (by decide) e)
    repeat refine Wp.p rfl ?_
    exact Wp.r rfl trivial (h3 c1 (t6v ▸ c) c3)
  · repeat refine Wp.p rfl ?_
    refine Wp.b rfl (fun (e : ¬ (0 : Int32) = 0) => absurd rfl e) (fun _ => ?_)
    repeat refine Wp.p rfl ?_
    refine Wp.i rfl (s_H_setCell (hc c1 c3 c4) ?_)
    repeat refine Wp.p rfl ?_
    exact Wp.r rfl trivial (h0 c1 (t6v ▸ c) c3 c4)
theorem s_M_getLength {d : Nat} {S : mS} {Q : mQ} {v r : Int32} (hv : vp_in v 4) (hm : (S.1 5).toInt ≤ 40) (hr : ¬ kOf S r = 0 → vp_in r 40) (h1 : kOf S r = 0 → Q (some (.int 1)) S) (h2 : ¬ kOf S r = 0 → ¬ hB 992 (kOf S r) → Q (some (.int 2)) S) (h0 : ¬ kOf S r = 0 → hB 992 (kOf S r) → Q (some (.int 0)) (sA S 144 v.toNatClampNeg (S.2.2 101 r.toNatClampNeg))) : Ev (d + 1) n_X1_getLength [.ref 1, .int v, .int r] S Q := by
  repeat refine Wp.p rfl ?_
  refine Wp.i rfl (s_H_kindOf hm ?_)
  repeat refine Wp.p rfl ?_
  refine Wp.b rfl (fun (c : ¬ kOf S r = 0) => ?_) (fun (c : ¬ ¬ kOf S r = 0) => ?_)
  · repeat refine Wp.p rfl ?_
    refine Wp.i rfl (s_holds (fun c2 => ?_) (fun c2 => ?_))
    · refine Wp.b rfl (fun _ => ?_) (fun (e : ¬ ¬ (1 : Int32) = 0) => absurd (by decide) e)
      repeat refine Wp.p rfl ?_
      refine Wp.i rfl (s_H_lengthOf (hr c) ?_)
      refine Wp.g rfl hv ?_
      repeat refine Wp.p rfl ?_
      exact Wp.r rfl trivial (h0 c c2)
    · refine Wp.b rfl (fun (e : ¬ (0 : Int32) = 0) => absurd rfl e) (fun _ => ?_)
      repeat refine Wp.p rfl ?_
      exact Wp.r rfl trivial (h2 c c2)
  · repeat refine Wp.p rfl ?_
    exact Wp.r rfl trivial (h1 (Decidable.not_not.mp c))
theorem s_M_divide {d : Nat} {S : mS} {Q : mQ} {v y : Int32} (hv : vp_in v 4) (h6 : y = 0 → Q (some (.int 6)) S) (h0 : ¬ y = 0 → Q (some (.int 0)) (sA S 144 v.toNatClampNeg (S.2.2 144 v.toNatClampNeg / y))) : Ev d n_X1_divide [.ref 1, .int v, .int y] S Q := by
  repeat refine Wp.p rfl ?_
  refine Wp.b rfl (fun (c : ¬ y = 0) => ?_) (fun (c : ¬ ¬ y = 0) => ?_)
  · repeat refine Wp.p rfl ?_
    refine Wp.g rfl hv ?_
    repeat refine Wp.p rfl ?_
    refine Wp.g rfl c ?_
    refine Wp.g rfl hv ?_
    repeat refine Wp.p rfl ?_
    exact Wp.r rfl trivial (h0 c)
  · repeat refine Wp.p rfl ?_
    exact Wp.r rfl trivial (h6 (Decidable.not_not.mp c))
theorem s_M_askFace {d : Nat} {S : mS} {Q : mQ} {v r z : Int32} (hz : z = 0 ∨ z = 1) (hv : vp_in v 4) (hm : (S.1 5).toInt ≤ 40) (h1 : kOf S r = 0 → Q (some (.int 1)) S) (h2 : ¬ kOf S r = 0 → ¬ hB 20 (kOf S r) → Q (some (.int 2)) S) (h0 : ¬ kOf S r = 0 → hB 20 (kOf S r) → Q (some (.int 0)) (sA S 144 v.toNatClampNeg (if z = 0 then (if kOf S r = 2 then 100 else 200) + r else 2 * ((if kOf S r = 2 then 100 else 200) + r) + (if kOf S r = 2 then 0 else 1)))) : Ev (d + 2) n_X1_askFace [.ref 1, .int v, .int r, .int z] S Q := by
  repeat refine Wp.p rfl ?_
  refine Wp.i rfl (s_M_useFault (by unfold vp_in; decide) hm (fun c => ?_) (fun c1 c => ?_) (fun c1 c => ?_))
  · repeat refine Wp.p rfl ?_
    refine Wp.b rfl (fun _ => ?_) (fun (e : ¬ ¬ (1 : Int32) = 0) => absurd (by decide) e)
    repeat refine Wp.p rfl ?_
    exact Wp.r rfl trivial (h1 c)
  · have h0' := h0 c1 (t5v ▸ c)
    repeat refine Wp.p rfl ?_
    refine Wp.b rfl (fun (e : ¬ (0 : Int32) = 0) => absurd rfl e) (fun _ => ?_)
    repeat refine Wp.p rfl ?_
    refine Wp.i rfl (s_H_kindOf hm ?_)
    repeat refine Wp.p rfl ?_
    refine Wp.b rfl (fun (e : ¬ kOf S r = 2) => ?_) (fun (e : ¬ ¬ kOf S r = 2) => ?_)
    · rw [if_neg e, if_neg e] at h0'
      repeat refine Wp.p rfl ?_
      refine Wp.b rfl (fun _ => ?_) (fun (e : ¬ (0 : Int32) = 0) => absurd rfl e)
      repeat refine Wp.p rfl ?_
      refine Wp.b rfl (fun _ => ?_) (fun (e : ¬ (0 : Int32) = 0) => absurd rfl e)
      repeat refine Wp.p rfl ?_
      refine Wp.b rfl (fun (e2 : z = 0) => ?_) (fun (e2 : ¬ z = 0) => ?_)
      · rw [if_pos e2] at h0'
        repeat refine Wp.p rfl ?_
        refine Wp.g rfl hv ?_
        repeat refine Wp.p rfl ?_
        exact Wp.r rfl trivial h0'
      · rw [if_neg e2] at h0'
        repeat refine Wp.p rfl ?_
        refine Wp.g rfl hv ?_
        repeat refine Wp.p rfl ?_
        exact Wp.r rfl trivial h0'
    · have e' := Decidable.not_not.mp e
      rw [if_pos e', if_pos e'] at h0'
      repeat refine Wp.p rfl ?_
      refine Wp.b rfl (fun (e : (1 : Int32) = 0) => absurd e (by decide)) (fun _ => ?_)
      repeat refine Wp.p rfl ?_
      refine Wp.b rfl (fun (e : (1 : Int32) = 0) => absurd e (by decide)) (fun _ => ?_)
      repeat refine Wp.p rfl ?_
      refine Wp.b rfl (fun (e2 : z = 0) => ?_) (fun (e2 : ¬ z = 0) => ?_)
      · rw [if_pos e2] at h0'
        repeat refine Wp.p rfl ?_
        refine Wp.g rfl hv ?_
        repeat refine Wp.p rfl ?_
        exact Wp.r rfl trivial h0'
      · rw [if_neg e2] at h0'
        repeat refine Wp.p rfl ?_
        refine Wp.g rfl hv ?_
        repeat refine Wp.p rfl ?_
        exact Wp.r rfl trivial h0'
  · repeat refine Wp.p rfl ?_
    refine Wp.b rfl (fun _ => ?_) (fun (e : ¬ ¬ (2 : Int32) = 0) => absurd (by decide) e)
    repeat refine Wp.p rfl ?_
    exact Wp.r rfl trivial (h2 c1 (t5v ▸ c))
theorem t8w : m_sv 500 (8 : Int32).toNatClampNeg ||| 1 = 385 := by decide
theorem t1w : m_sv 500 (1 : Int32).toNatClampNeg ||| 1 = 31 := by decide
theorem s_M_setCell {d : Nat} {S : mS} {Q : mQ} {r x y : Int32} (hm : (S.1 5).toInt ≤ 40) (hr : ¬ kOf S r = 0 → vp_in r 40) (hk : ¬ kOf S r = 0 → vp_in (S.2.2 100 r.toNatClampNeg) 10) (hc : ¬ kOf S r = 0 → 0 ≤ x → x < S.2.2 101 r.toNatClampNeg → vp_in (r * 20 + x) 800)
    (h2 : ¬ hB 385 (kOf S r) ∨ ¬ hB 31 (kOf S y) ∨ (¬ kOf S r = 0 ∧ ¬ hB 384 (kOf S r)) → Q (some (.int 2)) S) (h1 : hB 385 (kOf S r) → hB 31 (kOf S y) → kOf S r = 0 → Q (some (.int 1)) S) (h3 : hB 31 (kOf S y) → ¬ kOf S r = 0 → hB 384 (kOf S r) → ¬ (0 ≤ x ∧ x < S.2.2 101 r.toNatClampNeg) → Q (some (.int 3)) S)
    (h4 : hB 31 (kOf S y) → ¬ kOf S r = 0 → hB 384 (kOf S r) → 0 ≤ x → x < S.2.2 101 r.toNatClampNeg → ¬ hB (m_sv 501 (S.2.2 100 r.toNatClampNeg).toNatClampNeg) (kOf S y) → Q (some (.int 4)) S)
    (h0 : hB 31 (kOf S y) → ¬ kOf S r = 0 → hB 384 (kOf S r) → 0 ≤ x → x < S.2.2 101 r.toNatClampNeg → hB (m_sv 501 (S.2.2 100 r.toNatClampNeg).toNatClampNeg) (kOf S y) → Q (some (.int 0)) (sA S 103 (r * 20 + x).toNatClampNeg y)) : Ev (d + 3) n_X1_setCell [.ref 1, .int r, .int x, .int y] S Q := by
  repeat refine Wp.p rfl ?_
  refine Wp.i rfl (s_M_castFault (by unfold vp_in; decide) hm (fun c => ?_) (fun c => ?_))
  · have c := t8w ▸ c
    repeat refine Wp.p rfl ?_
    refine Wp.b rfl (fun (e : ¬ (0 : Int32) = 0) => absurd rfl e) (fun _ => ?_)
    repeat refine Wp.p rfl ?_
    refine Wp.i rfl (s_M_castFault (by unfold vp_in; decide) hm (fun c2 => ?_) (fun c2 => ?_))
    · have c2 := t1w ▸ c2
      repeat refine Wp.p rfl ?_
      refine Wp.b rfl (fun (e : ¬ (0 : Int32) = 0) => absurd rfl e) (fun _ => ?_)
      repeat refine Wp.p rfl ?_
      refine Wp.i rfl (s_M_cellFault (by unfold vp_in; decide) hm hr (fun c5 => ?_) (fun c1 c5 => ?_) (fun c1 c5 c3 => ?_) (fun c1 c5 c3 c4 => ?_))
      · repeat refine Wp.p rfl ?_
        refine Wp.b rfl (fun _ => ?_) (fun (e : ¬ ¬ (1 : Int32) = 0) => absurd (by decide) e)
        repeat refine Wp.p rfl ?_
        refine Wp.b rfl (fun _ => ?_) (fun (e : ¬ ¬ (1 : Int32) = 0) => absurd (by decide) e)
        repeat refine Wp.p rfl ?_
        exact Wp.r rfl trivial (h1 c c2 c5)
      · repeat refine Wp.p rfl ?_
        refine Wp.b rfl (fun _ => ?_) (fun (e : ¬ ¬ (2 : Int32) = 0) => absurd (by decide) e)
        repeat refine Wp.p rfl ?_
        refine Wp.b rfl (fun _ => ?_) (fun (e : ¬ ¬ (2 : Int32) = 0) => absurd (by decide) e)
        repeat refine Wp.p rfl ?_
        exact Wp.r rfl trivial (h2 (Or.inr (Or.inr ⟨c1, t8v ▸ c5⟩)))
      · repeat refine Wp.p rfl ?_
        refine Wp.b rfl (fun _ => ?_) (fun (e : ¬ ¬ (3 : Int32) = 0) => absurd (by decide) e)
        repeat refine Wp.p rfl ?_
        refine Wp.b rfl (fun _ => ?_) (fun (e : ¬ ¬ (3 : Int32) = 0) => absurd (by decide) e)
        repeat refine Wp.p rfl ?_
        exact Wp.r rfl trivial (h3 c2 c1 (t8v ▸ c5) c3)
      · have c5 := t8v ▸ c5
        repeat refine Wp.p rfl ?_
        refine Wp.b rfl (fun (e : ¬ (0 : Int32) = 0) => absurd rfl e) (fun _ => ?_)
        repeat refine Wp.p rfl ?_
        refine Wp.i rfl (s_H_takes (hr c1) hm (hk c1) (fun c6 => ?_) (fun c6 => ?_))
        · refine Wp.b rfl (fun _ => ?_) (fun (e : ¬ ¬ (1 : Int32) = 0) => absurd (by decide) e)
          repeat refine Wp.p rfl ?_
          refine Wp.b rfl (fun (e : ¬ (0 : Int32) = 0) => absurd rfl e) (fun _ => ?_)
          repeat refine Wp.p rfl ?_
          refine Wp.i rfl (s_H_setCell (hc c1 c3 c4) ?_)
          repeat refine Wp.p rfl ?_
          exact Wp.r rfl trivial (h0 c2 c1 c5 c3 c4 c6)
        · refine Wp.b rfl (fun (e : ¬ (0 : Int32) = 0) => absurd rfl e) (fun _ => ?_)
          repeat refine Wp.p rfl ?_
          refine Wp.b rfl (fun _ => ?_) (fun (e : ¬ ¬ (4 : Int32) = 0) => absurd (by decide) e)
          repeat refine Wp.p rfl ?_
          exact Wp.r rfl trivial (h4 c2 c1 c5 c3 c4 c6)
    · repeat refine Wp.p rfl ?_
      refine Wp.b rfl (fun _ => ?_) (fun (e : ¬ ¬ (2 : Int32) = 0) => absurd (by decide) e)
      repeat refine Wp.p rfl ?_
      refine Wp.b rfl (fun _ => ?_) (fun (e : ¬ ¬ (2 : Int32) = 0) => absurd (by decide) e)
      repeat refine Wp.p rfl ?_
      refine Wp.b rfl (fun _ => ?_) (fun (e : ¬ ¬ (2 : Int32) = 0) => absurd (by decide) e)
      repeat refine Wp.p rfl ?_
      exact Wp.r rfl trivial (h2 (Or.inr (Or.inl (t1w ▸ c2))))
  · repeat refine Wp.p rfl ?_
    refine Wp.b rfl (fun _ => ?_) (fun (e : ¬ ¬ (2 : Int32) = 0) => absurd (by decide) e)
    repeat refine Wp.p rfl ?_
    refine Wp.b rfl (fun _ => ?_) (fun (e : ¬ ¬ (2 : Int32) = 0) => absurd (by decide) e)
    repeat refine Wp.p rfl ?_
    refine Wp.b rfl (fun _ => ?_) (fun (e : ¬ ¬ (2 : Int32) = 0) => absurd (by decide) e)
    repeat refine Wp.p rfl ?_
    refine Wp.b rfl (fun _ => ?_) (fun (e : ¬ ¬ (2 : Int32) = 0) => absurd (by decide) e)
    repeat refine Wp.p rfl ?_
    exact Wp.r rfl trivial (h2 (Or.inl (t8w ▸ c)))
end
section
def cpW (V C : Nat → Int32) (lo : Nat) : Nat → Nat → Int32
  | 0 => V
  | n + 1 => upd (cpW V C lo n) n (C (lo + n))
theorem cpW_at {V C : Nat → Int32} {lo : Nat} : ∀ {n j : Nat}, j < n → cpW V C lo n j = C (lo + j) := by
  intro n
  induction n with
  | zero => intro j h; omega
  | succ n ih =>
    intro j h
    show upd (cpW V C lo n) n (C (lo + n)) j = _
    by_cases e : j = n
    · rw [e]; exact if_pos rfl
    · rw [show upd (cpW V C lo n) n (C (lo + n)) j = cpW V C lo n j from if_neg e]
      exact ih (by omega)
def mvF (V : Nat → Int32) (ok : Int32 → Bool) (lo : Nat) : Nat → Nat → (Nat → Int32) → Int32 × (Nat → Int32)
  | 0, _, C => (0, C)
  | n + 1, i, C => bif ok (V i) then mvF V ok lo n (i + 1) (upd C (lo + i) (V i)) else (4, C)
theorem kOf_fr {fs as : List Nat} {S S' : mS} (h : Fr fs as S S') (h1 : 5 ∉ fs) (h2 : 100 ∉ as) (r : Int32) : kOf S' r = kOf S r := by
  unfold kOf
  rw [h.1 5 h1, h.2.2 100 h2]
theorem ix20 (a b : Nat) : nI a * 20 + nI b = nI (20 * a + b) := by
  rw [show (20 : Int32) = nI 20 from rfl, pk_mul, nI_add, Nat.mul_comm]
theorem s_H_move1 {d : Nat} {Q : mQ} {f n : Nat} {t st : Int32} (hf : f < 40) (hn : n ≤ 20) (S0 : mS) (hQ : ∀ S', Fr [] [104] S0 S' → S'.2.2 104 = cpW (S0.2.2 104) (S0.2.2 103) (20 * f) n → Wp (d + 1) n_X0_move 30 [(5, .int (nI n)), (0, .ref 0), (1, .int (nI f)), (2, .int t), (3, .int st), (4, .int (nI n))] [] S' Q) : ∀ (k j : Nat) (S : mS), j + k = n → Fr [] [104] S0 S → S.2.2 104 = cpW (S0.2.2 104) (S0.2.2 103) (20 * f) j →
    Wp (d + 1) n_X0_move 3 [(5, .int (nI j)), (0, .ref 0), (1, .int (nI f)), (2, .int t), (3, .int st), (4, .int (nI n))] [] S Q := by
  intro k
  induction k with
  | zero =>
    intro j S hj hF hC
    obtain rfl : j = n := by omega
    iterate 2 refine Wp.p rfl ?_
    refine Wp.b rfl (fun _ => ?_) (fun c => absurd (nI_le (Nat.le_refl _) (by omega)) c)
    exact hQ S hF hC
  | succ k ih =>
    intro j S hj hF hC
    have hlt : j < n := by omega
    iterate 2 refine Wp.p rfl ?_
    refine Wp.b rfl (fun c => absurd c (nI_ge hlt (by omega))) (fun _ => ?_)
    repeat refine Wp.p rfl ?_
    refine Wp.i rfl (s_H_cell (by rw [ix20]; exact vp_in_nI (by omega) (by omega)) ?_)
    refine Wp.g rfl (vp_in_nI (N := 20) (by omega) (by omega)) ?_
    iterate 2 refine Wp.p rfl ?_
    show Wp (d + 1) n_X0_move 3 [(5, .int (nI j + 1)), (0, .ref 0), (1, .int (nI f)), (2, .int t), (3, .int st), (4, .int (nI n))] [] _ Q
    rw [nI_1]
    refine ih (j + 1) _ (by omega) (hF.a (by decide)) ?_
    show upd (S.2.2 104) _ _ = _
    rw [ix20, nI_clamp (by omega), nI_clamp (by omega), hC, hF.2.2 103 (by decide)]
    rfl
theorem s_H_move2 {d : Nat} {Q : mQ} {f t st n : Nat} {nb : Int32} (ht : t < 40) (hst : st + n ≤ 20) (S0 : mS) (hm : (S0.1 5).toInt ≤ 40) (hk : vp_in (S0.2.2 100 t) 10) (ok : Int32 → Bool) (hok : ∀ r, ok r = (decide (¬ nb = 0) || decide (hB (m_sv 501 (S0.2.2 100 t).toNatClampNeg) (kOf S0 r)))) (C : Nat → Int32) (R : Int32 × (Nat → Int32)) (hQ : ∀ S', Fr [] [103] S0 S' → S'.2.2 103 = R.2 → Q (some (.int R.1)) S') : ∀ (k j : Nat) (S : mS) (C : Nat → Int32), j + k = n → Fr [] [103] S0 S → S.2.2 103 = C → mvF (S0.2.2 104) ok (20 * t + st) k j C = R →
    Wp (d + 2) n_X0_move 61 [(6, .int (nI j)), (5, .int nb), (0, .ref 0), (1, .int (nI f)), (2, .int (nI t)), (3, .int (nI st)), (4, .int (nI n))] [] S Q := by
  intro k
  induction k with
  | zero =>
    intro j S C hj hF hC hR
    obtain rfl : j = n := by omega
    iterate 2 refine Wp.p rfl ?_
    refine Wp.b rfl (fun _ => ?_) (fun c => absurd (nI_le (Nat.le_refl _) (by omega)) c)
    repeat refine Wp.p rfl ?_
    have h0 : R.1 = 0 := by rw [← hR]; rfl
    have h1 : R.2 = C := by rw [← hR]; rfl
    have hq := hQ S hF (by rw [h1]; exact hC)
    rw [h0] at hq
    exact Wp.r rfl trivial hq
  | succ k ih =>
    intro j S C hj hF hC hR
    have hlt : j < n := by omega
    have hclj : (nI j).toNatClampNeg = j := nI_clamp (by omega)
    have hclt : (nI t).toNatClampNeg = t := nI_clamp (by omega)
    have e104 : S.2.2 104 = S0.2.2 104 := hF.2.2 104 (by decide)
    have e100 : S.2.2 100 = S0.2.2 100 := hF.2.2 100 (by decide)
    have hRR : (bif ok (S0.2.2 104 j) then mvF (S0.2.2 104) ok (20 * t + st) k (j + 1) (upd C (20 * t + st + j) (S0.2.2 104 j)) else (4, C)) = R := hR
    have hgo : ok (S0.2.2 104 j) = true → Wp (d + 2) n_X0_move 90 [(6, .int (nI j)), (5, .int nb), (0, .ref 0), (1, .int (nI f)), (2, .int (nI t)), (3, .int (nI st)), (4, .int (nI n))] [] S Q := by
      intro hy
      rw [hy, cond_true] at hRR
      repeat refine Wp.p rfl ?_
      refine Wp.g rfl (vp_in_nI (N := 20) (by omega) (by omega)) ?_
      have hix : nI t * 20 + (nI st + nI j) = nI (20 * t + st + j) := by rw [nI_add, ix20]; congr 1; omega
      refine Wp.i rfl (s_H_setCell (by rw [hix]; exact vp_in_nI (by omega) (by omega)) ?_)
      iterate 2 refine Wp.p rfl ?_
      show Wp (d + 2) n_X0_move 61 [(6, .int (nI j + 1)), (5, .int nb), (0, .ref 0), (1, .int (nI f)), (2, .int (nI t)), (3, .int (nI st)), (4, .int (nI n))] [] _ Q
      rw [nI_1]
      refine ih (j + 1) _ _ (by omega) (hF.a (by decide)) ?_ hRR
      show upd (S.2.2 103) _ (S.2.2 104 _) = _
      rw [hix, nI_clamp (by omega), hclj, hC, e104]
    iterate 2 refine Wp.p rfl ?_
    refine Wp.b rfl (fun c => absurd c (nI_ge hlt (by omega))) (fun _ => ?_)
    repeat refine Wp.p rfl ?_
    refine Wp.b rfl (fun (c : ¬ nb = 0) => hgo (by rw [hok, decide_eq_true c]; rfl)) (fun (c : ¬ ¬ nb = 0) => ?_)
    repeat refine Wp.p rfl ?_
    refine Wp.g rfl (vp_in_nI (N := 20) (by omega) (by omega)) ?_
    refine Wp.i rfl (s_H_takes (vp_in_nI (by omega) (by omega)) (by rw [hF.1 5 (by decide)]; exact hm) (by rw [hclt, e100]; exact hk) (fun c6 => ?_) (fun c6 => ?_))
    · have c6' : hB (m_sv 501 (S.2.2 100 (nI t).toNatClampNeg).toNatClampNeg) (kOf S (S.2.2 104 (nI j).toNatClampNeg)) := c6
      rw [hclt, hclj, e100, e104, kOf_fr hF (by decide) (by decide)] at c6'
      refine Wp.b rfl (fun _ => hgo (by rw [hok, decide_eq_true c6', Bool.or_true])) (fun (e : ¬ ¬ (1 : Int32) = 0) => absurd (by decide) e)
    · have c6' : ¬ hB (m_sv 501 (S.2.2 100 (nI t).toNatClampNeg).toNatClampNeg) (kOf S (S.2.2 104 (nI j).toNatClampNeg)) := c6
      rw [hclt, hclj, e100, e104, kOf_fr hF (by decide) (by decide)] at c6'
      refine Wp.b rfl (fun (e : ¬ (0 : Int32) = 0) => absurd rfl e) (fun _ => ?_)
      repeat refine Wp.p rfl ?_
      have hno : ok (S0.2.2 104 j) = false := by rw [hok, decide_eq_false c, decide_eq_false c6']; rfl
      rw [hno, cond_false] at hRR
      have h0 : R.1 = 4 := by rw [← hRR]
      have h1 : R.2 = C := by rw [← hRR]
      have hq := hQ S hF (by rw [h1]; exact hC)
      rw [h0] at hq
      exact Wp.r rfl trivial hq
theorem s_H_move {d : Nat} {Q : mQ} {f t st n : Nat} {S : mS} (hf : f < 40) (ht : t < 40) (hst : st + n ≤ 20) (hm : (S.1 5).toInt ≤ 40) (hk : vp_in (S.2.2 100 t) 10) (ok : Int32 → Bool) (hok : ∀ r, ok r = (decide (S.2.2 100 t = 5 ∨ S.2.2 100 t = 6) || decide (hB (m_sv 501 (S.2.2 100 t).toNatClampNeg) (kOf S r))))
    (hQ : ∀ S', Fr [] [103, 104] S S' → S'.2.2 104 = cpW (S.2.2 104) (S.2.2 103) (20 * f) n → S'.2.2 103 = (mvF (cpW (S.2.2 104) (S.2.2 103) (20 * f) n) ok (20 * t + st) n 0 (S.2.2 103)).2 → Q (some (.int (mvF (cpW (S.2.2 104) (S.2.2 103) (20 * f) n) ok (20 * t + st) n 0 (S.2.2 103)).1)) S') : Ev (d + 2) n_X0_move [.ref 0, .int (nI f), .int (nI t), .int (nI st), .int (nI n)] S Q := by
  have hclt : (nI t).toNatClampNeg = t := nI_clamp (by omega)
  iterate 2 refine Wp.p rfl ?_
  refine s_H_move1 (d := d + 1) (f := f) (n := n) (t := nI t) (st := nI st) hf (by omega) S (fun S1 hF1 h104 => ?_) n 0 S (by omega) Fr.rf rfl
  have e100 : S1.2.2 100 = S.2.2 100 := hF1.2.2 100 (by decide)
  have e103 : S1.2.2 103 = S.2.2 103 := hF1.2.2 103 (by decide)
  have hk1 : ∀ r, kOf S1 r = kOf S r := kOf_fr hF1 (by decide) (by decide)
  have fin : ∀ nb : Int32, (¬ nb = 0 ↔ (S.2.2 100 t = 5 ∨ S.2.2 100 t = 6)) → Wp (d + 2) n_X0_move 61 [(6, .int (nI 0)), (5, .int nb), (0, .ref 0), (1, .int (nI f)), (2, .int (nI t)), (3, .int (nI st)), (4, .int (nI n))] [] S1 Q := by
    intro nb hnb
    refine s_H_move2 (f := f) ht hst S1 (by rw [hF1.1 5 (by decide)]; exact hm) (by rw [e100]; exact hk) ok (fun r => by rw [hok, e100, hk1]; congr 2; exact propext hnb.symm) (S.2.2 103) _ (fun S' hF h103 => ?_) n 0 S1 (S.2.2 103) (by omega) Fr.rf e103 rfl
    rw [h104] at h103
    rw [h104]
    exact hQ S' ((hF1.up (by decide) (by decide)).tr (hF.up (by decide) (by decide))) (by rw [hF.2.2 104 (by decide)]; exact h104) h103
  repeat refine Wp.p rfl ?_
  refine Wp.g rfl (vp_in_nI (N := 40) ht (by omega)) ?_
  repeat refine Wp.p rfl ?_
  refine Wp.b rfl (fun (c : S1.2.2 100 (nI t).toNatClampNeg = 5) => ?_) (fun (c : ¬ S1.2.2 100 (nI t).toNatClampNeg = 5) => ?_)
  · rw [hclt, e100] at c
    iterate 5 refine Wp.p rfl ?_
    exact fin 1 ⟨fun _ => Or.inl c, fun _ => by decide⟩
  · rw [hclt, e100] at c
    repeat refine Wp.p rfl ?_
    refine Wp.g rfl (vp_in_nI (N := 40) ht (by omega)) ?_
    repeat refine Wp.p rfl ?_
    refine Wp.b rfl (fun (c2 : ¬ S1.2.2 100 (nI t).toNatClampNeg = 6) => ?_) (fun (c2 : ¬ ¬ S1.2.2 100 (nI t).toNatClampNeg = 6) => ?_)
    · rw [hclt, e100] at c2
      iterate 4 refine Wp.p rfl ?_
      exact fin 0 ⟨fun e => absurd rfl e, fun e => e.elim (fun z => absurd z c) (fun z => absurd z c2)⟩
    · rw [hclt, e100] at c2
      iterate 5 refine Wp.p rfl ?_
      exact fin 1 ⟨fun _ => Or.inr (Decidable.not_not.mp c2), fun _ => by decide⟩
end
section
/-- the running program's state: variables, numbers, kinds, lengths, nexts, cells, the row that MOVE goes by, how many objects -/
abbrev mM : Type := (Nat → Int32) × (Nat → Int32) × (Nat → Int32) × (Nat → Int32) × (Nat → Int32) × (Nat → Int32) × (Nat → Int32) × Int32
abbrev gV (m : mM) : Nat → Int32 := m.1
abbrev gN (m : mM) : Nat → Int32 := m.2.1
abbrev gK (m : mM) : Nat → Int32 := m.2.2.1
abbrev gL (m : mM) : Nat → Int32 := m.2.2.2.1
abbrev gX (m : mM) : Nat → Int32 := m.2.2.2.2.1
abbrev gC (m : mM) : Nat → Int32 := m.2.2.2.2.2.1
abbrev gW (m : mM) : Nat → Int32 := m.2.2.2.2.2.2.1
abbrev gM (m : mM) : Int32 := m.2.2.2.2.2.2.2
/-- as the class has it, as the model has it -/
def cV (S : mS) : mM := (S.2.2 143, S.2.2 144, S.2.2 100, S.2.2 101, S.2.2 102, S.2.2 103, S.2.2 104, S.1 5)
def dV (S : mS) : mM := (S.2.2 361, S.2.2 362, S.2.2 357, S.2.2 359, S.2.2 358, S.2.2 360, S.2.2 365, S.1 256)
abbrev tn (x : Int32) : Nat := x.toNatClampNeg
def kd (m : mM) (r : Int32) : Int32 := if 0 ≤ r then gK m (tn r) else if r = -2 then 5 else 0
def uFm (m : mM) (r k : Int32) : Int32 := if kd m r = 0 then 1 else if hB k (kd m r) then 0 else 2
def cFm (m : mM) (r k x : Int32) : Int32 := if kd m r = 0 then 1 else if hB k (kd m r) then (if 0 ≤ x ∧ x < gL m (tn r) then 0 else 3) else 2
def fstC (k : Int32) : Int32 := if k = 9 then -2 else if k = 7 ∨ k = 8 then -1 else 0
abbrev stV (m : mM) (i : Nat) (x : Int32) : mM := (upd m.1 i x, m.2)
abbrev stN (m : mM) (i : Nat) (x : Int32) : mM := (m.1, upd m.2.1 i x, m.2.2)
abbrev stX (m : mM) (i : Nat) (x : Int32) : mM := (gV m, gN m, gK m, gL m, upd (gX m) i x, gC m, gW m, gM m)
abbrev stC (m : mM) (i : Nat) (x : Int32) : mM := (gV m, gN m, gK m, gL m, gX m, upd (gC m) i x, gW m, gM m)
def newO (m : mM) (a : Nat) (k n : Int32) : mM := (upd (gV m) a (gM m), gN m, upd (gK m) (tn (gM m)) k, upd (gL m) (tn (gM m)) n, upd (gX m) (tn (gM m)) (-1), fillC (gC m) (20 * tn (gM m)) (fstC k) (tn n), gW m, gM m + 1)
def faceN (m : mM) (r : Int32) (z : Bool) : Int32 := bif z then 2 * ((if kd m r = 2 then 100 else 200) + r) + (if kd m r = 2 then 0 else 1) else (if kd m r = 2 then 100 else 200) + r
/-- may an array of this kind have that -/
def okC (m : mM) (t : Int32) (r : Int32) : Bool := decide (t = 5 ∨ t = 6) || decide (hB (m_sv 501 (tn t)) (kd m r))
def mvM (m : mM) (f t st n : Int32) : Int32 × mM :=
  if kd m f = 0 ∨ kd m t = 0 then (1, m) else if hB (m_sv 502 (tn (kd m f))) (kd m t) then
    (if n < 0 ∨ st < 0 ∨ gL m (tn f) < n ∨ gL m (tn t) - n < st then (3, m) else
      ((mvF (cpW (gW m) (gC m) (20 * tn f) (tn n)) (okC m (kd m t)) (20 * tn t + tn st) (tn n) 0 (gC m)).1, (gV m, gN m, gK m, gL m, gX m, (mvF (cpW (gW m) (gC m) (20 * tn f) (tn n)) (okC m (kd m t)) (20 * tn t + tn st) (tn n) 0 (gC m)).2, cpW (gW m) (gC m) (20 * tn f) (tn n), gM m)))
  else (4, m)
/-- what a step does: its fault, what is then -/
def doS (m : mM) (k : Nat) (a b c : Int32) : Int32 × mM := match k with
  | 0 => (0, stV m (tn a) (-1))
  | 1 => if gM m = 40 then (8, m) else (0, newO m (tn a) b 0)
  | 2 => if gN m (tn c) < 0 then (5, m) else if 20 < gN m (tn c) ∨ gM m = 40 then (8, m) else (0, newO m (tn a) b (gN m (tn c)))
  | 3 => (0, stV m (tn a) (gV m (tn b)))
  | 6 => if hB (m_sv 500 (tn b) ||| 1) (kd m (gV m (tn a))) then (0, stV m (tn c) (gV m (tn a))) else (2, m)
  | 7 => if uFm m (gV m (tn b)) 30 = 0 then (0, stV m (tn a) (gX m (tn (gV m (tn b))))) else (uFm m (gV m (tn b)) 30, m)
  | 8 => if uFm m (gV m (tn a)) 30 = 0 then (0, stX m (tn (gV m (tn a))) (gV m (tn b))) else (uFm m (gV m (tn a)) 30, m)
  | 9 => if cFm m (gV m (tn b)) 384 (gN m (tn c)) = 0 then (0, stV m (tn a) (gC m (20 * tn (gV m (tn b)) + tn (gN m (tn c))))) else (cFm m (gV m (tn b)) 384 (gN m (tn c)), m)
  | 10 => if ¬ hB 385 (kd m (gV m (tn a))) ∨ ¬ hB 31 (kd m (gV m (tn b))) then (2, m) else if cFm m (gV m (tn a)) 384 (gN m (tn c)) = 0 then (if hB (m_sv 501 (tn (kd m (gV m (tn a))))) (kd m (gV m (tn b))) then (0, stC m (20 * tn (gV m (tn a)) + tn (gN m (tn c))) (gV m (tn b))) else (4, m)) else (cFm m (gV m (tn a)) 384 (gN m (tn c)), m)
  | 11 => if uFm m (gV m (tn b)) 20 = 0 then (0, stN m (tn a) (faceN m (gV m (tn b)) false)) else (uFm m (gV m (tn b)) 20, m)
  | 12 => if uFm m (gV m (tn b)) 20 = 0 then (0, stN m (tn a) (faceN m (gV m (tn b)) true)) else (uFm m (gV m (tn b)) 20, m)
  | 13 => if uFm m (gV m (tn b)) 992 = 0 then (0, stN m (tn a) (gL m (tn (gV m (tn b))))) else (uFm m (gV m (tn b)) 992, m)
  | 14 => if cFm m (gV m (tn b)) 32 (gN m (tn c)) = 0 then (0, stN m (tn a) (gC m (20 * tn (gV m (tn b)) + tn (gN m (tn c))))) else (cFm m (gV m (tn b)) 32 (gN m (tn c)), m)
  | 15 => if cFm m (gV m (tn a)) 32 (gN m (tn b)) = 0 then (0, stC m (20 * tn (gV m (tn a)) + tn (gN m (tn b))) (gN m (tn c))) else (cFm m (gV m (tn a)) 32 (gN m (tn b)), m)
  | 16 => (0, stN m (tn a) b)
  | 17 => (0, stN m (tn a) (gN m (tn a) + gN m (tn b)))
  | 18 => if gN m (tn b) = 0 then (6, m) else (0, stN m (tn a) (gN m (tn a) / gN m (tn b)))
  | 21 => (7, m)
  | 22 => mvM m (gV m (tn a)) (gV m (tn b)) (gN m (tn c)) (gN m 3)
  | _ => (0, m)
/-- where a step leads to, without a fault -/
def nxS (m : mM) (k : Nat) (a b c nx : Int32) : Int32 := match k with
  | 4 => if hB (m_sv 500 (tn b)) (kd m (gV m (tn a))) then c else nx
  | 5 => if gV m (tn a) = -1 then c else nx
  | 19 => if gN m (tn a) < gN m (tn b) then c else nx
  | 20 => a
  | _ => nx
def vr (k : Nat) (r : Int32) : Prop := r = -1 ∨ ∃ j, j < k ∧ r = nI j
/-- k objects, all in order -/
def WFk (k : Nat) (m : mM) : Prop := k ≤ 40 ∧ gM m = nI k ∧ (∀ v, v < 6 → vr k (gV m v)) ∧ ∀ o, o < k → (∃ t, 1 ≤ t ∧ t ≤ 9 ∧ gK m o = nI t) ∧ (∃ n, n ≤ 20 ∧ gL m o = nI n ∧ (7 ≤ gK m o → ∀ i, i < n → (vr k (gC m (20 * o + i)) ∨ gC m (20 * o + i) = -2) ∧ hB (m_sv 501 (tn (gK m o))) (kd m (gC m (20 * o + i))))) ∧ vr k (gX m o)
/-- what a letter asks of a number: 86 V, 78 N, 75 K, 65 A, 84 T, 83 S -/
def fitL (ch v : Int32) : Prop := (ch = 86 → 0 ≤ v ∧ v < 6) ∧ (ch = 78 → 0 ≤ v ∧ v < 4) ∧ (ch = 75 → 1 ≤ v ∧ v ≤ 4) ∧ (ch = 65 → 5 ≤ v ∧ v ≤ 9) ∧ (ch = 84 → 0 ≤ v ∧ v < 11) ∧ (ch = 83 → 0 ≤ v ∧ v ≤ 32)
def wS (k : Nat) (a b c : Int32) : Prop := k < 24 ∧ fitL ((m_chs.getD 0 []).getD k 0) a ∧ fitL ((m_chs.getD 1 []).getD k 0) b ∧ fitL ((m_chs.getD 2 []).getD k 0) c
theorem in_of {x : Int32} {n : Nat} (h : 0 ≤ x ∧ x < nI n) (hn : n < 2 ^ 31) : vp_in x n := vp_in_of2 h.1 h.2 (by rw [nI_toInt hn]; exact Int.le_refl _)
theorem tn_nI {n : Nat} (h : n < 2 ^ 31) : tn (nI n) = n := nI_clamp h
theorem m1_lt0 : ¬ (0 : Int32) ≤ -1 := by decide
theorem kOf_kd {k : Nat} {S : mS} {r : Int32} (h5 : S.1 5 = nI k) (hk : k ≤ 40) (hr : vr k r ∨ r = -2) : kOf S r = kd (cV S) r := by
  unfold kOf kd
  rcases hr with (rfl | ⟨j, hj, rfl⟩) | rfl
  · rw [if_neg (fun q => m1_lt0 q.1), if_neg m1_lt0]
  · rw [if_pos ⟨nI_pos' (by omega), by rw [h5]; exact nI_lt hj (by omega)⟩, if_pos (nI_pos' (by omega))]; rfl
  · rw [if_neg (fun q => absurd q.1 (by decide)), if_pos rfl, if_neg (by decide)]
theorem vr_in {k : Nat} {m : mM} {r : Int32} (hk : k ≤ 40) (hr : vr k r) (h : ¬ kd m r = 0) : vp_in r 40 ∧ ∃ j, j < k ∧ r = nI j := by
  rcases hr with rfl | ⟨j, hj, rfl⟩
  · exact absurd (by unfold kd; rw [if_neg m1_lt0, if_neg (by decide)]) h
  · exact ⟨vp_in_nI (by omega) (by omega), j, hj, rfl⟩
end
section
theorem mvF_congr {V : Nat → Int32} {ok ok' : Int32 → Bool} {lo : Nat} : ∀ (n i : Nat) (C : Nat → Int32), (∀ j, i ≤ j → j < i + n → ok (V j) = ok' (V j)) → mvF V ok lo n i C = mvF V ok' lo n i C := by
  intro n
  induction n with
  | zero => intro i C _; rfl
  | succ n ih =>
    intro i C h
    show (bif ok (V i) then _ else _) = (bif ok' (V i) then _ else _)
    rw [h i (Nat.le_refl _) (by omega), ih (i + 1) _ (fun j h1 h2 => h j (by omega) (by omega))]
theorem m_sv5 : ∀ t, t < 10 → (hB (m_sv 502 t) 5 ↔ t = 5) ∧ (hB (m_sv 502 t) 6 ↔ t = 6) := by decide
theorem mv_kinds : ∀ a, a < 10 → ∀ b, b < 10 → hB (m_sv 502 a) (nI b) → (nI b = 5 ∨ nI b = 6) ∨ (7 ≤ nI a ∧ 7 ≤ nI b) := by decide
set_option maxHeartbeats 1000000 in
theorem s_M_move {d k : Nat} {S : mS} {Q : mQ} {f t st n : Int32} (hW : WFk k (cV S)) (hf : vr k f) (ht : vr k t) (hQ : ∀ S', Fr [] [103, 104] S S' → cV S' = (mvM (cV S) f t st n).2 → Q (some (.int (mvM (cV S) f t st n).1)) S') : Ev (d + 3) n_X1_move [.ref 1, .int f, .int t, .int st, .int n] S Q := by
  obtain ⟨hk, h5, hV, hO⟩ := hW
  have h5' : S.1 5 = nI k := h5
  have hm : (S.1 5).toInt ≤ 40 := by rw [h5', nI_toInt (by omega)]; omega
  have ekf := kOf_kd h5' hk (Or.inl hf)
  have ekt := kOf_kd h5' hk (Or.inl ht)
  have q0 : ∀ x : Int32, mvM (cV S) f t st n = (x, cV S) → Q (some (.int x)) S := fun x e => by
    have := hQ S Fr.rf (by rw [e])
    rw [e] at this
    exact this
  repeat refine Wp.p rfl ?_
  refine Wp.i rfl (s_H_kindOf hm ?_)
  repeat refine Wp.p rfl ?_
  refine Wp.i rfl (s_H_kindOf hm ?_)
  rw [ekf, ekt]
  repeat refine Wp.p rfl ?_
  refine Wp.b rfl (fun (c : kd (cV S) f = 0) => ?_) (fun (c : ¬ kd (cV S) f = 0) => ?_)
  · repeat refine Wp.p rfl ?_
    exact Wp.r rfl trivial (q0 1 (by unfold mvM; rw [if_pos (Or.inl c)]))
  repeat refine Wp.p rfl ?_
  refine Wp.b rfl (fun (c2 : ¬ kd (cV S) t = 0) => ?_) (fun (c2 : ¬ ¬ kd (cV S) t = 0) => ?_)
  case refine_2 =>
    repeat refine Wp.p rfl ?_
    exact Wp.r rfl trivial (q0 1 (by unfold mvM; rw [if_pos (Or.inr (Decidable.not_not.mp c2))]))
  obtain ⟨hinf, jf, hjf, ef⟩ := vr_in hk hf c
  obtain ⟨hint, jt, hjt, et⟩ := vr_in hk ht c2
  subst ef
  subst et
  obtain ⟨⟨kf, kf1, kf2, ekf2⟩, ⟨lf, hlf, elf, hcf⟩, -⟩ := hO jf hjf
  obtain ⟨⟨kt, kt1, kt2, ekt2⟩, ⟨lt, hlt, elt, hct⟩, -⟩ := hO jt hjt
  have tnf : tn (nI jf) = jf := tn_nI (by omega)
  have tnt : tn (nI jt) = jt := tn_nI (by omega)
  have kdf : kd (cV S) (nI jf) = nI kf := by unfold kd; rw [if_pos (nI_pos' (by omega)), tnf]; exact ekf2
  have kdt : kd (cV S) (nI jt) = nI kt := by unfold kd; rw [if_pos (nI_pos' (by omega)), tnt]; exact ekt2
  have nn : ¬ (kd (cV S) (nI jf) = 0 ∨ kd (cV S) (nI jt) = 0) := fun q => q.elim c c2
  repeat refine Wp.p rfl ?_
  refine Wp.g rfl (show vp_in (kd (cV S) (nI jf)) 10 by rw [kdf]; exact vp_in_nI (by omega) (by omega)) ?_
  repeat refine Wp.p rfl ?_
  refine Wp.i rfl (s_holds (fun (c3 : hB (m_sv 502 (tn (kd (cV S) (nI jf)))) (kd (cV S) (nI jt))) => ?_) (fun (c3 : ¬ hB (m_sv 502 (tn (kd (cV S) (nI jf)))) (kd (cV S) (nI jt))) => ?_))
  case refine_2 =>
    refine Wp.b rfl (fun (e : ¬ (0 : Int32) = 0) => absurd rfl e) (fun _ => ?_)
    repeat refine Wp.p rfl ?_
    exact Wp.r rfl trivial (q0 4 (by unfold mvM; rw [if_neg nn, if_neg c3]))
  refine Wp.b rfl (fun _ => ?_) (fun (e : ¬ ¬ (1 : Int32) = 0) => absurd (by decide) e)
  have bad : (n < 0 ∨ st < 0 ∨ gL (cV S) (tn (nI jf)) < n ∨ gL (cV S) (tn (nI jt)) - n < st) → Q (some (.int 3)) S := fun q => q0 3 (by unfold mvM; rw [if_neg nn, if_pos c3, if_pos q])
  have elf' : S.2.2 101 (nI jf).toNatClampNeg = nI lf := by rw [nI_clamp (by omega)]; exact elf
  have elt' : S.2.2 101 (nI jt).toNatClampNeg = nI lt := by rw [nI_clamp (by omega)]; exact elt
  repeat refine Wp.p rfl ?_
  refine Wp.b rfl (fun (c4 : n < 0) => ?_) (fun (c4 : ¬ n < 0) => ?_)
  · repeat refine Wp.p rfl ?_
    exact Wp.r rfl trivial (bad (Or.inl c4))
  repeat refine Wp.p rfl ?_
  refine Wp.b rfl (fun (c5 : st < 0) => ?_) (fun (c5 : ¬ st < 0) => ?_)
  · repeat refine Wp.p rfl ?_
    exact Wp.r rfl trivial (bad (Or.inr (Or.inl c5)))
  repeat refine Wp.p rfl ?_
  refine Wp.i rfl (s_H_lengthOf hinf ?_)
  refine Wp.b rfl (fun (c6 : S.2.2 101 (nI jf).toNatClampNeg < n) => ?_) (fun (c6 : ¬ S.2.2 101 (nI jf).toNatClampNeg < n) => ?_)
  · repeat refine Wp.p rfl ?_
    exact Wp.r rfl trivial (bad (Or.inr (Or.inr (Or.inl c6))))
  repeat refine Wp.p rfl ?_
  refine Wp.i rfl (s_H_lengthOf hint ?_)
  repeat refine Wp.p rfl ?_
  refine Wp.b rfl (fun (c7 : st ≤ S.2.2 101 (nI jt).toNatClampNeg - n) => ?_) (fun (c7 : ¬ st ≤ S.2.2 101 (nI jt).toNatClampNeg - n) => ?_)
  case refine_2 =>
    repeat refine Wp.p rfl ?_
    exact Wp.r rfl trivial (bad (Or.inr (Or.inr (Or.inr (Int32.not_le.mp c7)))))
  obtain ⟨n', hn', rfl⟩ := nI_of c4
  obtain ⟨s', hs', rfl⟩ := nI_of c5
  have hnl : n' ≤ lf := by
    rw [elf'] at c6
    exact (nI_leI (by omega) (by omega)).mp (Int32.not_lt.mp c6)
  have hsl : s' + n' ≤ lt := by
    rw [elt'] at c7
    have h1 := Int32.le_iff_toInt_le.mp c7
    rw [pk_sub_toInt (by omega) (by omega), nI_toInt hs'] at h1
    omega
  have tnn : tn (nI n') = n' := tn_nI hn'
  have tns : tn (nI s') = s' := tn_nI hs'
  have notbad : ¬ (nI n' < 0 ∨ nI s' < 0 ∨ gL (cV S) (tn (nI jf)) < nI n' ∨ gL (cV S) (tn (nI jt)) - nI n' < nI s') := by
    rintro (q | q | q | q)
    · exact c4 q
    · exact c5 q
    · exact c6 q
    · exact Int32.not_lt.mpr c7 q
  have hmv : mvM (cV S) (nI jf) (nI jt) (nI s') (nI n') = ((mvF (cpW (gW (cV S)) (gC (cV S)) (20 * jf) n') (okC (cV S) (nI kt)) (20 * jt + s') n' 0 (gC (cV S))).1, (gV (cV S), gN (cV S), gK (cV S), gL (cV S), gX (cV S), (mvF (cpW (gW (cV S)) (gC (cV S)) (20 * jf) n') (okC (cV S) (nI kt)) (20 * jt + s') n' 0 (gC (cV S))).2, cpW (gW (cV S)) (gC (cV S)) (20 * jf) n', gM (cV S))) := by
    unfold mvM
    rw [if_neg nn, if_pos c3, if_neg notbad, tnf, tnt, tnn, tns, kdt]
  have hcong : mvF (cpW (S.2.2 104) (S.2.2 103) (20 * jf) n') (fun r => decide (S.2.2 100 jt = 5 ∨ S.2.2 100 jt = 6) || decide (hB (m_sv 501 (S.2.2 100 jt).toNatClampNeg) (kOf S r))) (20 * jt + s') n' 0 (S.2.2 103) = mvF (cpW (S.2.2 104) (S.2.2 103) (20 * jf) n') (okC (cV S) (nI kt)) (20 * jt + s') n' 0 (S.2.2 103) := by
    apply mvF_congr
    intro j _ hj
    have ekt3 : S.2.2 100 jt = nI kt := ekt2
    unfold okC
    rw [ekt3]
    have hj' : j < n' := by omega
    rw [cpW_at hj']
    rw [kdf, kdt, tn_nI (by omega)] at c3
    rcases mv_kinds kf (by omega) kt (by omega) c3 with h | ⟨h7, -⟩
    · rw [decide_eq_true h]; rfl
    · have h7' : 7 ≤ gK (cV S) jf := by rw [ekf2]; exact h7
      have h8 := (hcf h7' j (by omega)).1
      have h9 : kOf S (S.2.2 103 (20 * jf + j)) = kd (cV S) (S.2.2 103 (20 * jf + j)) := kOf_kd h5' hk h8
      rw [h9]
  repeat refine Wp.p rfl ?_
  refine Wp.i rfl (s_H_move (f := jf) (t := jt) (st := s') (n := n') (by omega) (by omega) (by omega) hm (show vp_in (S.2.2 100 jt) 10 by rw [show S.2.2 100 jt = nI kt from ekt2]; exact vp_in_nI (by omega) (by omega)) _ (fun r => rfl) (fun S' hF h104 h103 => ?_))
  rw [hcong] at h103 ⊢
  have hq := hQ S' hF (by
    rw [hmv]
    unfold cV
    rw [h103, h104, hF.2.2 143 (by decide), hF.2.2 144 (by decide), hF.2.2 100 (by decide), hF.2.2 101 (by decide), hF.2.2 102 (by decide), hF.1 5 (by decide)]
    rfl)
  rw [hmv] at hq
  exact Wp.r rfl trivial hq
end
section
def PQ (S : mS) (k : Nat) (a b c : Int32) (Q : mQ) : Prop := ∀ S', Fr [5, 45, 48, 49] [143, 144, 100, 101, 102, 103, 104] S S' → cV S' = (doS (cV S) k a b c).2 → S'.1 45 = nxS (cV S) k a b c (S.1 45) → S'.1 48 = (if k = 23 then 0 else S.1 48) → S'.1 49 = (if k = 23 then gN (cV S) (tn a) else S.1 49) → Q (some (.int (doS (cV S) k a b c).1)) S'
theorem PQ.no {S : mS} {k : Nat} {a b c x : Int32} {Q : mQ} (h : PQ S k a b c Q) (e : doS (cV S) k a b c = (x, cV S)) (hn : nxS (cV S) k a b c (S.1 45) = S.1 45) (hk : k ≠ 23) : Q (some (.int x)) S := by
  have := h S Fr.rf (by rw [e]) hn.symm (by rw [if_neg hk]) (by rw [if_neg hk])
  rw [e] at this
  exact this
theorem PQ.go {S S' : mS} {k : Nat} {a b c x : Int32} {m : mM} {Q : mQ} (h : PQ S k a b c Q) (e : doS (cV S) k a b c = (x, m)) (hF : Fr [5, 45, 48, 49] [143, 144, 100, 101, 102, 103, 104] S S') (hm : cV S' = m) (hn : S'.1 45 = nxS (cV S) k a b c (S.1 45)) (hs : S'.1 48 = (if k = 23 then 0 else S.1 48)) (he : S'.1 49 = (if k = 23 then gN (cV S) (tn a) else S.1 49)) : Q (some (.int x)) S' := by
  have := h S' hF (by rw [e]; exact hm) hn hs he
  rw [e] at this
  exact this
theorem inV {a : Int32} (h : 0 ≤ a ∧ a < 6) : vp_in a 6 := vp_in_of2 h.1 h.2 (by decide)
theorem inN {a : Int32} (h : 0 ≤ a ∧ a < 4) : vp_in a 4 := vp_in_of2 h.1 h.2 (by decide)
theorem inT {a : Int32} (h : 0 ≤ a ∧ a < 11) : vp_in a 11 := vp_in_of2 h.1 h.2 (by decide)
theorem inVt {a : Int32} (h : 0 ≤ a ∧ a < 6) : tn a < 6 := Nat.not_le.mp fun q => inV h (Or.inr q)
theorem inNt {a : Int32} (h : 0 ≤ a ∧ a < 4) : tn a < 4 := Nat.not_le.mp fun q => inN h (Or.inr q)
section PF
variable {d k0 : Nat} {S : mS} {Q : mQ} {a b c : Int32}
theorem p_0 (hw : wS 0 a b c) (h : PQ S 0 a b c Q) : Ev (d + 4) n_X1_perform [.ref 1, .int 0, .int a, .int b, .int c] S Q := by
  have ha := inV (hw.2.1.1 rfl)
  refine Wp.p rfl ?_
  refine Wp.p (pc' := 334) rfl ?_
  repeat refine Wp.p rfl ?_
  refine Wp.i rfl ?_
  refine Wp.p rfl ?_
  refine Wp.p (pc' := 112) rfl ?_
  repeat refine Wp.p rfl ?_
  refine Wp.g rfl ha ?_
  repeat refine Wp.p rfl ?_
  refine Wp.r rfl trivial ?_
  repeat refine Wp.p rfl ?_
  exact Wp.r rfl trivial (h _ (Fr.rf.a (by decide)) rfl rfl rfl rfl)
theorem p_3 (hw : wS 3 a b c) (h : PQ S 3 a b c Q) : Ev (d + 4) n_X1_perform [.ref 1, .int 3, .int a, .int b, .int c] S Q := by
  have ha := inV (hw.2.1.1 rfl)
  have hb := inV (hw.2.2.1.1 rfl)
  refine Wp.p rfl ?_
  refine Wp.p (pc' := 334) rfl ?_
  repeat refine Wp.p rfl ?_
  refine Wp.i rfl ?_
  refine Wp.p rfl ?_
  refine Wp.p (pc' := 122) rfl ?_
  repeat refine Wp.p rfl ?_
  refine Wp.g rfl hb ?_
  refine Wp.g rfl ha ?_
  repeat refine Wp.p rfl ?_
  refine Wp.r rfl trivial ?_
  repeat refine Wp.p rfl ?_
  exact Wp.r rfl trivial (h _ (Fr.rf.a (by decide)) rfl rfl rfl rfl)
theorem p_4 (hW : WFk k0 (cV S)) (hw : wS 4 a b c) (h : PQ S 4 a b c Q) : Ev (d + 4) n_X1_perform [.ref 1, .int 4, .int a, .int b, .int c] S Q := by
  obtain ⟨hk, h5, hV, hO⟩ := hW
  have ha := inV (hw.2.1.1 rfl)
  have hb := inT (hw.2.2.1.2.2.2.2.1 rfl)
  have hm : (S.1 5).toInt ≤ 40 := by rw [show S.1 5 = nI k0 from h5, nI_toInt (by omega)]; omega
  have ek := kOf_kd (r := S.2.2 143 (tn a)) h5 hk (Or.inl (hV _ (inVt (hw.2.1.1 rfl))))
  refine Wp.p rfl ?_
  refine Wp.p (pc' := 334) rfl ?_
  repeat refine Wp.p rfl ?_
  refine Wp.i rfl ?_
  refine Wp.p rfl ?_
  refine Wp.p (pc' := 137) rfl ?_
  repeat refine Wp.p rfl ?_
  refine Wp.g rfl hb ?_
  repeat refine Wp.p rfl ?_
  refine Wp.g rfl ha ?_
  refine Wp.i rfl (s_H_kindOf hm ?_)
  refine Wp.i rfl (s_holds (fun (q : hB (m_sv 500 (tn b)) (kOf S (S.2.2 143 (tn a)))) => ?_) (fun (q : ¬ hB (m_sv 500 (tn b)) (kOf S (S.2.2 143 (tn a)))) => ?_))
  · rw [ek] at q
    repeat refine Wp.p rfl ?_
    refine Wp.i rfl (s_M_jumpIf (fun _ => ?_) (fun (e : (1 : Int32) = 0) => absurd e (by decide)))
    repeat refine Wp.p rfl ?_
    refine Wp.r rfl trivial ?_
    repeat refine Wp.p rfl ?_
    exact Wp.r rfl trivial (h _ (Fr.rf.f (by decide)) rfl (show c = nxS (cV S) 4 a b c (S.1 45) from (if_pos q).symm) rfl rfl)
  · rw [ek] at q
    repeat refine Wp.p rfl ?_
    refine Wp.i rfl (s_M_jumpIf (fun (e : ¬ (0 : Int32) = 0) => absurd rfl e) (fun _ => ?_))
    repeat refine Wp.p rfl ?_
    refine Wp.r rfl trivial ?_
    repeat refine Wp.p rfl ?_
    exact Wp.r rfl trivial (h.no rfl (show nxS (cV S) 4 a b c (S.1 45) = S.1 45 from if_neg q) (by decide))
theorem p_5 (hw : wS 5 a b c) (h : PQ S 5 a b c Q) : Ev (d + 4) n_X1_perform [.ref 1, .int 5, .int a, .int b, .int c] S Q := by
  have ha := inV (hw.2.1.1 rfl)
  refine Wp.p rfl ?_
  refine Wp.p (pc' := 334) rfl ?_
  repeat refine Wp.p rfl ?_
  refine Wp.i rfl ?_
  refine Wp.p rfl ?_
  refine Wp.p (pc' := 167) rfl ?_
  repeat refine Wp.p rfl ?_
  refine Wp.g rfl ha ?_
  repeat refine Wp.p rfl ?_
  refine Wp.b rfl (fun (q : ¬ S.2.2 143 (tn a) = -1) => ?_) (fun (q : ¬ ¬ S.2.2 143 (tn a) = -1) => ?_)
  · repeat refine Wp.p rfl ?_
    refine Wp.i rfl (s_M_jumpIf (fun (e : ¬ (0 : Int32) = 0) => absurd rfl e) (fun _ => ?_))
    repeat refine Wp.p rfl ?_
    refine Wp.r rfl trivial ?_
    repeat refine Wp.p rfl ?_
    exact Wp.r rfl trivial (h.no rfl (show nxS (cV S) 5 a b c (S.1 45) = S.1 45 from if_neg q) (by decide))
  · repeat refine Wp.p rfl ?_
    refine Wp.i rfl (s_M_jumpIf (fun _ => ?_) (fun (e : (1 : Int32) = 0) => absurd e (by decide)))
    repeat refine Wp.p rfl ?_
    refine Wp.r rfl trivial ?_
    repeat refine Wp.p rfl ?_
    exact Wp.r rfl trivial (h _ (Fr.rf.f (by decide)) rfl (show c = nxS (cV S) 5 a b c (S.1 45) from (if_pos (Decidable.not_not.mp q)).symm) rfl rfl)
theorem p_16 (hw : wS 16 a b c) (h : PQ S 16 a b c Q) : Ev (d + 4) n_X1_perform [.ref 1, .int 16, .int a, .int b, .int c] S Q := by
  have ha := inN (hw.2.1.2.1 rfl)
  refine Wp.p rfl ?_
  refine Wp.p (pc' := 334) rfl ?_
  repeat refine Wp.p rfl ?_
  refine Wp.i rfl ?_
  refine Wp.p rfl ?_
  refine Wp.p (pc' := 191) rfl ?_
  repeat refine Wp.p rfl ?_
  refine Wp.g rfl ha ?_
  repeat refine Wp.p rfl ?_
  refine Wp.r rfl trivial ?_
  repeat refine Wp.p rfl ?_
  exact Wp.r rfl trivial (h _ (Fr.rf.a (by decide)) rfl rfl rfl rfl)
theorem p_17 (hw : wS 17 a b c) (h : PQ S 17 a b c Q) : Ev (d + 4) n_X1_perform [.ref 1, .int 17, .int a, .int b, .int c] S Q := by
  have ha := inN (hw.2.1.2.1 rfl)
  have hb := inN (hw.2.2.1.2.1 rfl)
  refine Wp.p rfl ?_
  refine Wp.p (pc' := 334) rfl ?_
  repeat refine Wp.p rfl ?_
  refine Wp.i rfl ?_
  refine Wp.p rfl ?_
  refine Wp.p (pc' := 201) rfl ?_
  repeat refine Wp.p rfl ?_
  refine Wp.g rfl ha ?_
  repeat refine Wp.p rfl ?_
  refine Wp.g rfl hb ?_
  repeat refine Wp.p rfl ?_
  refine Wp.g rfl ha ?_
  repeat refine Wp.p rfl ?_
  refine Wp.r rfl trivial ?_
  repeat refine Wp.p rfl ?_
  exact Wp.r rfl trivial (h _ (Fr.rf.a (by decide)) rfl rfl rfl rfl)
theorem p_19 (hw : wS 19 a b c) (h : PQ S 19 a b c Q) : Ev (d + 4) n_X1_perform [.ref 1, .int 19, .int a, .int b, .int c] S Q := by
  have ha := inN (hw.2.1.2.1 rfl)
  have hb := inN (hw.2.2.1.2.1 rfl)
  refine Wp.p rfl ?_
  refine Wp.p (pc' := 334) rfl ?_
  repeat refine Wp.p rfl ?_
  refine Wp.i rfl ?_
  refine Wp.p rfl ?_
  refine Wp.p (pc' := 219) rfl ?_
  repeat refine Wp.p rfl ?_
  refine Wp.g rfl ha ?_
  repeat refine Wp.p rfl ?_
  refine Wp.g rfl hb ?_
  refine Wp.b rfl (fun (q : S.2.2 144 (tn b) ≤ S.2.2 144 (tn a)) => ?_) (fun (q : ¬ S.2.2 144 (tn b) ≤ S.2.2 144 (tn a)) => ?_)
  · repeat refine Wp.p rfl ?_
    refine Wp.i rfl (s_M_jumpIf (fun (e : ¬ (0 : Int32) = 0) => absurd rfl e) (fun _ => ?_))
    repeat refine Wp.p rfl ?_
    refine Wp.r rfl trivial ?_
    repeat refine Wp.p rfl ?_
    exact Wp.r rfl trivial (h.no rfl (show nxS (cV S) 19 a b c (S.1 45) = S.1 45 from if_neg (Int32.not_lt.mpr q)) (by decide))
  · repeat refine Wp.p rfl ?_
    refine Wp.i rfl (s_M_jumpIf (fun _ => ?_) (fun (e : (1 : Int32) = 0) => absurd e (by decide)))
    repeat refine Wp.p rfl ?_
    refine Wp.r rfl trivial ?_
    repeat refine Wp.p rfl ?_
    exact Wp.r rfl trivial (h _ (Fr.rf.f (by decide)) rfl (show c = nxS (cV S) 19 a b c (S.1 45) from (if_pos (Int32.not_le.mp q)).symm) rfl rfl)
theorem p_20 (h : PQ S 20 a b c Q) : Ev (d + 4) n_X1_perform [.ref 1, .int 20, .int a, .int b, .int c] S Q := by
  refine Wp.p rfl ?_
  refine Wp.p (pc' := 334) rfl ?_
  repeat refine Wp.p rfl ?_
  refine Wp.i rfl ?_
  refine Wp.p rfl ?_
  refine Wp.p (pc' := 248) rfl ?_
  repeat refine Wp.p rfl ?_
  refine Wp.r rfl trivial ?_
  repeat refine Wp.p rfl ?_
  exact Wp.r rfl trivial (h _ (Fr.rf.f (by decide)) rfl rfl rfl rfl)
theorem p_23 (hw : wS 23 a b c) (h : PQ S 23 a b c Q) : Ev (d + 4) n_X1_perform [.ref 1, .int 23, .int a, .int b, .int c] S Q := by
  have ha := inN (hw.2.1.2.1 rfl)
  refine Wp.p rfl ?_
  refine Wp.p (pc' := 334) rfl ?_
  repeat refine Wp.p rfl ?_
  refine Wp.i rfl ?_
  refine Wp.p rfl ?_
  refine Wp.p (pc' := 256) rfl ?_
  repeat refine Wp.p rfl ?_
  refine Wp.g rfl ha ?_
  repeat refine Wp.p rfl ?_
  refine Wp.r rfl trivial ?_
  repeat refine Wp.p rfl ?_
  exact Wp.r rfl trivial (h _ ((Fr.rf.f (by decide)).f (by decide)) rfl rfl rfl rfl)
theorem p_21 (h : PQ S 21 a b c Q) : Ev (d + 4) n_X1_perform [.ref 1, .int 21, .int a, .int b, .int c] S Q := by
  refine Wp.p rfl ?_
  refine Wp.p (pc' := 301) rfl ?_
  repeat refine Wp.p rfl ?_
  exact Wp.r rfl trivial (h.no rfl rfl (by decide))
end PF
end
section
theorem uFm_1 {m : mM} {r k : Int32} (h : kd m r = 0) : uFm m r k = 1 := if_pos h
theorem uFm_0 {m : mM} {r k : Int32} (h : ¬ kd m r = 0) (h2 : hB k (kd m r)) : uFm m r k = 0 := by unfold uFm; rw [if_neg h, if_pos h2]
theorem uFm_2 {m : mM} {r k : Int32} (h : ¬ kd m r = 0) (h2 : ¬ hB k (kd m r)) : uFm m r k = 2 := by unfold uFm; rw [if_neg h, if_neg h2]
theorem cFm_1 {m : mM} {r k x : Int32} (h : kd m r = 0) : cFm m r k x = 1 := if_pos h
theorem cFm_2 {m : mM} {r k x : Int32} (h : ¬ kd m r = 0) (h2 : ¬ hB k (kd m r)) : cFm m r k x = 2 := by unfold cFm; rw [if_neg h, if_neg h2]
theorem cFm_3 {m : mM} {r k x : Int32} (h : ¬ kd m r = 0) (h2 : hB k (kd m r)) (h3 : ¬ (0 ≤ x ∧ x < gL m (tn r))) : cFm m r k x = 3 := by unfold cFm; rw [if_neg h, if_pos h2, if_neg h3]
theorem cFm_0 {m : mM} {r k x : Int32} (h : ¬ kd m r = 0) (h2 : hB k (kd m r)) (h3 : 0 ≤ x) (h4 : x < gL m (tn r)) : cFm m r k x = 0 := by unfold cFm; rw [if_neg h, if_pos h2, if_pos ⟨h3, h4⟩]
theorem wf_ix {k0 : Nat} {m : mM} {r x : Int32} (hW : WFk k0 m) (hr : vr k0 r) (h : ¬ kd m r = 0) (h0 : 0 ≤ x) (h1 : x < gL m (tn r)) : r * 20 + x = nI (20 * tn r + tn x) ∧ 20 * tn r + tn x < 800 ∧ tn (r * 20 + x) = 20 * tn r + tn x := by
  obtain ⟨hk, h5, hV, hO⟩ := hW
  obtain ⟨-, j, hj, rfl⟩ := vr_in hk hr h
  have tj : tn (nI j) = j := tn_nI (by omega)
  obtain ⟨-, ⟨n, hn, en, -⟩, -⟩ := hO j hj
  rw [tj, en] at h1
  obtain ⟨x', hx', rfl⟩ := nI_of (Int32.not_lt.mpr h0)
  have hlt := (nI_ltI hx' (by omega)).mp h1
  rw [tj, tn_nI hx', ix20]
  exact ⟨rfl, by omega, tn_nI (by omega)⟩
theorem wf_m {k0 : Nat} {S : mS} (hW : WFk k0 (cV S)) : (S.1 5).toInt ≤ 40 := by
  obtain ⟨hk, h5, -⟩ := hW
  rw [show S.1 5 = nI k0 from h5, nI_toInt (by omega)]
  omega
theorem wf_v {k0 : Nat} {S : mS} {a : Int32} (hW : WFk k0 (cV S)) (ha : 0 ≤ a ∧ a < 6) : vr k0 (S.2.2 143 (tn a)) := hW.2.2.1 _ (inVt ha)
theorem wf_k {k0 : Nat} {S : mS} {r : Int32} (hW : WFk k0 (cV S)) (hr : vr k0 r) : kOf S r = kd (cV S) r := kOf_kd hW.2.1 hW.1 (Or.inl hr)
theorem wf_r {k0 : Nat} {S : mS} {r : Int32} (hW : WFk k0 (cV S)) (hr : vr k0 r) : ¬ kOf S r = 0 → vp_in r 40 := fun q => (vr_in (m := cV S) hW.1 hr (by rw [← wf_k hW hr]; exact q)).1
theorem wf_c {k0 : Nat} {S : mS} {r x : Int32} (hW : WFk k0 (cV S)) (hr : vr k0 r) : ¬ kOf S r = 0 → 0 ≤ x → x < S.2.2 101 r.toNatClampNeg → vp_in (r * 20 + x) 800 := fun q q0 q1 => by
  obtain ⟨e, hl, -⟩ := wf_ix hW hr (by rw [← wf_k hW hr]; exact q) q0 q1
  rw [e]
  exact vp_in_nI hl (by omega)
theorem ite_no {x y : Int32} {A : Int32 × mM} {m : mM} (e : y = x) (hx : ¬ x = 0) : (if y = 0 then A else (y, m)) = (x, m) := by subst e; rw [if_neg hx]
theorem ite_yes {y : Int32} {A B : Int32 × mM} (e : y = 0) : (if y = 0 then A else B) = A := if_pos e
section DO
variable {m : mM} {a b c x : Int32}
theorem d10_2 (h : ¬ hB 385 (kd m (gV m (tn a))) ∨ ¬ hB 31 (kd m (gV m (tn b)))) : doS m 10 a b c = (2, m) := if_pos h
theorem d10_f (h1 : hB 385 (kd m (gV m (tn a)))) (h2 : hB 31 (kd m (gV m (tn b)))) (e : cFm m (gV m (tn a)) 384 (gN m (tn c)) = x) (hx : ¬ x = 0) : doS m 10 a b c = (x, m) := by
  have h3 : ¬ (¬ hB 385 (kd m (gV m (tn a))) ∨ ¬ hB 31 (kd m (gV m (tn b)))) := fun z => z.elim (fun z => z h1) (fun z => z h2)
  exact (if_neg h3).trans (ite_no e hx)
theorem d10_4 (h1 : hB 385 (kd m (gV m (tn a)))) (h2 : hB 31 (kd m (gV m (tn b)))) (e : cFm m (gV m (tn a)) 384 (gN m (tn c)) = 0) (h4 : ¬ hB (m_sv 501 (tn (kd m (gV m (tn a))))) (kd m (gV m (tn b)))) : doS m 10 a b c = (4, m) := by
  have h3 : ¬ (¬ hB 385 (kd m (gV m (tn a))) ∨ ¬ hB 31 (kd m (gV m (tn b)))) := fun z => z.elim (fun z => z h1) (fun z => z h2)
  exact (if_neg h3).trans ((if_pos e).trans (if_neg h4))
theorem d10_0 (h1 : hB 385 (kd m (gV m (tn a)))) (h2 : hB 31 (kd m (gV m (tn b)))) (e : cFm m (gV m (tn a)) 384 (gN m (tn c)) = 0) (h4 : hB (m_sv 501 (tn (kd m (gV m (tn a))))) (kd m (gV m (tn b)))) : doS m 10 a b c = (0, stC m (20 * tn (gV m (tn a)) + tn (gN m (tn c))) (gV m (tn b))) := by
  have h3 : ¬ (¬ hB 385 (kd m (gV m (tn a))) ∨ ¬ hB 31 (kd m (gV m (tn b)))) := fun z => z.elim (fun z => z h1) (fun z => z h2)
  exact (if_neg h3).trans ((if_pos e).trans (if_pos h4))
end DO
theorem b385 : ∀ j, j < 10 → (hB 385 (nI j) ↔ nI j = 0 ∨ hB 384 (nI j)) := by decide
/-- the kind of a reference is one of ten -/
theorem kd_10 {k0 : Nat} {m : mM} {r : Int32} (hW : WFk k0 m) (hr : vr k0 r) : ∃ j, j < 10 ∧ kd m r = nI j := by
  by_cases q : kd m r = 0
  · exact ⟨0, by omega, q⟩
  · obtain ⟨-, j, hj, ej⟩ := vr_in hW.1 hr q
    obtain ⟨⟨t, t1, t2, et⟩, -⟩ := hW.2.2.2 j hj
    have hk := hW.1
    refine ⟨t, by omega, ?_⟩
    rw [ej]
    unfold kd
    rw [if_pos (nI_pos' (by omega)), tn_nI (by omega)]
    exact et
theorem kd_K {k0 : Nat} {m : mM} {r : Int32} (hW : WFk k0 m) (hr : vr k0 r) (q : ¬ kd m r = 0) : gK m (tn r) = kd m r ∧ vp_in (gK m (tn r)) 10 := by
  obtain ⟨-, j, hj, ej⟩ := vr_in hW.1 hr q
  obtain ⟨⟨t, t1, t2, et⟩, -⟩ := hW.2.2.2 j hj
  have hk := hW.1
  rw [ej, tn_nI (by omega), et]
  refine ⟨?_, vp_in_nI (by omega) (by omega)⟩
  unfold kd
  rw [if_pos (nI_pos' (by omega)), tn_nI (by omega)]
  exact et.symm
section PF
variable {d k0 : Nat} {S : mS} {Q : mQ} {a b c : Int32}
theorem p_1 (hW : WFk k0 (cV S)) (hw : wS 1 a b c) (h : PQ S 1 a b c Q) : Ev (d + 4) n_X1_perform [.ref 1, .int 1, .int a, .int b, .int c] S Q := by
  have ha := hw.2.1.1 rfl
  have h5 : S.1 5 = nI k0 := hW.2.1
  have hk := hW.1
  refine Wp.p rfl ?_
  refine Wp.p (pc' := 104) rfl ?_
  repeat refine Wp.p rfl ?_
  refine Wp.i rfl (s_M_makeThing (inV ha) hk h5 (fun q => ?_) (fun q S' hF f5 fv fk fl fx fc => ?_))
  · refine Wp.r rfl trivial (h.no ?_ rfl (by decide))
    exact if_pos (show S.1 5 = 40 by rw [h5, q]; rfl)
  · have hne : ¬ gM (cV S) = 40 := fun e => by
      have e2 : nI k0 = nI 40 := h5.symm.trans e
      exact absurd ((nI_eq (by omega) (by decide)).mp e2) (by omega)
    have tk : tn (S.1 5) = k0 := by rw [h5]; exact tn_nI (by omega)
    refine Wp.r rfl trivial (h.go (m := newO (cV S) (tn a) b 0) ?_ (hF.up (by decide) (by decide)) ?_ ?_ ?_ ?_)
    · exact if_neg hne
    · unfold cV newO
      rw [fv, fk, fl, fx, fc, f5, hF.2.2 144 (by decide), hF.2.2 104 (by decide)]
      show _ = (upd _ _ (S.1 5), _, upd _ (tn (S.1 5)) _, upd _ (tn (S.1 5)) _, upd _ (tn (S.1 5)) _, fillC _ (20 * tn (S.1 5)) _ (tn 0), _, S.1 5 + 1)
      rw [tk, h5, nI_1]
      rfl
    · exact hF.1 45 (by decide)
    · exact hF.1 48 (by decide)
    · exact hF.1 49 (by decide)
theorem p_2 (hW : WFk k0 (cV S)) (hw : wS 2 a b c) (h : PQ S 2 a b c Q) : Ev (d + 4) n_X1_perform [.ref 1, .int 2, .int a, .int b, .int c] S Q := by
  have ha := hw.2.1.1 rfl
  have hc := hw.2.2.2.2.1 rfl
  have h5 : S.1 5 = nI k0 := hW.2.1
  have hk := hW.1
  refine Wp.p rfl ?_
  refine Wp.p (pc' := 111) rfl ?_
  repeat refine Wp.p rfl ?_
  refine Wp.g rfl (inN hc) ?_
  refine Wp.i rfl (s_M_makeArray (inV ha) hk h5 (fun (q : S.2.2 144 (tn c) < 0) => ?_) (fun (q1 : ¬ S.2.2 144 (tn c) < 0) (q2 : 20 < S.2.2 144 (tn c) ∨ k0 = 40) => ?_) (fun len hl (el : S.2.2 144 (tn c) = nI len) q S' hF f5 fv fk fl fx fc => ?_))
  · refine Wp.r rfl trivial (h.no ?_ rfl (by decide))
    show (if S.2.2 144 (tn c) < 0 then _ else _) = _
    rw [if_pos q]
  · refine Wp.r rfl trivial (h.no ?_ rfl (by decide))
    show (if S.2.2 144 (tn c) < 0 then _ else if 20 < S.2.2 144 (tn c) ∨ S.1 5 = 40 then _ else _) = _
    rw [if_neg q1, if_pos (q2.elim Or.inl (fun e => Or.inr (by rw [h5, e]; rfl)))]
  · have hne : ¬ S.1 5 = 40 := fun e => by
      have e2 : nI k0 = nI 40 := h5.symm.trans e
      exact absurd ((nI_eq (by omega) (by decide)).mp e2) (by omega)
    have tk : tn (S.1 5) = k0 := by rw [h5]; exact tn_nI (by omega)
    have tl : tn (S.2.2 144 (tn c)) = len := by rw [el]; exact tn_nI (by omega)
    refine Wp.r rfl trivial (h.go (m := newO (cV S) (tn a) b (S.2.2 144 (tn c))) ?_ (hF.up (by decide) (by decide)) ?_ ?_ ?_ ?_)
    · show (if S.2.2 144 (tn c) < 0 then _ else if 20 < S.2.2 144 (tn c) ∨ S.1 5 = 40 then _ else _) = _
      rw [if_neg (by rw [el]; exact nI_pos (by omega)), if_neg (fun z => z.elim (fun z => absurd z (by rw [el]; exact nI_nlt (a := 20) (by omega) (by omega))) hne)]
      rfl
    · unfold cV newO
      rw [fv, fk, fl, fx, fc, f5, hF.2.2 144 (by decide), hF.2.2 104 (by decide)]
      show _ = (upd _ _ (S.1 5), _, upd _ (tn (S.1 5)) _, upd _ (tn (S.1 5)) (S.2.2 144 (tn c)), upd _ (tn (S.1 5)) _, fillC _ (20 * tn (S.1 5)) _ (tn (S.2.2 144 (tn c))), _, S.1 5 + 1)
      rw [tk, tl, h5, nI_1, el]
      rfl
    · exact hF.1 45 (by decide)
    · exact hF.1 48 (by decide)
    · exact hF.1 49 (by decide)
theorem p_6 (hW : WFk k0 (cV S)) (hw : wS 6 a b c) (h : PQ S 6 a b c Q) : Ev (d + 4) n_X1_perform [.ref 1, .int 6, .int a, .int b, .int c] S Q := by
  have ha := hw.2.1.1 rfl
  have hb := inT (hw.2.2.1.2.2.2.2.1 rfl)
  have hc := hw.2.2.2.1 rfl
  have ek := wf_k hW (wf_v hW ha)
  refine Wp.p rfl ?_
  refine Wp.p (pc' := 125) rfl ?_
  repeat refine Wp.p rfl ?_
  refine Wp.g rfl (inV ha) ?_
  repeat refine Wp.p rfl ?_
  refine Wp.i rfl (s_M_castInto (inV hc) hb (wf_m hW) (fun (q : ¬ hB (m_sv 500 (tn b) ||| 1) (kOf S (S.2.2 143 (tn a)))) => ?_) (fun (q : hB (m_sv 500 (tn b) ||| 1) (kOf S (S.2.2 143 (tn a)))) => ?_))
  · rw [ek] at q
    refine Wp.r rfl trivial (h.no ?_ rfl (by decide))
    exact if_neg q
  · rw [ek] at q
    refine Wp.r rfl trivial (h.go (if_pos q) (Fr.rf.a (by decide)) rfl rfl rfl rfl)
theorem p_7 (hW : WFk k0 (cV S)) (hw : wS 7 a b c) (h : PQ S 7 a b c Q) : Ev (d + 4) n_X1_perform [.ref 1, .int 7, .int a, .int b, .int c] S Q := by
  have ha := hw.2.1.1 rfl
  have hb := hw.2.2.1.1 rfl
  have hr := wf_v hW hb
  have ek := wf_k hW hr
  have eD : ∀ x, uFm (cV S) (S.2.2 143 (tn b)) 30 = x → ¬ x = 0 → doS (cV S) 7 a b c = (x, cV S) := fun x e hx => ite_no e hx
  refine Wp.p rfl ?_
  refine Wp.p (pc' := 139) rfl ?_
  repeat refine Wp.p rfl ?_
  refine Wp.g rfl (inV hb) ?_
  refine Wp.i rfl (s_M_getNext (r := S.2.2 143 (tn b)) (inV ha) (wf_m hW) (wf_r hW hr) (fun q => ?_) (fun q q2 => ?_) (fun q q2 => ?_))
  · rw [ek] at q
    exact Wp.r rfl trivial (h.no (eD 1 (uFm_1 q) (by decide)) rfl (by decide))
  · rw [ek] at q q2
    exact Wp.r rfl trivial (h.no (eD 2 (uFm_2 q q2) (by decide)) rfl (by decide))
  · rw [ek] at q q2
    refine Wp.r rfl trivial (h.go ?_ (Fr.rf.a (by decide)) rfl rfl rfl rfl)
    exact ite_yes (uFm_0 q q2)
theorem p_8 (hW : WFk k0 (cV S)) (hw : wS 8 a b c) (h : PQ S 8 a b c Q) : Ev (d + 4) n_X1_perform [.ref 1, .int 8, .int a, .int b, .int c] S Q := by
  have ha := hw.2.1.1 rfl
  have hb := hw.2.2.1.1 rfl
  have hr := wf_v hW ha
  have ek := wf_k hW hr
  have eD : ∀ x, uFm (cV S) (S.2.2 143 (tn a)) 30 = x → ¬ x = 0 → doS (cV S) 8 a b c = (x, cV S) := fun x e hx => ite_no e hx
  refine Wp.p rfl ?_
  refine Wp.p (pc' := 151) rfl ?_
  repeat refine Wp.p rfl ?_
  refine Wp.g rfl (inV ha) ?_
  repeat refine Wp.p rfl ?_
  refine Wp.g rfl (inV hb) ?_
  refine Wp.i rfl (s_M_setNext (r := S.2.2 143 (tn a)) (x := S.2.2 143 (tn b)) (wf_m hW) (wf_r hW hr) (fun q => ?_) (fun q q2 => ?_) (fun q q2 => ?_))
  · rw [ek] at q
    exact Wp.r rfl trivial (h.no (eD 1 (uFm_1 q) (by decide)) rfl (by decide))
  · rw [ek] at q q2
    exact Wp.r rfl trivial (h.no (eD 2 (uFm_2 q q2) (by decide)) rfl (by decide))
  · rw [ek] at q q2
    refine Wp.r rfl trivial (h.go ?_ (Fr.rf.a (by decide)) rfl rfl rfl rfl)
    exact ite_yes (uFm_0 q q2)
theorem p_9 (hW : WFk k0 (cV S)) (hw : wS 9 a b c) (h : PQ S 9 a b c Q) : Ev (d + 4) n_X1_perform [.ref 1, .int 9, .int a, .int b, .int c] S Q := by
  have ha := hw.2.1.1 rfl
  have hb := hw.2.2.1.1 rfl
  have hc := hw.2.2.2.2.1 rfl
  have hr := wf_v hW hb
  have ek := wf_k hW hr
  have eD : ∀ x, cFm (cV S) (S.2.2 143 (tn b)) 384 (S.2.2 144 (tn c)) = x → ¬ x = 0 → doS (cV S) 9 a b c = (x, cV S) := fun x e hx => ite_no e hx
  refine Wp.p rfl ?_
  refine Wp.p (pc' := 168) rfl ?_
  repeat refine Wp.p rfl ?_
  refine Wp.g rfl (inV hb) ?_
  repeat refine Wp.p rfl ?_
  refine Wp.g rfl (inN hc) ?_
  refine Wp.i rfl (s_M_getCell (r := S.2.2 143 (tn b)) (x := S.2.2 144 (tn c)) (inV ha) (wf_m hW) (wf_r hW hr) (wf_c hW hr) (fun q => ?_) (fun q q2 => ?_) (fun q q2 q3 => ?_) (fun q q2 q3 q4 => ?_))
  · rw [ek] at q
    exact Wp.r rfl trivial (h.no (eD 1 (cFm_1 q) (by decide)) rfl (by decide))
  · rw [ek] at q q2
    exact Wp.r rfl trivial (h.no (eD 2 (cFm_2 q q2) (by decide)) rfl (by decide))
  · rw [ek] at q q2
    exact Wp.r rfl trivial (h.no (eD 3 (cFm_3 q q2 q3) (by decide)) rfl (by decide))
  · rw [ek] at q q2
    have e9 := (wf_ix hW hr q q3 q4).2.2
    refine Wp.r rfl trivial (h.go (m := stV (cV S) (tn a) (S.2.2 103 (tn (S.2.2 143 (tn b) * 20 + S.2.2 144 (tn c))))) ?_ (Fr.rf.a (by decide)) rfl rfl rfl rfl)
    rw [e9]
    exact ite_yes (cFm_0 q q2 q3 q4)
theorem p_10 (hW : WFk k0 (cV S)) (hw : wS 10 a b c) (h : PQ S 10 a b c Q) : Ev (d + 4) n_X1_perform [.ref 1, .int 10, .int a, .int b, .int c] S Q := by
  have ha := hw.2.1.1 rfl
  have hb := hw.2.2.1.1 rfl
  have hc := hw.2.2.2.2.1 rfl
  have hr := wf_v hW ha
  have ek := wf_k hW hr
  have ey := wf_k hW (wf_v hW hb)
  obtain ⟨j9, hj9, ej9⟩ := kd_10 hW hr
  have b9 : hB 385 (kd (cV S) (S.2.2 143 (tn a))) ↔ kd (cV S) (S.2.2 143 (tn a)) = 0 ∨ hB 384 (kd (cV S) (S.2.2 143 (tn a))) := by rw [ej9]; exact b385 j9 hj9
  refine Wp.p rfl ?_
  refine Wp.p (pc' := 187) rfl ?_
  repeat refine Wp.p rfl ?_
  refine Wp.g rfl (inV ha) ?_
  repeat refine Wp.p rfl ?_
  refine Wp.g rfl (inN hc) ?_
  repeat refine Wp.p rfl ?_
  refine Wp.g rfl (inV hb) ?_
  refine Wp.i rfl (s_M_setCell (r := S.2.2 143 (tn a)) (x := S.2.2 144 (tn c)) (y := S.2.2 143 (tn b)) (wf_m hW) (wf_r hW hr) (fun q => (kd_K hW hr (by rw [← ek]; exact q)).2) (wf_c hW hr) (fun q => ?_) (fun q q2 q3 => ?_) (fun q q2 q3 q4 => ?_) (fun q q2 q3 q4 q5 q6 => ?_) (fun q q2 q3 q4 q5 q6 => ?_))
  · refine Wp.r rfl trivial (h.no (d10_2 ?_) rfl (by decide))
    rcases q with q | q | ⟨q, q2⟩
    · rw [ek] at q
      exact Or.inl q
    · rw [ey] at q
      exact Or.inr q
    · refine Or.inl (fun z => ?_)
      rcases b9.mp z with z | z
      · exact q (by rw [ek]; exact z)
      · exact q2 (by rw [ek]; exact z)
  · rw [ek] at q q3
    rw [ey] at q2
    exact Wp.r rfl trivial (h.no (d10_f (x := 1) q q2 (cFm_1 q3) (by decide)) rfl (by decide))
  · rw [ek] at q2 q3
    rw [ey] at q
    exact Wp.r rfl trivial (h.no (d10_f (x := 3) (b9.mpr (Or.inr q3)) q (cFm_3 q2 q3 q4) (by decide)) rfl (by decide))
  · rw [ek] at q2 q3
    rw [ey] at q q6
    have q6' : ¬ hB (m_sv 501 (tn (kd (cV S) (S.2.2 143 (tn a))))) (kd (cV S) (S.2.2 143 (tn b))) := by rw [← (kd_K hW hr q2).1]; exact q6
    exact Wp.r rfl trivial (h.no (d10_4 (b9.mpr (Or.inr q3)) q (cFm_0 q2 q3 q4 q5) q6') rfl (by decide))
  · rw [ek] at q2 q3
    rw [ey] at q q6
    have q6' : hB (m_sv 501 (tn (kd (cV S) (S.2.2 143 (tn a))))) (kd (cV S) (S.2.2 143 (tn b))) := by rw [← (kd_K hW hr q2).1]; exact q6
    have e9 := (wf_ix hW hr q2 q4 q5).2.2
    refine Wp.r rfl trivial (h.go (m := stC (cV S) (tn (S.2.2 143 (tn a) * 20 + S.2.2 144 (tn c))) (S.2.2 143 (tn b))) ?_ (Fr.rf.a (by decide)) rfl rfl rfl rfl)
    rw [e9]
    exact d10_0 (b9.mpr (Or.inr q3)) q (cFm_0 q2 q3 q4 q5) q6'
end PF
end
section
section PF
variable {d k0 : Nat} {S : mS} {Q : mQ} {a b c : Int32}
theorem p_11 (hW : WFk k0 (cV S)) (hw : wS 11 a b c) (h : PQ S 11 a b c Q) : Ev (d + 4) n_X1_perform [.ref 1, .int 11, .int a, .int b, .int c] S Q := by
  have ha := hw.2.1.2.1 rfl
  have hb := hw.2.2.1.1 rfl
  have hr := wf_v hW hb
  have ek := wf_k hW hr
  have eD : ∀ x, uFm (cV S) (S.2.2 143 (tn b)) 20 = x → ¬ x = 0 → doS (cV S) 11 a b c = (x, cV S) := fun x e hx => ite_no e hx
  refine Wp.p rfl ?_
  refine Wp.p (pc' := 211) rfl ?_
  repeat refine Wp.p rfl ?_
  refine Wp.g rfl (inV hb) ?_
  repeat refine Wp.p rfl ?_
  refine Wp.b rfl (fun (e : ¬ (11 : Int32) = 12) => ?_) (fun (e : ¬ ¬ (11 : Int32) = 12) => absurd (by decide) e)
  repeat refine Wp.p rfl ?_
  refine Wp.i rfl (s_M_askFace (r := S.2.2 143 (tn b)) (z := 0) (by decide) (inN ha) (wf_m hW) (fun q => ?_) (fun q q2 => ?_) (fun q q2 => ?_))
  · rw [ek] at q
    exact Wp.r rfl trivial (h.no (eD 1 (uFm_1 q) (by decide)) rfl (by decide))
  · rw [ek] at q q2
    exact Wp.r rfl trivial (h.no (eD 2 (uFm_2 q q2) (by decide)) rfl (by decide))
  · rw [ek] at q q2
    refine Wp.r rfl trivial (h.go (m := stN (cV S) (tn a) (faceN (cV S) (S.2.2 143 (tn b)) false)) (ite_yes (uFm_0 q q2)) (Fr.rf.a (by decide)) ?_ rfl rfl rfl)
    rw [ek]
    rfl
theorem p_12 (hW : WFk k0 (cV S)) (hw : wS 12 a b c) (h : PQ S 12 a b c Q) : Ev (d + 4) n_X1_perform [.ref 1, .int 12, .int a, .int b, .int c] S Q := by
  have ha := hw.2.1.2.1 rfl
  have hb := hw.2.2.1.1 rfl
  have hr := wf_v hW hb
  have ek := wf_k hW hr
  have eD : ∀ x, uFm (cV S) (S.2.2 143 (tn b)) 20 = x → ¬ x = 0 → doS (cV S) 12 a b c = (x, cV S) := fun x e hx => ite_no e hx
  refine Wp.p rfl ?_
  refine Wp.p (pc' := 211) rfl ?_
  repeat refine Wp.p rfl ?_
  refine Wp.g rfl (inV hb) ?_
  repeat refine Wp.p rfl ?_
  refine Wp.b rfl (fun (e : ¬ (12 : Int32) = 12) => absurd rfl e) (fun (e : ¬ ¬ (12 : Int32) = 12) => ?_)
  repeat refine Wp.p rfl ?_
  refine Wp.i rfl (s_M_askFace (r := S.2.2 143 (tn b)) (z := 1) (by decide) (inN ha) (wf_m hW) (fun q => ?_) (fun q q2 => ?_) (fun q q2 => ?_))
  · rw [ek] at q
    exact Wp.r rfl trivial (h.no (eD 1 (uFm_1 q) (by decide)) rfl (by decide))
  · rw [ek] at q q2
    exact Wp.r rfl trivial (h.no (eD 2 (uFm_2 q q2) (by decide)) rfl (by decide))
  · rw [ek] at q q2
    refine Wp.r rfl trivial (h.go (m := stN (cV S) (tn a) (faceN (cV S) (S.2.2 143 (tn b)) true)) (ite_yes (uFm_0 q q2)) (Fr.rf.a (by decide)) ?_ rfl rfl rfl)
    rw [ek]
    rfl
theorem p_13 (hW : WFk k0 (cV S)) (hw : wS 13 a b c) (h : PQ S 13 a b c Q) : Ev (d + 4) n_X1_perform [.ref 1, .int 13, .int a, .int b, .int c] S Q := by
  have ha := hw.2.1.2.1 rfl
  have hb := hw.2.2.1.1 rfl
  have hr := wf_v hW hb
  have ek := wf_k hW hr
  have eD : ∀ x, uFm (cV S) (S.2.2 143 (tn b)) 992 = x → ¬ x = 0 → doS (cV S) 13 a b c = (x, cV S) := fun x e hx => ite_no e hx
  refine Wp.p rfl ?_
  refine Wp.p (pc' := 234) rfl ?_
  repeat refine Wp.p rfl ?_
  refine Wp.g rfl (inV hb) ?_
  refine Wp.i rfl (s_M_getLength (r := S.2.2 143 (tn b)) (inN ha) (wf_m hW) (wf_r hW hr) (fun q => ?_) (fun q q2 => ?_) (fun q q2 => ?_))
  · rw [ek] at q
    exact Wp.r rfl trivial (h.no (eD 1 (uFm_1 q) (by decide)) rfl (by decide))
  · rw [ek] at q q2
    exact Wp.r rfl trivial (h.no (eD 2 (uFm_2 q q2) (by decide)) rfl (by decide))
  · rw [ek] at q q2
    exact Wp.r rfl trivial (h.go (ite_yes (uFm_0 q q2)) (Fr.rf.a (by decide)) rfl rfl rfl rfl)
theorem p_14 (hW : WFk k0 (cV S)) (hw : wS 14 a b c) (h : PQ S 14 a b c Q) : Ev (d + 4) n_X1_perform [.ref 1, .int 14, .int a, .int b, .int c] S Q := by
  have ha := hw.2.1.2.1 rfl
  have hb := hw.2.2.1.1 rfl
  have hc := hw.2.2.2.2.1 rfl
  have hr := wf_v hW hb
  have ek := wf_k hW hr
  have eD : ∀ x, cFm (cV S) (S.2.2 143 (tn b)) 32 (S.2.2 144 (tn c)) = x → ¬ x = 0 → doS (cV S) 14 a b c = (x, cV S) := fun x e hx => ite_no e hx
  refine Wp.p rfl ?_
  refine Wp.p (pc' := 246) rfl ?_
  repeat refine Wp.p rfl ?_
  refine Wp.g rfl (inV hb) ?_
  repeat refine Wp.p rfl ?_
  refine Wp.g rfl (inN hc) ?_
  refine Wp.i rfl (s_M_getInt (r := S.2.2 143 (tn b)) (x := S.2.2 144 (tn c)) (inN ha) (wf_m hW) (wf_r hW hr) (wf_c hW hr) (fun q => ?_) (fun q q2 => ?_) (fun q q2 q3 => ?_) (fun q q2 q3 q4 => ?_))
  · rw [ek] at q
    exact Wp.r rfl trivial (h.no (eD 1 (cFm_1 q) (by decide)) rfl (by decide))
  · rw [ek] at q q2
    exact Wp.r rfl trivial (h.no (eD 2 (cFm_2 q q2) (by decide)) rfl (by decide))
  · rw [ek] at q q2
    exact Wp.r rfl trivial (h.no (eD 3 (cFm_3 q q2 q3) (by decide)) rfl (by decide))
  · rw [ek] at q q2
    have e9 := (wf_ix hW hr q q3 q4).2.2
    refine Wp.r rfl trivial (h.go (m := stN (cV S) (tn a) (S.2.2 103 (tn (S.2.2 143 (tn b) * 20 + S.2.2 144 (tn c))))) ?_ (Fr.rf.a (by decide)) rfl rfl rfl rfl)
    rw [e9]
    exact ite_yes (cFm_0 q q2 q3 q4)
theorem p_15 (hW : WFk k0 (cV S)) (hw : wS 15 a b c) (h : PQ S 15 a b c Q) : Ev (d + 4) n_X1_perform [.ref 1, .int 15, .int a, .int b, .int c] S Q := by
  have ha := hw.2.1.1 rfl
  have hb := hw.2.2.1.2.1 rfl
  have hc := hw.2.2.2.2.1 rfl
  have hr := wf_v hW ha
  have ek := wf_k hW hr
  have eD : ∀ x, cFm (cV S) (S.2.2 143 (tn a)) 32 (S.2.2 144 (tn b)) = x → ¬ x = 0 → doS (cV S) 15 a b c = (x, cV S) := fun x e hx => ite_no e hx
  refine Wp.p rfl ?_
  refine Wp.p (pc' := 265) rfl ?_
  repeat refine Wp.p rfl ?_
  refine Wp.g rfl (inV ha) ?_
  repeat refine Wp.p rfl ?_
  refine Wp.g rfl (inN hb) ?_
  repeat refine Wp.p rfl ?_
  refine Wp.g rfl (inN hc) ?_
  refine Wp.i rfl (s_M_setInt (r := S.2.2 143 (tn a)) (x := S.2.2 144 (tn b)) (y := S.2.2 144 (tn c)) (wf_m hW) (wf_r hW hr) (wf_c hW hr) (fun q => ?_) (fun q q2 => ?_) (fun q q2 q3 => ?_) (fun q q2 q3 q4 => ?_))
  · rw [ek] at q
    exact Wp.r rfl trivial (h.no (eD 1 (cFm_1 q) (by decide)) rfl (by decide))
  · rw [ek] at q q2
    exact Wp.r rfl trivial (h.no (eD 2 (cFm_2 q q2) (by decide)) rfl (by decide))
  · rw [ek] at q q2
    exact Wp.r rfl trivial (h.no (eD 3 (cFm_3 q q2 q3) (by decide)) rfl (by decide))
  · rw [ek] at q q2
    have e9 := (wf_ix hW hr q q3 q4).2.2
    refine Wp.r rfl trivial (h.go (m := stC (cV S) (tn (S.2.2 143 (tn a) * 20 + S.2.2 144 (tn b))) (S.2.2 144 (tn c))) ?_ (Fr.rf.a (by decide)) rfl rfl rfl rfl)
    rw [e9]
    exact ite_yes (cFm_0 q q2 q3 q4)
theorem p_18 (hw : wS 18 a b c) (h : PQ S 18 a b c Q) : Ev (d + 4) n_X1_perform [.ref 1, .int 18, .int a, .int b, .int c] S Q := by
  have ha := hw.2.1.2.1 rfl
  have hb := hw.2.2.1.2.1 rfl
  refine Wp.p rfl ?_
  refine Wp.p (pc' := 289) rfl ?_
  repeat refine Wp.p rfl ?_
  refine Wp.g rfl (inN hb) ?_
  refine Wp.i rfl (s_M_divide (y := S.2.2 144 (tn b)) (inN ha) (fun q => ?_) (fun q => ?_))
  · exact Wp.r rfl trivial (h.no (if_pos q) rfl (by decide))
  · exact Wp.r rfl trivial (h.go (if_neg q) (Fr.rf.a (by decide)) rfl rfl rfl rfl)
theorem p_22 (hW : WFk k0 (cV S)) (hw : wS 22 a b c) (h : PQ S 22 a b c Q) : Ev (d + 4) n_X1_perform [.ref 1, .int 22, .int a, .int b, .int c] S Q := by
  have ha := hw.2.1.1 rfl
  have hb := hw.2.2.1.1 rfl
  have hc := hw.2.2.2.2.1 rfl
  refine Wp.p rfl ?_
  refine Wp.p (pc' := 304) rfl ?_
  repeat refine Wp.p rfl ?_
  refine Wp.g rfl (inV ha) ?_
  repeat refine Wp.p rfl ?_
  refine Wp.g rfl (inV hb) ?_
  repeat refine Wp.p rfl ?_
  refine Wp.g rfl (inN hc) ?_
  repeat refine Wp.p rfl ?_
  refine Wp.g rfl (show vp_in 3 4 by unfold vp_in; decide) ?_
  refine Wp.i rfl (s_M_move (f := S.2.2 143 (tn a)) (t := S.2.2 143 (tn b)) (st := S.2.2 144 (tn c)) (n := S.2.2 144 3) hW (wf_v hW ha) (wf_v hW hb) (fun S' hF e => ?_))
  exact Wp.r rfl trivial (h S' (hF.up (by decide) (by decide)) e (hF.1 45 (by decide)) (hF.1 48 (by decide)) (hF.1 49 (by decide)))
/-- Machine.perform does what the step does -/
theorem s_perform {k : Nat} (hW : WFk k0 (cV S)) (hw : wS k a b c) (h : PQ S k a b c Q) : Ev (d + 4) n_X1_perform [.ref 1, .int (nI k), .int a, .int b, .int c] S Q := by
  have hk := hw.1
  match k, hk with
  | 0, _ => exact p_0 hw h
  | 1, _ => exact p_1 hW hw h
  | 2, _ => exact p_2 hW hw h
  | 3, _ => exact p_3 hw h
  | 4, _ => exact p_4 hW hw h
  | 5, _ => exact p_5 hw h
  | 6, _ => exact p_6 hW hw h
  | 7, _ => exact p_7 hW hw h
  | 8, _ => exact p_8 hW hw h
  | 9, _ => exact p_9 hW hw h
  | 10, _ => exact p_10 hW hw h
  | 11, _ => exact p_11 hW hw h
  | 12, _ => exact p_12 hW hw h
  | 13, _ => exact p_13 hW hw h
  | 14, _ => exact p_14 hW hw h
  | 15, _ => exact p_15 hW hw h
  | 16, _ => exact p_16 hw h
  | 17, _ => exact p_17 hw h
  | 18, _ => exact p_18 hw h
  | 19, _ => exact p_19 hw h
  | 20, _ => exact p_20 h
  | 21, _ => exact p_21 h
  | 22, _ => exact p_22 hW hw h
  | 23, _ => exact p_23 hw h
  | n + 24, hk => exact absurd hk (by omega)
end PF
end
section
theorem vr_up {k k' : Nat} {r : Int32} (h : vr k r) (hk : k ≤ k') : vr k' r := by
  rcases h with h | ⟨j, hj, e⟩
  · exact Or.inl h
  · exact Or.inr ⟨j, by omega, e⟩
theorem WF_V {k i : Nat} {m : mM} {x : Int32} (h : WFk k m) (hx : vr k x) : WFk k (stV m i x) := by
  refine ⟨h.1, h.2.1, fun v hv => ?_, h.2.2.2⟩
  show vr k (upd m.1 i x v)
  by_cases e : v = i
  · rw [show upd m.1 i x v = x from if_pos e]; exact hx
  · rw [show upd m.1 i x v = m.1 v from if_neg e]; exact h.2.2.1 v hv
theorem WF_N {k i : Nat} {m : mM} {x : Int32} (h : WFk k m) : WFk k (stN m i x) := h
theorem WF_X {k i : Nat} {m : mM} {x : Int32} (h : WFk k m) (hx : vr k x) : WFk k (stX m i x) := by
  refine ⟨h.1, h.2.1, h.2.2.1, fun o ho => ?_⟩
  obtain ⟨h1, h2, h3⟩ := h.2.2.2 o ho
  refine ⟨h1, h2, ?_⟩
  show vr k (upd (gX m) i x o)
  by_cases e : o = i
  · rw [show upd (gX m) i x o = x from if_pos e]; exact hx
  · rw [show upd (gX m) i x o = gX m o from if_neg e]; exact h3
/-- other cells: only those of array t at place < 20 may change, and what is there then is in order -/
theorem WF_Cs {k t : Nat} {m : mM} {C W' : Nat → Int32} (h : WFk k m) (hC : ∀ q, (q < 20 * t ∨ 20 * t + 20 ≤ q) → C q = gC m q) (hn : ∀ n, gL m t = nI n → n ≤ 20 → 7 ≤ gK m t → ∀ i, i < n → (vr k (C (20 * t + i)) ∨ C (20 * t + i) = -2) ∧ hB (m_sv 501 (tn (gK m t))) (kd m (C (20 * t + i)))) : WFk k (gV m, gN m, gK m, gL m, gX m, C, W', gM m) := by
  refine ⟨h.1, h.2.1, h.2.2.1, fun o ho => ?_⟩
  obtain ⟨h1, ⟨n, hn1, hn2, hn3⟩, h3⟩ := h.2.2.2 o ho
  refine ⟨h1, ⟨n, hn1, hn2, fun h7 i hi => ?_⟩, h3⟩
  show (vr k (C (20 * o + i)) ∨ C (20 * o + i) = -2) ∧ hB (m_sv 501 (tn (gK m o))) (kd m (C (20 * o + i)))
  by_cases e : o = t
  · subst e
    exact hn n hn2 hn1 h7 i hi
  · rw [hC (20 * o + i) (by omega)]
    exact hn3 h7 i hi
theorem kd_j {m : mM} {j : Nat} (hj : j < 2 ^ 31) : kd m (nI j) = gK m j := by
  unfold kd
  rw [if_pos (nI_pos' hj), tn_nI hj]
/-- a reference out of a cell of an array of things -/
theorem cell_vr {k o i n : Nat} {m : mM} (h : WFk k m) (ho : o < k) (hk : hB 384 (gK m o)) (hn : gL m o = nI n) (hi : i < n) (hn2 : n < 2 ^ 31) : vr k (gC m (20 * o + i)) := by
  obtain ⟨⟨t, t1, t2, et⟩, ⟨n', a1, a2, a3⟩, -⟩ := h.2.2.2 o ho
  have hnn : n' = n := (nI_eq (by omega) hn2).mp (a2.symm.trans hn)
  subst hnn
  have h78 : t = 7 ∨ t = 8 := by
    rw [et] at hk
    have : ∀ t, t < 10 → hB 384 (nI t) → t = 7 ∨ t = 8 := by decide
    exact this t (by omega) hk
  have h7 : 7 ≤ gK m o := by
    rw [et]
    rcases h78 with rfl | rfl <;> decide
  obtain ⟨b1, b2⟩ := a3 h7 i hi
  rcases b1 with b1 | b1
  · exact b1
  · rw [b1, et, show kd m (-2) = 5 from rfl] at b2
    rcases h78 with rfl | rfl
    · exact absurd b2 (by decide)
    · exact absurd b2 (by decide)
theorem uFm_of {m : mM} {r k : Int32} (h : uFm m r k = 0) : ¬ kd m r = 0 ∧ hB k (kd m r) := by
  unfold uFm at h
  split at h
  · exact absurd h (by decide)
  · next h1 =>
    split at h
    · next h2 => exact ⟨h1, h2⟩
    · exact absurd h (by decide)
theorem cFm_of {m : mM} {r k x : Int32} (h : cFm m r k x = 0) : ¬ kd m r = 0 ∧ hB k (kd m r) ∧ 0 ≤ x ∧ x < gL m (tn r) := by
  unfold cFm at h
  split at h
  · exact absurd h (by decide)
  · next h1 =>
    split at h
    · next h2 =>
      split at h
      · next h3 => exact ⟨h1, h2, h3.1, h3.2⟩
      · exact absurd h (by decide)
    · exact absurd h (by decide)
theorem fillC_out {f : Nat → Int32} {lo : Nat} {x : Int32} : ∀ {n q : Nat}, (q < lo ∨ lo + n ≤ q) → fillC f lo x n q = f q := by
  intro n
  induction n with
  | zero => intro q _; rfl
  | succ n ih =>
    intro q h
    show upd (fillC f lo x n) (lo + n) x q = f q
    rw [show upd (fillC f lo x n) (lo + n) x q = fillC f lo x n q from if_neg (by omega)]
    exact ih (by omega)
theorem fillC_in {f : Nat → Int32} {lo : Nat} {x : Int32} : ∀ {n q : Nat}, lo ≤ q → q < lo + n → fillC f lo x n q = x := by
  intro n
  induction n with
  | zero => intro q h1 h2; omega
  | succ n ih =>
    intro q h1 h2
    show upd (fillC f lo x n) (lo + n) x q = x
    by_cases e : q = lo + n
    · exact if_pos e
    · rw [show upd (fillC f lo x n) (lo + n) x q = fillC f lo x n q from if_neg e]
      exact ih h1 (by omega)
theorem fst_ok : ∀ t, t < 10 → 7 ≤ nI t → (fstC (nI t) = -1 ∨ fstC (nI t) = -2) ∧ hB (m_sv 501 t) (if fstC (nI t) = -2 then 5 else 0) := by decide
theorem WF_new {k a t n : Nat} {m : mM} (h : WFk k m) (hk : k < 40) (ht : 1 ≤ t ∧ t ≤ 9) (hn : n ≤ 20) : WFk (k + 1) (newO m a (nI t) (nI n)) := by
  have tm : tn (gM m) = k := by rw [h.2.1]; exact tn_nI (by omega)
  have kk : ∀ r, (vr k r ∨ r = -2) → kd (newO m a (nI t) (nI n)) r = kd m r := by
    intro r hr
    unfold kd
    rcases hr with (rfl | ⟨j, hj, rfl⟩) | rfl
    · rfl
    · rw [if_pos (nI_pos' (by omega)), if_pos (nI_pos' (by omega)), tn_nI (by omega)]
      show upd (gK m) (tn (gM m)) (nI t) j = gK m j
      rw [tm]
      exact if_neg (by omega)
    · rfl
  refine ⟨by omega, ?_, fun v hv => ?_, fun o ho => ?_⟩
  · show gM m + 1 = nI (k + 1)
    rw [h.2.1, nI_1]
  · show vr (k + 1) (upd (gV m) a (gM m) v)
    by_cases e : v = a
    · rw [show upd (gV m) a (gM m) v = gM m from if_pos e, h.2.1]
      exact Or.inr ⟨k, by omega, rfl⟩
    · rw [show upd (gV m) a (gM m) v = gV m v from if_neg e]
      exact vr_up (h.2.2.1 v hv) (by omega)
  · show (∃ t', 1 ≤ t' ∧ t' ≤ 9 ∧ upd (gK m) (tn (gM m)) (nI t) o = nI t') ∧ (∃ n', n' ≤ 20 ∧ upd (gL m) (tn (gM m)) (nI n) o = nI n' ∧ (7 ≤ upd (gK m) (tn (gM m)) (nI t) o → ∀ i, i < n' → (vr (k + 1) (fillC (gC m) (20 * tn (gM m)) (fstC (nI t)) (tn (nI n)) (20 * o + i)) ∨ fillC (gC m) (20 * tn (gM m)) (fstC (nI t)) (tn (nI n)) (20 * o + i) = -2) ∧ hB (m_sv 501 (tn (upd (gK m) (tn (gM m)) (nI t) o))) (kd (newO m a (nI t) (nI n)) (fillC (gC m) (20 * tn (gM m)) (fstC (nI t)) (tn (nI n)) (20 * o + i))))) ∧ vr (k + 1) (upd (gX m) (tn (gM m)) (-1) o)
    rw [tm, tn_nI (show n < 2 ^ 31 by omega)]
    by_cases e : o = k
    · subst e
      rw [show upd (gK m) o (nI t) o = nI t from if_pos rfl, show upd (gL m) o (nI n) o = nI n from if_pos rfl, show upd (gX m) o (-1) o = -1 from if_pos rfl, tn_nI (show t < 2 ^ 31 by omega)]
      refine ⟨⟨t, ht.1, ht.2, rfl⟩, ⟨n, hn, rfl, fun h7 i hi => ?_⟩, Or.inl rfl⟩
      rw [fillC_in (by omega) (by omega)]
      obtain ⟨f1, f2⟩ := fst_ok t (by omega) h7
      rcases f1 with f1 | f1
      · rw [f1] at f2 ⊢
        exact ⟨Or.inl (Or.inl rfl), f2⟩
      · rw [f1] at f2 ⊢
        exact ⟨Or.inr rfl, f2⟩
    · obtain ⟨h1, ⟨n', n1, n2, n3⟩, h3⟩ := h.2.2.2 o (by omega)
      rw [show upd (gK m) k (nI t) o = gK m o from if_neg e, show upd (gL m) k (nI n) o = gL m o from if_neg e, show upd (gX m) k (-1) o = gX m o from if_neg e]
      refine ⟨h1, ⟨n', n1, n2, fun h7 i hi => ?_⟩, vr_up h3 (by omega)⟩
      rw [fillC_out (by omega)]
      obtain ⟨c1, c2⟩ := n3 h7 i hi
      rw [kk _ c1]
      exact ⟨c1.imp (fun z => vr_up z (by omega)) id, c2⟩
theorem mvF_out {V : Nat → Int32} {ok : Int32 → Bool} {lo : Nat} : ∀ {n i q : Nat} {C : Nat → Int32}, (q < lo + i ∨ lo + i + n ≤ q) → (mvF V ok lo n i C).2 q = C q := by
  intro n
  induction n with
  | zero => intro i q C _; rfl
  | succ n ih =>
    intro i q C h
    show (bif ok (V i) then mvF V ok lo n (i + 1) (upd C (lo + i) (V i)) else (4, C)).2 q = C q
    cases ok (V i) with
    | false => rfl
    | true =>
      show (mvF V ok lo n (i + 1) (upd C (lo + i) (V i))).2 q = C q
      rw [ih (by omega)]
      exact if_neg (by omega)
theorem mvF_in {V : Nat → Int32} {ok : Int32 → Bool} {lo : Nat} {P : Int32 → Prop} : ∀ {n i q : Nat} {C : Nat → Int32}, (∀ j, i ≤ j → j < i + n → ok (V j) = true → P (V j)) → P (C q) → P ((mvF V ok lo n i C).2 q) := by
  intro n
  induction n with
  | zero => intro i q C _ h; exact h
  | succ n ih =>
    intro i q C h hq
    show P ((bif ok (V i) then mvF V ok lo n (i + 1) (upd C (lo + i) (V i)) else (4, C)).2 q)
    cases ho : ok (V i) with
    | false => exact hq
    | true =>
      show P ((mvF V ok lo n (i + 1) (upd C (lo + i) (V i))).2 q)
      refine ih (fun j h1 h2 h3 => h j (by omega) (by omega) h3) ?_
      by_cases e : q = lo + i
      · rw [show upd C (lo + i) (V i) q = V i from if_pos e]
        exact h i (Nat.le_refl _) (by omega) ho
      · rw [show upd C (lo + i) (V i) q = C q from if_neg e]
        exact hq
end
section
theorem of_rng {x : Int32} {lo hi : Nat} {a b : Int32} (ha : a = nI lo) (hb : b = nI hi) (h : hi < 2 ^ 31) (hl : lo < 2 ^ 31) (h1 : a ≤ x) (h2 : x ≤ b) : ∃ t, lo ≤ t ∧ t ≤ hi ∧ x = nI t := by
  subst ha
  subst hb
  have h0 : ¬ x < 0 := Int32.not_lt.mpr (Int32.le_trans (nI_pos' hl) h1)
  obtain ⟨t, ht, rfl⟩ := nI_of h0
  exact ⟨t, (nI_leI hl ht).mp h1, (nI_leI ht h).mp h2, rfl⟩
theorem wf_ref {k : Nat} {m : mM} {v : Int32} (h : WFk k m) (hv : 0 ≤ v ∧ v < 6) : vr k (gV m (tn v)) := h.2.2.1 _ (inVt hv)
theorem wf_gk {k o : Nat} {m : mM} (h : WFk k m) (ho : o < k) : kd m (nI o) = gK m o := kd_j (by have := h.1; omega)
set_option maxHeartbeats 1000000 in
theorem WF_mv {k : Nat} {m : mM} {f t st n : Int32} (h : WFk k m) (hf : vr k f) (ht : vr k t) : WFk k (mvM m f t st n).2 := by
  unfold mvM
  split
  · exact h
  · next c0 =>
    split
    · next c3 =>
      split
      · exact h
      · next c4 =>
        obtain ⟨-, jf, hjf, rfl⟩ := vr_in h.1 hf (fun q => c0 (Or.inl q))
        obtain ⟨-, jt, hjt, rfl⟩ := vr_in h.1 ht (fun q => c0 (Or.inr q))
        have hk := h.1
        have tnf : tn (nI jf) = jf := tn_nI (by omega)
        have tnt : tn (nI jt) = jt := tn_nI (by omega)
        obtain ⟨⟨kf, kf1, kf2, ekf⟩, ⟨lf, hlf, elf, hcf⟩, -⟩ := h.2.2.2 jf hjf
        obtain ⟨⟨kt, kt1, kt2, ekt⟩, ⟨lt, hlt, elt, hct⟩, -⟩ := h.2.2.2 jt hjt
        rw [tnf, tnt, elf, elt] at c4
        have n0 : ¬ n < 0 := fun z => c4 (Or.inl z)
        have s0 : ¬ st < 0 := fun z => c4 (Or.inr (Or.inl z))
        obtain ⟨n', hn', rfl⟩ := nI_of n0
        obtain ⟨s', hs', rfl⟩ := nI_of s0
        have hnl : n' ≤ lf := (nI_leI hn' (by omega)).mp (Int32.not_lt.mp (fun z => c4 (Or.inr (Or.inr (Or.inl z)))))
        have hsl : s' + n' ≤ lt := by
          have h1 := Int32.le_iff_toInt_le.mp (Int32.not_lt.mp (fun z => c4 (Or.inr (Or.inr (Or.inr z)))))
          rw [pk_sub_toInt (by omega) (by omega), nI_toInt hs'] at h1
          omega
        rw [wf_gk h hjf, wf_gk h hjt, ekf, ekt, tn_nI (show kf < 2 ^ 31 by omega)] at c3
        rw [tnf, tnt, tn_nI hn', tn_nI hs', wf_gk h hjt, ekt]
        refine WF_Cs (t := jt) h (fun q hq => mvF_out (by omega)) (fun n hn hn20 h7 i hi => ?_)
        have hnlt : n = lt := (nI_eq (by omega) (by omega)).mp (hn.symm.trans elt)
        subst hnlt
        have h7t : 7 ≤ nI kt := by rw [← ekt]; exact h7
        have h7f : 7 ≤ gK m jf := by
          rw [ekf]
          rcases mv_kinds kf (by omega) kt (by omega) c3 with z | ⟨z, -⟩
          · rcases z with z | z <;> (rw [z] at h7t; exact absurd h7t (by decide))
          · exact z
        refine mvF_in (P := fun x => (vr k x ∨ x = -2) ∧ hB (m_sv 501 (tn (gK m jt))) (kd m x)) (fun j h1 h2 h3 => ?_) (hct h7 i hi)
        rw [cpW_at (by omega)] at h3 ⊢
        refine ⟨(hcf h7f j (by omega)).1, ?_⟩
        unfold okC at h3
        rcases (Bool.or_eq_true _ _).mp h3 with z | z
        · have z' := of_decide_eq_true z
          rcases z' with z' | z' <;> (rw [z'] at h7t; exact absurd h7t (by decide))
        · have z' := of_decide_eq_true z
          rw [ekt]
          exact z'
    · exact h
set_option maxHeartbeats 1000000 in
/-- a step leaves all in order -/
theorem WF_do {k kk : Nat} {m : mM} {a b c : Int32} (h : WFk k m) (hw : wS kk a b c) : ∃ k', WFk k' (doS m kk a b c).2 := by
  have hkk := hw.1
  have hk := h.1
  match kk, hkk with
  | 0, _ => exact ⟨k, WF_V h (Or.inl rfl)⟩
  | 1, _ =>
    show ∃ k', WFk k' (if gM m = 40 then (8, m) else (0, newO m (tn a) b 0)).2
    split
    · exact ⟨k, h⟩
    · next e =>
      have hb := hw.2.2.1.2.2.1 rfl
      obtain ⟨t, t1, t2, rfl⟩ := of_rng (lo := 1) (hi := 4) rfl rfl (by decide) (by decide) hb.1 hb.2
      refine ⟨k + 1, WF_new (n := 0) h ?_ ⟨t1, by omega⟩ (by omega)⟩
      rcases Nat.lt_or_ge k 40 with z | z
      · exact z
      · exact absurd (by rw [h.2.1, show k = 40 by omega]; rfl) e
  | 2, _ =>
    show ∃ k', WFk k' (if gN m (tn c) < 0 then (5, m) else if 20 < gN m (tn c) ∨ gM m = 40 then (8, m) else (0, newO m (tn a) b (gN m (tn c)))).2
    split
    · exact ⟨k, h⟩
    · next e0 =>
      split
      · exact ⟨k, h⟩
      · next e =>
        have hb := hw.2.2.1.2.2.2.1 rfl
        obtain ⟨t, t1, t2, rfl⟩ := of_rng (lo := 5) (hi := 9) rfl rfl (by decide) (by decide) hb.1 hb.2
        obtain ⟨n, hn, en⟩ := nI_of2 (M := 20) (n := 20) rfl e0 (Int32.not_lt.mp (fun z => e (Or.inl z)))
        rw [en]
        refine ⟨k + 1, WF_new (n := n) h ?_ ⟨by omega, by omega⟩ hn⟩
        rcases Nat.lt_or_ge k 40 with z | z
        · exact z
        · exact absurd (Or.inr (by rw [h.2.1, show k = 40 by omega]; rfl)) e
  | 3, _ => exact ⟨k, WF_V h (wf_ref h (hw.2.2.1.1 rfl))⟩
  | 4, _ => exact ⟨k, h⟩
  | 5, _ => exact ⟨k, h⟩
  | 6, _ =>
    show ∃ k', WFk k' (if hB (m_sv 500 (tn b) ||| 1) (kd m (gV m (tn a))) then (0, stV m (tn c) (gV m (tn a))) else (2, m)).2
    split
    · exact ⟨k, WF_V h (wf_ref h (hw.2.1.1 rfl))⟩
    · exact ⟨k, h⟩
  | 7, _ =>
    show ∃ k', WFk k' (if uFm m (gV m (tn b)) 30 = 0 then (0, stV m (tn a) (gX m (tn (gV m (tn b))))) else (uFm m (gV m (tn b)) 30, m)).2
    split
    · next e =>
      obtain ⟨-, j, hj, ej⟩ := vr_in hk (wf_ref h (hw.2.2.1.1 rfl)) (uFm_of e).1
      refine ⟨k, WF_V h ?_⟩
      rw [ej, tn_nI (by omega)]
      exact (h.2.2.2 j hj).2.2
    · exact ⟨k, h⟩
  | 8, _ =>
    show ∃ k', WFk k' (if uFm m (gV m (tn a)) 30 = 0 then (0, stX m (tn (gV m (tn a))) (gV m (tn b))) else (uFm m (gV m (tn a)) 30, m)).2
    split
    · exact ⟨k, WF_X h (wf_ref h (hw.2.2.1.1 rfl))⟩
    · exact ⟨k, h⟩
  | 9, _ =>
    show ∃ k', WFk k' (if cFm m (gV m (tn b)) 384 (gN m (tn c)) = 0 then (0, stV m (tn a) (gC m (20 * tn (gV m (tn b)) + tn (gN m (tn c))))) else (cFm m (gV m (tn b)) 384 (gN m (tn c)), m)).2
    split
    · next e =>
      obtain ⟨e1, e2, e3, e4⟩ := cFm_of e
      obtain ⟨-, j, hj, ej⟩ := vr_in hk (wf_ref h (hw.2.2.1.1 rfl)) e1
      have tj : tn (nI j) = j := tn_nI (by omega)
      rw [ej, wf_gk h hj] at e2
      rw [ej, tj] at e4
      obtain ⟨-, ⟨n, n1, n2, -⟩, -⟩ := h.2.2.2 j hj
      obtain ⟨x', hx', ex⟩ := nI_of (Int32.not_lt.mpr e3)
      rw [ex, n2] at e4
      refine ⟨k, WF_V h ?_⟩
      rw [ej, tj, ex, tn_nI hx']
      exact cell_vr h hj e2 n2 ((nI_ltI hx' (by omega)).mp e4) (by omega)
    · exact ⟨k, h⟩
  | 10, _ =>
    show ∃ k', WFk k' (if ¬ hB 385 (kd m (gV m (tn a))) ∨ ¬ hB 31 (kd m (gV m (tn b))) then (2, m) else if cFm m (gV m (tn a)) 384 (gN m (tn c)) = 0 then (if hB (m_sv 501 (tn (kd m (gV m (tn a))))) (kd m (gV m (tn b))) then (0, stC m (20 * tn (gV m (tn a)) + tn (gN m (tn c))) (gV m (tn b))) else (4, m)) else (cFm m (gV m (tn a)) 384 (gN m (tn c)), m)).2
    split
    · exact ⟨k, h⟩
    · split
      · next e =>
        split
        · next e5 =>
          obtain ⟨e1, e2, e3, e4⟩ := cFm_of e
          obtain ⟨-, j, hj, ej⟩ := vr_in hk (wf_ref h (hw.2.1.1 rfl)) e1
          have tj : tn (nI j) = j := tn_nI (by omega)
          rw [ej, tj] at e4
          obtain ⟨-, ⟨n, n1, n2, n3⟩, -⟩ := h.2.2.2 j hj
          obtain ⟨x', hx', ex⟩ := nI_of (Int32.not_lt.mpr e3)
          rw [ex, n2] at e4
          have hlt := (nI_ltI hx' (by omega)).mp e4
          rw [ej, wf_gk h hj] at e5
          rw [ej, tj, ex, tn_nI hx']
          refine ⟨k, WF_Cs (t := j) h (fun q hq => if_neg (by omega)) (fun n' hn hn20 h7 i hi => ?_)⟩
          have hnn : n' = n := (nI_eq (by omega) (by omega)).mp (hn.symm.trans n2)
          subst hnn
          by_cases ei : 20 * j + i = 20 * j + x'
          · rw [show upd (gC m) (20 * j + x') (gV m (tn b)) (20 * j + i) = gV m (tn b) from if_pos ei]
            exact ⟨Or.inl (wf_ref h (hw.2.2.1.1 rfl)), e5⟩
          · rw [show upd (gC m) (20 * j + x') (gV m (tn b)) (20 * j + i) = gC m (20 * j + i) from if_neg ei]
            exact n3 h7 i hi
        · exact ⟨k, h⟩
      · exact ⟨k, h⟩
  | 11, _ =>
    show ∃ k', WFk k' (if uFm m (gV m (tn b)) 20 = 0 then (0, stN m (tn a) (faceN m (gV m (tn b)) false)) else (uFm m (gV m (tn b)) 20, m)).2
    split
    · exact ⟨k, h⟩
    · exact ⟨k, h⟩
  | 12, _ =>
    show ∃ k', WFk k' (if uFm m (gV m (tn b)) 20 = 0 then (0, stN m (tn a) (faceN m (gV m (tn b)) true)) else (uFm m (gV m (tn b)) 20, m)).2
    split
    · exact ⟨k, h⟩
    · exact ⟨k, h⟩
  | 13, _ =>
    show ∃ k', WFk k' (if uFm m (gV m (tn b)) 992 = 0 then (0, stN m (tn a) (gL m (tn (gV m (tn b))))) else (uFm m (gV m (tn b)) 992, m)).2
    split
    · exact ⟨k, h⟩
    · exact ⟨k, h⟩
  | 14, _ =>
    show ∃ k', WFk k' (if cFm m (gV m (tn b)) 32 (gN m (tn c)) = 0 then (0, stN m (tn a) (gC m (20 * tn (gV m (tn b)) + tn (gN m (tn c))))) else (cFm m (gV m (tn b)) 32 (gN m (tn c)), m)).2
    split
    · exact ⟨k, h⟩
    · exact ⟨k, h⟩
  | 15, _ =>
    show ∃ k', WFk k' (if cFm m (gV m (tn a)) 32 (gN m (tn b)) = 0 then (0, stC m (20 * tn (gV m (tn a)) + tn (gN m (tn b))) (gN m (tn c))) else (cFm m (gV m (tn a)) 32 (gN m (tn b)), m)).2
    split
    · next e =>
      obtain ⟨e1, e2, e3, e4⟩ := cFm_of e
      obtain ⟨-, j, hj, ej⟩ := vr_in hk (wf_ref h (hw.2.1.1 rfl)) e1
      have tj : tn (nI j) = j := tn_nI (by omega)
      rw [ej, wf_gk h hj] at e2
      rw [ej, tj] at e4
      obtain ⟨⟨t, t1, t2, et⟩, ⟨n, n1, n2, n3⟩, -⟩ := h.2.2.2 j hj
      obtain ⟨x', hx', ex⟩ := nI_of (Int32.not_lt.mpr e3)
      rw [ex, n2] at e4
      have hlt := (nI_ltI hx' (by omega)).mp e4
      rw [ej, tj, ex, tn_nI hx']
      refine ⟨k, WF_Cs (t := j) h (fun q hq => if_neg (by omega)) (fun n' hn hn20 h7 i hi => ?_)⟩
      rw [et] at e2 h7
      have : ∀ t, t < 10 → hB 32 (nI t) → ¬ 7 ≤ nI t := by decide
      exact absurd h7 (this t (by omega) e2)
    · exact ⟨k, h⟩
  | 16, _ => exact ⟨k, h⟩
  | 17, _ => exact ⟨k, h⟩
  | 18, _ =>
    show ∃ k', WFk k' (if gN m (tn b) = 0 then (6, m) else (0, stN m (tn a) (gN m (tn a) / gN m (tn b)))).2
    split
    · exact ⟨k, h⟩
    · exact ⟨k, h⟩
  | 19, _ => exact ⟨k, h⟩
  | 20, _ => exact ⟨k, h⟩
  | 21, _ => exact ⟨k, h⟩
  | 22, _ => exact ⟨k, WF_mv h (wf_ref h (hw.2.1.1 rfl)) (wf_ref h (hw.2.2.1.1 rfl))⟩
  | 23, _ => exact ⟨k, h⟩
  | n + 24, hn => exact absurd hn (by omega)
end
section
/-- what was seen, with the kinds of the first v variables at step i -/
def ntF (sn : Nat → Int32) (m : mM) (i : Nat) : Nat → Nat → Int32
  | 0 => sn
  | v + 1 => upd (ntF sn m i v) (6 * i + v) (ntF sn m i v (6 * i + v) ||| 1 <<< (kd m (gV m v) &&& 31))
/-- how a run ends: 0 ended, 1 thrown, 2 spent; steps done; ended with; fault; its step; the state; seen; had -/
abbrev rR : Type := Int32 × Nat × Int32 × Int32 × Int32 × mM × (Nat → Int32) × (Nat → Int32)
def rnF (n : Nat) (co pa pb pc ph : Nat → Int32) : Nat → Nat → Int32 → Nat → mM → (Nat → Int32) → (Nat → Int32) → rR
  | 0, dn, s, _, m, sn, hd => if 0 ≤ s ∧ s < nI n then (2, dn, 0, 0, -3, m, sn, hd) else (0, dn, 0, 0, -3, m, sn, hd)
  | left + 1, dn, s, many, m, sn, hd => if 0 ≤ s ∧ s < nI n then
      (if (doS m (tn (co (tn s))) (pa (tn s)) (pb (tn s)) (pc (tn s))).1 = 0 then
        (if tn (co (tn s)) = 23 then (0, dn + 1, gN m (tn (pa (tn s))), 0, -3, (doS m (tn (co (tn s))) (pa (tn s)) (pb (tn s)) (pc (tn s))).2, ntF sn m (tn s) 6, hd)
         else rnF n co pa pb pc ph left (dn + 1) (nxS m (tn (co (tn s))) (pa (tn s)) (pb (tn s)) (pc (tn s)) (s + 1)) many (doS m (tn (co (tn s))) (pa (tn s)) (pb (tn s)) (pc (tn s))).2 (ntF sn m (tn s) 6) hd)
       else (if 8 ≤ many then (2, dn + 1, 0, 0, -3, (doS m (tn (co (tn s))) (pa (tn s)) (pb (tn s)) (pc (tn s))).2, ntF sn m (tn s) 6, upd hd (tn s) (hd (tn s) ||| 1 <<< ((doS m (tn (co (tn s))) (pa (tn s)) (pb (tn s)) (pc (tn s))).1 &&& 31)))
         else if ph (tn s) < 0 then (1, dn + 1, 0, (doS m (tn (co (tn s))) (pa (tn s)) (pb (tn s)) (pc (tn s))).1, s, (doS m (tn (co (tn s))) (pa (tn s)) (pb (tn s)) (pc (tn s))).2, ntF sn m (tn s) 6, upd hd (tn s) (hd (tn s) ||| 1 <<< ((doS m (tn (co (tn s))) (pa (tn s)) (pb (tn s)) (pc (tn s))).1 &&& 31)))
         else rnF n co pa pb pc ph left (dn + 1) (ph (tn s)) (many + 1) (stN (doS m (tn (co (tn s))) (pa (tn s)) (pb (tn s)) (pc (tn s))).2 2 (doS m (tn (co (tn s))) (pa (tn s)) (pb (tn s)) (pc (tn s))).1) (ntF sn m (tn s) 6) (upd hd (tn s) (hd (tn s) ||| 1 <<< ((doS m (tn (co (tn s))) (pa (tn s)) (pb (tn s)) (pc (tn s))).1 &&& 31)))))
    else (0, dn, 0, 0, -3, m, sn, hd)
/-- a program in order -/
def PW (n : Nat) (co pa pb pc ph : Nat → Int32) : Prop := n ≤ 32 ∧ ∀ i, i < n → (∃ k, co i = nI k ∧ wS k (pa i) (pb i) (pc i)) ∧ (-1 ≤ ph i ∧ ph i ≤ 32)
abbrev cP (S : mS) (n : Nat) : Prop := S.1 125 = nI n ∧ PW n (S.2.2 220) (S.2.2 221) (S.2.2 222) (S.2.2 223) (S.2.2 224)
theorem s_M_meetFault {d i many : Nat} {S : mS} {Q : mQ} {f : Int32} (hi : i < 32) (hm : S.1 47 = nI many) (hm2 : many < 100)
    (h2 : 8 ≤ many → Q none (sF (sF (sA S 261 i (S.2.2 261 i ||| 1 <<< (f &&& 31))) 47 (nI (many + 1))) 48 2))
    (h1 : ¬ 8 ≤ many → S.2.2 224 i < 0 → Q none (sF (sF (sF (sF (sA S 261 i (S.2.2 261 i ||| 1 <<< (f &&& 31))) 47 (nI (many + 1))) 48 1) 50 f) 51 (nI i)))
    (h0 : ¬ 8 ≤ many → ¬ S.2.2 224 i < 0 → Q none (sF (sA (sF (sA S 261 i (S.2.2 261 i ||| 1 <<< (f &&& 31))) 47 (nI (many + 1))) 144 2 f) 45 (S.2.2 224 i))) : Ev (d + 1) n_X1_meetFault [.ref 1, .int (nI i), .int f] S Q := by
  have ti : (nI i).toNatClampNeg = i := nI_clamp (by omega)
  have e47 : S.1 47 + 1 = nI (many + 1) := by rw [hm, nI_1]
  repeat refine Wp.p rfl ?_
  refine Wp.i rfl (s_W_noteFault (vp_in_nI hi (by omega)) ?_)
  rw [ti]
  repeat refine Wp.p rfl ?_
  refine Wp.g rfl (vp_in_nI (N := 32) hi (by omega)) ?_
  repeat refine Wp.p rfl ?_
  show Wp _ _ _ _ _ (sF (sA S 261 i (S.2.2 261 i ||| 1 <<< (f &&& 31))) 47 (S.1 47 + 1)) Q
  rw [e47]
  refine Wp.b rfl (fun (c : S.1 47 + 1 ≤ 8) => ?_) (fun (c : ¬ S.1 47 + 1 ≤ 8) => ?_)
  · have hlt : ¬ 8 ≤ many := by
      rw [e47] at c
      have := (nI_leI (a := many + 1) (b := 8) (by omega) (by decide)).mp c
      omega
    repeat refine Wp.p rfl ?_
    refine Wp.b rfl (fun (c2 : 0 ≤ S.2.2 224 (nI i).toNatClampNeg) => ?_) (fun (c2 : ¬ 0 ≤ S.2.2 224 (nI i).toNatClampNeg) => ?_)
    · rw [ti] at c2
      repeat refine Wp.p rfl ?_
      refine Wp.g rfl (show vp_in 2 4 by unfold vp_in; decide) ?_
      repeat refine Wp.p rfl ?_
      have h0' := h0 hlt (Int32.not_lt.mpr c2)
      refine Wp.r rfl trivial ?_
      show Q none (sF (sA (sF (sA S 261 i (S.2.2 261 i ||| 1 <<< (f &&& 31))) 47 (nI (many + 1))) 144 2 f) 45 (S.2.2 224 (nI i).toNatClampNeg))
      rw [ti]
      exact h0'
    · rw [ti] at c2
      repeat refine Wp.p rfl ?_
      exact Wp.r rfl trivial (h1 hlt (Int32.not_le.mp c2))
  · have hlt : 8 ≤ many := by
      rw [e47] at c
      rcases Nat.lt_or_ge many 8 with z | z
      · exact absurd (nI_le (a := many + 1) (b := 8) (by omega) (by decide)) c
      · exact z
    repeat refine Wp.p rfl ?_
    exact Wp.r rfl trivial (h2 hlt)
theorem s_M_noteLoop {d k0 i : Nat} {Q : mQ} {m : mM} (hi : i < 32) (S0 : mS) (hW : WFk k0 (cV S0)) (hQ : ∀ S', Fr [] [260] S0 S' → S'.2.2 260 = ntF (S0.2.2 260) (cV S0) i 6 → Wp (d + 2) n_X1_takeStep 36 [(2, .int (nI 6)), (0, .ref 1), (1, .int (nI i))] [] S' Q) : ∀ (n v : Nat) (S : mS), v + n = 6 → Fr [] [260] S0 S → S.2.2 260 = ntF (S0.2.2 260) (cV S0) i v →
    Wp (d + 2) n_X1_takeStep 2 [(2, .int (nI v)), (0, .ref 1), (1, .int (nI i))] [] S Q := by
  intro n
  induction n with
  | zero =>
    intro v S hv hF hC
    obtain rfl : v = 6 := by omega
    iterate 2 refine Wp.p rfl ?_
    refine Wp.b rfl (fun _ => ?_) (fun (c : ¬ (6 : Int32) ≤ nI 6) => absurd (by decide) c)
    exact hQ S hF hC
  | succ n ih =>
    intro v S hv hF hC
    have hlt : v < 6 := by omega
    have tv : (nI v).toNatClampNeg = v := nI_clamp (by omega)
    have e6 : nI i * 6 + nI v = nI (6 * i + v) := by rw [show (6 : Int32) = nI 6 from rfl, pk_mul, nI_add, Nat.mul_comm]
    have ecv : cV S = cV S0 := by
      unfold cV
      rw [hF.2.2 143 (by decide), hF.2.2 144 (by decide), hF.2.2 100 (by decide), hF.2.2 101 (by decide), hF.2.2 102 (by decide), hF.2.2 103 (by decide), hF.2.2 104 (by decide), hF.1 5 (by decide)]
    have hWS : WFk k0 (cV S) := by rw [ecv]; exact hW
    have hvr : vr k0 (S.2.2 143 v) := hWS.2.2.1 v hlt
    iterate 2 refine Wp.p rfl ?_
    refine Wp.b rfl (fun (c : (6 : Int32) ≤ nI v) => absurd c (nI_ge (b := 6) hlt (by decide))) (fun _ => ?_)
    repeat refine Wp.p rfl ?_
    refine Wp.g rfl (vp_in_nI (N := 6) hlt (by omega)) ?_
    refine Wp.i rfl (s_H_kindOf (wf_m hWS) ?_)
    refine Wp.i rfl (s_W_noteKind (by rw [e6]; exact vp_in_nI (by omega) (by omega)) ?_)
    iterate 2 refine Wp.p rfl ?_
    show Wp (d + 2) n_X1_takeStep 2 [(2, .int (nI v + 1)), (0, .ref 1), (1, .int (nI i))] [] _ Q
    rw [nI_1]
    refine ih (v + 1) _ (by omega) (hF.a (by decide)) ?_
    show upd (S.2.2 260) (nI i * 6 + nI v).toNatClampNeg (S.2.2 260 (nI i * 6 + nI v).toNatClampNeg ||| 1 <<< (kOf S (S.2.2 143 (nI v).toNatClampNeg) &&& 31)) = _
    rw [e6, nI_clamp (by omega), tv, hC, wf_k hWS hvr, ecv, hF.2.2 143 (by decide)]
    rfl
end
section
abbrev cFS : List Nat := [5, 45, 46, 47, 48, 49, 50, 51, 162]
abbrev cAS : List Nat := [143, 144, 100, 101, 102, 103, 104, 260, 261]
/-- behind a step -/
def cN (S S' : mS) (m' : mM) (nx mn st en fb ft : Int32) (sn hd : Nat → Int32) : Prop := Fr cFS cAS S S' ∧ cV S' = m' ∧ S'.1 45 = nx ∧ S'.1 46 = S.1 46 + 1 ∧ S'.1 47 = mn ∧ S'.1 48 = st ∧ S'.1 49 = en ∧ S'.1 50 = fb ∧ S'.1 51 = ft ∧ S'.1 162 = S.1 162 + 1 ∧ S'.2.2 260 = sn ∧ S'.2.2 261 = hd
set_option maxHeartbeats 1000000 in
theorem s_M_takeStep {d k0 n i k many : Nat} {S : mS} {Q : mQ} (hW : WFk k0 (cV S)) (hP : cP S n) (hi : i < n) (hk : S.2.2 220 i = nI k) (hw : wS k (S.2.2 221 i) (S.2.2 222 i) (S.2.2 223 i)) (hm : S.1 47 = nI many) (hm2 : many < 100)
    (h0 : (doS (cV S) k (S.2.2 221 i) (S.2.2 222 i) (S.2.2 223 i)).1 = 0 → ∀ S', cN S S' (doS (cV S) k (S.2.2 221 i) (S.2.2 222 i) (S.2.2 223 i)).2 (nxS (cV S) k (S.2.2 221 i) (S.2.2 222 i) (S.2.2 223 i) (nI i + 1)) (nI many) (if k = 23 then 0 else S.1 48) (if k = 23 then gN (cV S) (tn (S.2.2 221 i)) else S.1 49) (S.1 50) (S.1 51) (ntF (S.2.2 260) (cV S) i 6) (S.2.2 261) → Q none S')
    (h2 : ¬ (doS (cV S) k (S.2.2 221 i) (S.2.2 222 i) (S.2.2 223 i)).1 = 0 → 8 ≤ many → ∀ S', cN S S' (doS (cV S) k (S.2.2 221 i) (S.2.2 222 i) (S.2.2 223 i)).2 (S'.1 45) (nI (many + 1)) 2 (S.1 49) (S.1 50) (S.1 51) (ntF (S.2.2 260) (cV S) i 6) (upd (S.2.2 261) i (S.2.2 261 i ||| 1 <<< ((doS (cV S) k (S.2.2 221 i) (S.2.2 222 i) (S.2.2 223 i)).1 &&& 31))) → Q none S')
    (h1 : ¬ (doS (cV S) k (S.2.2 221 i) (S.2.2 222 i) (S.2.2 223 i)).1 = 0 → ¬ 8 ≤ many → S.2.2 224 i < 0 → ∀ S', cN S S' (doS (cV S) k (S.2.2 221 i) (S.2.2 222 i) (S.2.2 223 i)).2 (S'.1 45) (nI (many + 1)) 1 (S.1 49) (doS (cV S) k (S.2.2 221 i) (S.2.2 222 i) (S.2.2 223 i)).1 (nI i) (ntF (S.2.2 260) (cV S) i 6) (upd (S.2.2 261) i (S.2.2 261 i ||| 1 <<< ((doS (cV S) k (S.2.2 221 i) (S.2.2 222 i) (S.2.2 223 i)).1 &&& 31))) → Q none S')
    (h3 : ¬ (doS (cV S) k (S.2.2 221 i) (S.2.2 222 i) (S.2.2 223 i)).1 = 0 → ¬ 8 ≤ many → ¬ S.2.2 224 i < 0 → ∀ S', cN S S' (stN (doS (cV S) k (S.2.2 221 i) (S.2.2 222 i) (S.2.2 223 i)).2 2 (doS (cV S) k (S.2.2 221 i) (S.2.2 222 i) (S.2.2 223 i)).1) (S.2.2 224 i) (nI (many + 1)) (S.1 48) (S.1 49) (S.1 50) (S.1 51) (ntF (S.2.2 260) (cV S) i 6) (upd (S.2.2 261) i (S.2.2 261 i ||| 1 <<< ((doS (cV S) k (S.2.2 221 i) (S.2.2 222 i) (S.2.2 223 i)).1 &&& 31))) → Q none S') :
    Ev (d + 5) n_X1_takeStep [.ref 1, .int (nI i)] S Q := by
  have hn := hP.2.1
  have ti : (nI i).toNatClampNeg = i := nI_clamp (by omega)
  have hin : vp_in (nI i) 32 := vp_in_nI (by omega) (by omega)
  iterate 2 refine Wp.p rfl ?_
  refine s_M_noteLoop (d := d + 3) (m := cV S) (by omega) S hW (fun S1 hF1 h260 => ?_) 6 0 S (by omega) Fr.rf rfl
  have a1 : ∀ q, q ∉ [260] → S1.2.2 q = S.2.2 q := hF1.2.2
  have f1 : ∀ q, S1.1 q = S.1 q := fun q => hF1.1 q (by simp)
  repeat refine Wp.p rfl ?_
  refine Wp.i rfl (s_W_noteStep ?_)
  repeat refine Wp.p rfl ?_
  refine Wp.g rfl hin ?_
  repeat refine Wp.p rfl ?_
  refine Wp.g rfl hin ?_
  repeat refine Wp.p rfl ?_
  refine Wp.g rfl hin ?_
  repeat refine Wp.p rfl ?_
  refine Wp.g rfl hin ?_
  refine Wp.i rfl ?_
  obtain ⟨S2, e2⟩ : ∃ S2 : mS, S2 = sF (sF (sF S1 162 (S1.1 162 + 1)) 46 (S1.1 46 + 1)) 45 (nI i + 1) := ⟨_, rfl⟩
  have b1 : ∀ q, q ∉ [260] → S2.2.2 q = S.2.2 q := fun q hq => by rw [e2]; exact a1 q hq
  have g45 : S2.1 45 = nI i + 1 := by rw [e2]; rfl
  have g46 : S2.1 46 = S.1 46 + 1 := by rw [e2]; show S1.1 46 + 1 = _; rw [f1]
  have g162 : S2.1 162 = S.1 162 + 1 := by rw [e2]; show S1.1 162 + 1 = _; rw [f1]
  have g260 : S2.2.2 260 = ntF (S.2.2 260) (cV S) i 6 := by rw [e2]; exact h260
  have gF : Fr cFS cAS S S2 := by
    rw [e2]
    exact (((hF1.up (fs' := cFS) (as' := cAS) (by decide) (by decide)).f (by decide)).f (by decide)).f (by decide)
  have go : ∀ q, q ∉ [45, 46, 162] → S2.1 q = S.1 q := fun q hq => by
    rw [e2]
    simp only [List.mem_cons, List.not_mem_nil, or_false, not_or] at hq
    show upd (upd (upd S1.1 162 _) 46 _) 45 _ q = S.1 q
    rw [show upd (upd (upd S1.1 162 (S1.1 162 + 1)) 46 (S1.1 46 + 1)) 45 (nI i + 1) q = upd (upd S1.1 162 (S1.1 162 + 1)) 46 (S1.1 46 + 1) q from if_neg hq.1, show upd (upd S1.1 162 (S1.1 162 + 1)) 46 (S1.1 46 + 1) q = upd S1.1 162 (S1.1 162 + 1) q from if_neg hq.2.1, show upd S1.1 162 (S1.1 162 + 1) q = S1.1 q from if_neg hq.2.2]
    exact f1 q
  have ecv : cV S2 = cV S := by
    unfold cV
    rw [b1 143 (by decide), b1 144 (by decide), b1 100 (by decide), b1 101 (by decide), b1 102 (by decide), b1 103 (by decide), b1 104 (by decide), go 5 (by decide)]
  show Ev (d + 4) n_X1_perform [.ref 1, .int (S1.2.2 220 (nI i).toNatClampNeg), .int (S1.2.2 221 (nI i).toNatClampNeg), .int (S1.2.2 222 (nI i).toNatClampNeg), .int (S1.2.2 223 (nI i).toNatClampNeg)] (sF (sF (sF S1 162 (S1.1 162 + 1)) 46 (S1.1 46 + 1)) 45 (nI i + 1)) _
  rw [← e2, ti, a1 220 (by decide), a1 221 (by decide), a1 222 (by decide), a1 223 (by decide), hk]
  refine s_perform (k0 := k0) (by rw [ecv]; exact hW) hw ?_
  intro S3 hF3 c3 n3 s3 en3
  rw [ecv] at c3 n3 en3 ⊢
  rw [g45] at n3
  rw [go 48 (by decide)] at s3
  rw [go 49 (by decide)] at en3
  have F3 : Fr cFS cAS S S3 := gF.tr (hF3.up (by decide) (by decide))
  have k46 : S3.1 46 = S.1 46 + 1 := (hF3.1 46 (by decide)).trans g46
  have k47 : S3.1 47 = nI many := (hF3.1 47 (by decide)).trans ((go 47 (by decide)).trans hm)
  have k50 : S3.1 50 = S.1 50 := (hF3.1 50 (by decide)).trans (go 50 (by decide))
  have k51 : S3.1 51 = S.1 51 := (hF3.1 51 (by decide)).trans (go 51 (by decide))
  have k162 : S3.1 162 = S.1 162 + 1 := (hF3.1 162 (by decide)).trans g162
  have k260 : S3.2.2 260 = ntF (S.2.2 260) (cV S) i 6 := (hF3.2.2 260 (by decide)).trans g260
  have k261 : S3.2.2 261 = S.2.2 261 := (hF3.2.2 261 (by decide)).trans (b1 261 (by decide))
  have k224 : S3.2.2 224 = S.2.2 224 := (hF3.2.2 224 (by decide)).trans (b1 224 (by decide))
  repeat refine Wp.p rfl ?_
  refine Wp.b rfl (fun (c : (doS (cV S) k (S.2.2 221 i) (S.2.2 222 i) (S.2.2 223 i)).1 = 0) => ?_) (fun (c : ¬ (doS (cV S) k (S.2.2 221 i) (S.2.2 222 i) (S.2.2 223 i)).1 = 0) => ?_)
  · exact Wp.r rfl trivial (h0 c S3 ⟨F3, c3, n3, k46, k47, s3, en3, k50, k51, k162, k260, k261⟩)
  · have hk23 : ¬ k = 23 := fun e => c (by rw [e]; rfl)
    rw [if_neg hk23] at s3 en3
    repeat refine Wp.p rfl ?_
    refine Wp.i rfl (s_M_meetFault (by omega) k47 hm2 (fun q => ?_) (fun q q2 => ?_) (fun q q2 => ?_))
    · exact Wp.r rfl trivial (h2 c q _ ⟨((F3.a (by decide)).f (by decide)).f (by decide), c3, rfl, k46, rfl, rfl, en3, k50, k51, k162, k260, by show upd (S3.2.2 261) _ _ = _; rw [k261]⟩)
    · rw [k224] at q2
      exact Wp.r rfl trivial (h1 c q q2 _ ⟨((((F3.a (by decide)).f (by decide)).f (by decide)).f (by decide)).f (by decide), c3, rfl, k46, rfl, rfl, en3, rfl, rfl, k162, k260, by show upd (S3.2.2 261) _ _ = _; rw [k261]⟩)
    · rw [k224] at q2 ⊢
      refine Wp.r rfl trivial (h3 c q q2 _ ⟨(((F3.a (by decide)).f (by decide)).a (by decide)).f (by decide), ?_, rfl, k46, rfl, s3, en3, k50, k51, k162, k260, by show upd (S3.2.2 261) _ _ = _; rw [k261]⟩)
      rw [← c3]
      rfl
end
section
def cI (S0 S : mS) (dn many : Nat) (s : Int32) (m : mM) (sn hd : Nat → Int32) : Prop := Fr cFS cAS S0 S ∧ cV S = m ∧ S.1 45 = s ∧ S.1 46 = nI dn ∧ S.1 47 = nI many ∧ S.1 48 = 3 ∧ S.1 49 = 0 ∧ S.1 50 = 0 ∧ S.1 51 = -3 ∧ S.1 162 = S0.1 162 + nI dn ∧ S.2.2 260 = sn ∧ S.2.2 261 = hd
/-- as the class leaves a run -/
def cE (S0 S : mS) (r : rR) : Prop := Fr cFS cAS S0 S ∧ S.1 48 = r.1 ∧ S.1 46 = nI r.2.1 ∧ S.1 49 = r.2.2.1 ∧ S.1 50 = r.2.2.2.1 ∧ S.1 51 = r.2.2.2.2.1 ∧ cV S = r.2.2.2.2.2.1 ∧ S.2.2 260 = r.2.2.2.2.2.2.1 ∧ S.2.2 261 = r.2.2.2.2.2.2.2 ∧ S.1 162 = S0.1 162 + nI r.2.1
theorem s_go_exit {d : Nat} {S : mS} {Q : mQ} {t x y : Int32} (h3 : ¬ S.1 48 = 3) (h : Q (some (.int (S.1 48))) S) : Wp d n_X1_go 8 [(3, .int t), (0, .ref 1), (1, .int x), (2, .int y)] [] S Q := by
  repeat refine Wp.p rfl ?_
  refine Wp.b rfl (fun _ => ?_) (fun _ => ?_)
  · repeat refine Wp.p rfl ?_
    exact Wp.r rfl trivial h
  · repeat refine Wp.p rfl ?_
    refine Wp.b rfl (fun _ => ?_) (fun (c : ¬ ¬ S.1 48 = 3) => absurd h3 c)
    repeat refine Wp.p rfl ?_
    exact Wp.r rfl trivial h
theorem nI_add1 (a : Int32) (n : Nat) : a + nI n + 1 = a + nI (n + 1) := by
  rw [Int32.add_assoc, nI_1]
set_option maxHeartbeats 1000000 in
theorem s_go_loop {d n : Nat} {Q : mQ} {x y : Int32} (S0 : mS) (hP : cP S0 n) : ∀ (left dn many k0 : Nat) (s : Int32) (m : mM) (sn hd : Nat → Int32) (S : mS), dn + left = 200 → many ≤ 8 → WFk k0 m → cI S0 S dn many s m sn hd → (∀ S', cE S0 S' (rnF n (S0.2.2 220) (S0.2.2 221) (S0.2.2 222) (S0.2.2 223) (S0.2.2 224) left dn s many m sn hd) → Q (some (.int (rnF n (S0.2.2 220) (S0.2.2 221) (S0.2.2 222) (S0.2.2 223) (S0.2.2 224) left dn s many m sn hd).1)) S') →
    Wp (d + 6) n_X1_go 8 [(3, .int (nI dn)), (0, .ref 1), (1, .int x), (2, .int y)] [] S Q := by
  intro left
  induction left with
  | zero =>
    intro dn many k0 s m sn hd S hdn hmany hW hI hQ
    obtain ⟨hF, i1, i2, i3, i4, i5, i6, i7, i8, i9, i10, i11⟩ := hI
    obtain rfl : dn = 200 := by omega
    have h125 : S.1 125 = nI n := (hF.1 125 (by decide)).trans hP.1
    repeat refine Wp.p rfl ?_
    refine Wp.b rfl (fun (c : (200 : Int32) < nI 200) => absurd c (by decide)) (fun _ => ?_)
    repeat refine Wp.p rfl ?_
    refine Wp.b rfl (fun (c : ¬ S.1 48 = 3) => absurd i5 c) (fun _ => ?_)
    repeat refine Wp.p rfl ?_
    refine Wp.i rfl (s_P_has ?_)
    rw [i2, h125]
    by_cases c : 0 ≤ s ∧ s < nI n
    · rw [bI_t c]
      refine Wp.b rfl (fun _ => ?_) (fun (e : ¬ ¬ (1 : Int32) = 0) => absurd (by decide) e)
      repeat refine Wp.p rfl ?_
      refine Wp.b rfl (fun (e : ¬ nI 200 = 200) => absurd rfl e) (fun _ => ?_)
      iterate 6 refine Wp.p rfl ?_
      have e : rnF n (S0.2.2 220) (S0.2.2 221) (S0.2.2 222) (S0.2.2 223) (S0.2.2 224) 0 200 s many m sn hd = (2, 200, 0, 0, -3, m, sn, hd) := if_pos c
      rw [e] at hQ
      exact s_go_exit (show ¬ (2 : Int32) = 3 by decide) (hQ _ ⟨hF.f (by decide), rfl, i3, i6, i7, i8, i1, i10, i11, i9⟩)
    · rw [bI_f c]
      refine Wp.b rfl (fun (e : ¬ (0 : Int32) = 0) => absurd rfl e) (fun _ => ?_)
      iterate 6 refine Wp.p rfl ?_
      have e : rnF n (S0.2.2 220) (S0.2.2 221) (S0.2.2 222) (S0.2.2 223) (S0.2.2 224) 0 200 s many m sn hd = (0, 200, 0, 0, -3, m, sn, hd) := if_neg c
      rw [e] at hQ
      exact s_go_exit (show ¬ (0 : Int32) = 3 by decide) (hQ _ ⟨hF.f (by decide), rfl, i3, i6, i7, i8, i1, i10, i11, i9⟩)
  | succ left ih =>
    intro dn many k0 s m sn hd S hdn hmany hW hI hQ
    obtain ⟨hF, i1, i2, i3, i4, i5, i6, i7, i8, i9, i10, i11⟩ := hI
    have h125 : S.1 125 = nI n := (hF.1 125 (by decide)).trans hP.1
    repeat refine Wp.p rfl ?_
    refine Wp.b rfl (fun (c : (200 : Int32) < nI dn) => absurd c (nI_nlt (a := 200) (b := dn) (by omega) (by decide))) (fun _ => ?_)
    repeat refine Wp.p rfl ?_
    refine Wp.b rfl (fun (c : ¬ S.1 48 = 3) => absurd i5 c) (fun _ => ?_)
    repeat refine Wp.p rfl ?_
    refine Wp.i rfl (s_P_has ?_)
    rw [i2, h125]
    by_cases c : 0 ≤ s ∧ s < nI n
    · rw [bI_t c]
      refine Wp.b rfl (fun _ => ?_) (fun (e : ¬ ¬ (1 : Int32) = 0) => absurd (by decide) e)
      repeat refine Wp.p rfl ?_
      refine Wp.b rfl (fun _ => ?_) (fun (e : ¬ ¬ nI dn = 200) => absurd (fun z => absurd ((nI_eq (a := dn) (b := 200) (by omega) (by decide)).mp z) (by omega)) e)
      repeat refine Wp.p rfl ?_
      rw [i2]
      obtain ⟨i, hi0, rfl⟩ := nI_of (Int32.not_lt.mpr c.1)
      have hn32 := hP.2.1
      have hi : i < n := (nI_ltI hi0 (by omega)).mp c.2
      have tis : tn (nI i) = i := tn_nI (by omega)
      obtain ⟨⟨k, hk, hw⟩, -⟩ := hP.2.2 i hi
      have hk24 := hw.1
      have p0 : S.2.2 220 = S0.2.2 220 := hF.2.2 220 (by decide)
      have p1 : S.2.2 221 = S0.2.2 221 := hF.2.2 221 (by decide)
      have p2 : S.2.2 222 = S0.2.2 222 := hF.2.2 222 (by decide)
      have p3 : S.2.2 223 = S0.2.2 223 := hF.2.2 223 (by decide)
      have p4 : S.2.2 224 = S0.2.2 224 := hF.2.2 224 (by decide)
      have tk : tn (S0.2.2 220 i) = k := by rw [hk]; exact tn_nI (by omega)
      have hcP : cP S n := ⟨h125, by rw [p0, p1, p2, p3, p4]; exact hP.2⟩
      obtain ⟨k', hW'⟩ := WF_do hW hw
      have eR : rnF n (S0.2.2 220) (S0.2.2 221) (S0.2.2 222) (S0.2.2 223) (S0.2.2 224) (left + 1) dn (nI i) many m sn hd = _ := if_pos c
      rw [tis, tk] at eR
      refine Wp.i rfl (s_M_takeStep (k0 := k0) (by rw [i1]; exact hW) hcP hi (by rw [p0]; exact hk) (by rw [p1, p2, p3]; exact hw) i4 (by omega) ?_ ?_ ?_ ?_)
      · rw [i1, p1, p2, p3, i10, i11, i6, i7, i8, i5]
        intro f0 S' hN
        obtain ⟨nF, n1, n2, n3, n4, n5, n6, n7, n8, n9, n10, n11⟩ := hN
        rw [i3, nI_1] at n3
        rw [i9, nI_add1] at n9
        iterate 2 refine Wp.p rfl ?_
        show Wp (d + 6) n_X1_go 8 [(3, .int (nI dn + 1)), (0, .ref 1), (1, .int x), (2, .int y)] [] S' Q
        rw [nI_1]
        rw [if_pos f0] at eR
        by_cases k23 : k = 23
        · rw [if_pos k23] at eR n5 n6
          rw [eR] at hQ
          exact s_go_exit (by rw [n5]; decide) (by rw [n5]; exact hQ S' ⟨hF.tr nF, n5, n3, n6, n7, n8, n1, n10, n11, n9⟩)
        · rw [if_neg k23] at eR n5 n6
          rw [eR] at hQ
          exact ih (dn + 1) many k' _ _ _ _ S' (by omega) hmany hW' ⟨hF.tr nF, n1, n2, n3, n4, n5, n6, n7, n8, n9, n10, n11⟩ hQ
      · rw [i1, p1, p2, p3, i10, i11, i6, i7, i8]
        intro f0 h8 S' hN
        obtain ⟨nF, n1, n2, n3, n4, n5, n6, n7, n8, n9, n10, n11⟩ := hN
        rw [i3, nI_1] at n3
        rw [i9, nI_add1] at n9
        iterate 2 refine Wp.p rfl ?_
        rw [if_neg f0, if_pos h8] at eR
        rw [eR] at hQ
        exact s_go_exit (t := nI dn + 1) (by rw [n5]; decide) (by rw [n5]; exact hQ S' ⟨hF.tr nF, n5, n3, n6, n7, n8, n1, n10, n11, n9⟩)
      · rw [i1, p1, p2, p3, p4, i10, i11, i6]
        intro f0 h8 hh S' hN
        obtain ⟨nF, n1, n2, n3, n4, n5, n6, n7, n8, n9, n10, n11⟩ := hN
        rw [i3, nI_1] at n3
        rw [i9, nI_add1] at n9
        iterate 2 refine Wp.p rfl ?_
        rw [if_neg f0, if_neg h8, if_pos hh] at eR
        rw [eR] at hQ
        exact s_go_exit (t := nI dn + 1) (by rw [n5]; decide) (by rw [n5]; exact hQ S' ⟨hF.tr nF, n5, n3, n6, n7, n8, n1, n10, n11, n9⟩)
      · rw [i1, p1, p2, p3, p4, i10, i11, i6, i7, i8, i5]
        intro f0 h8 hh S' hN
        obtain ⟨nF, n1, n2, n3, n4, n5, n6, n7, n8, n9, n10, n11⟩ := hN
        rw [i3, nI_1] at n3
        rw [i9, nI_add1] at n9
        iterate 2 refine Wp.p rfl ?_
        show Wp (d + 6) n_X1_go 8 [(3, .int (nI dn + 1)), (0, .ref 1), (1, .int x), (2, .int y)] [] S' Q
        rw [nI_1]
        rw [if_neg f0, if_neg h8, if_neg hh] at eR
        rw [eR] at hQ
        exact ih (dn + 1) (many + 1) k' _ _ _ _ S' (by omega) (by omega) (WF_N hW') ⟨hF.tr nF, n1, n2, n3, n4, n5, n6, n7, n8, n9, n10, n11⟩ hQ
    · rw [bI_f c]
      refine Wp.b rfl (fun (e : ¬ (0 : Int32) = 0) => absurd rfl e) (fun _ => ?_)
      iterate 6 refine Wp.p rfl ?_
      have e : rnF n (S0.2.2 220) (S0.2.2 221) (S0.2.2 222) (S0.2.2 223) (S0.2.2 224) (left + 1) dn s many m sn hd = (0, dn, 0, 0, -3, m, sn, hd) := if_neg c
      rw [e] at hQ
      exact s_go_exit (t := nI dn + 1) (show ¬ (0 : Int32) = 3 by decide) (hQ _ ⟨hF.f (by decide), rfl, i3, i6, i7, i8, i1, i10, i11, i9⟩)
end
