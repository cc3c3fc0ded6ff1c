-- ===== PART A: goes FIRST, ahead of the names: the tables' words, and 'selects' of the private methods out of them =====
/-- a private method of a class that the tables say can be made, by its rows of tables_1 -/
def lw_okq (q : MethodName × Nat) : Prop := (q.1.cls ≠ "java/lang/invoke/MethodHandle" ∧ q.1.cls ≠ "java/lang/invoke/VarHandle") ∧ Cond.instantiable q.1.cls q.2 ∈ tables_1 ∧ Cond.privateMethod q.1 ∈ tables_1 ∧ Cond.instanceMethod q.1 ∈ tables_1
theorem lw_p0 : lw_okq (⟨"PeatBog$Scanner", "behindBlanks", "(I)I"⟩, 5) := ⟨⟨by decide +kernel, by decide +kernel⟩, List.mem_of_getElem? (i := 41) (by decide +kernel), List.mem_of_getElem? (i := 343) (by decide +kernel), List.mem_of_getElem? (i := 344) (by decide +kernel)⟩
theorem lw_p1 : lw_okq (⟨"PeatBog$Scanner", "scanToken", "(I)LPeatBog$Token;"⟩, 5) := ⟨⟨by decide +kernel, by decide +kernel⟩, List.mem_of_getElem? (i := 41) (by decide +kernel), List.mem_of_getElem? (i := 347) (by decide +kernel), List.mem_of_getElem? (i := 348) (by decide +kernel)⟩
theorem lw_p2 : lw_okq (⟨"PeatBog$Scanner", "isLetter", "(I)Z"⟩, 5) := ⟨⟨by decide +kernel, by decide +kernel⟩, List.mem_of_getElem? (i := 41) (by decide +kernel), List.mem_of_getElem? (i := 353) (by decide +kernel), List.mem_of_getElem? (i := 354) (by decide +kernel)⟩
theorem lw_p3 : lw_okq (⟨"PeatBog$Scanner", "behindWord", "(I)I"⟩, 5) := ⟨⟨by decide +kernel, by decide +kernel⟩, List.mem_of_getElem? (i := 41) (by decide +kernel), List.mem_of_getElem? (i := 357) (by decide +kernel), List.mem_of_getElem? (i := 358) (by decide +kernel)⟩
theorem lw_p4 : lw_okq (⟨"PeatBog$Scanner", "isDigit", "(I)Z"⟩, 5) := ⟨⟨by decide +kernel, by decide +kernel⟩, List.mem_of_getElem? (i := 41) (by decide +kernel), List.mem_of_getElem? (i := 361) (by decide +kernel), List.mem_of_getElem? (i := 362) (by decide +kernel)⟩
theorem lw_p5 : lw_okq (⟨"PeatBog$Token", "isWritten", "([BII)Z"⟩, 6) := ⟨⟨by decide +kernel, by decide +kernel⟩, List.mem_of_getElem? (i := 376) (by decide +kernel), List.mem_of_getElem? (i := 374) (by decide +kernel), List.mem_of_getElem? (i := 375) (by decide +kernel)⟩
theorem lw_p6 : lw_okq (⟨"PeatBog$Scanner", "behindDigits", "(I)I"⟩, 5) := ⟨⟨by decide +kernel, by decide +kernel⟩, List.mem_of_getElem? (i := 41) (by decide +kernel), List.mem_of_getElem? (i := 427) (by decide +kernel), List.mem_of_getElem? (i := 428) (by decide +kernel)⟩
theorem lw_p7 : lw_okq (⟨"PeatBog$Scanner", "scanSymbol", "(I)LPeatBog$Token;"⟩, 5) := ⟨⟨by decide +kernel, by decide +kernel⟩, List.mem_of_getElem? (i := 41) (by decide +kernel), List.mem_of_getElem? (i := 433) (by decide +kernel), List.mem_of_getElem? (i := 434) (by decide +kernel)⟩
theorem lw_p8 : lw_okq (⟨"PeatBog$Parser", "kind", "()LPeatBog$Token;"⟩, 7) := ⟨⟨by decide +kernel, by decide +kernel⟩, List.mem_of_getElem? (i := 35) (by decide +kernel), List.mem_of_getElem? (i := 441) (by decide +kernel), List.mem_of_getElem? (i := 442) (by decide +kernel)⟩
theorem lw_p9 : lw_okq (⟨"PeatBog$Parser", "oneGang", "()Z"⟩, 7) := ⟨⟨by decide +kernel, by decide +kernel⟩, List.mem_of_getElem? (i := 35) (by decide +kernel), List.mem_of_getElem? (i := 451) (by decide +kernel), List.mem_of_getElem? (i := 452) (by decide +kernel)⟩
theorem lw_p10 : lw_okq (⟨"PeatBog$Parser", "expect", "(LPeatBog$Token;)Z"⟩, 7) := ⟨⟨by decide +kernel, by decide +kernel⟩, List.mem_of_getElem? (i := 35) (by decide +kernel), List.mem_of_getElem? (i := 456) (by decide +kernel), List.mem_of_getElem? (i := 457) (by decide +kernel)⟩
theorem lw_p11 : lw_okq (⟨"PeatBog$Parser", "refuse", "()Z"⟩, 7) := ⟨⟨by decide +kernel, by decide +kernel⟩, List.mem_of_getElem? (i := 35) (by decide +kernel), List.mem_of_getElem? (i := 460) (by decide +kernel), List.mem_of_getElem? (i := 461) (by decide +kernel)⟩
theorem lw_p12 : lw_okq (⟨"PeatBog$Parser", "noteName", "(I)V"⟩, 7) := ⟨⟨by decide +kernel, by decide +kernel⟩, List.mem_of_getElem? (i := 35) (by decide +kernel), List.mem_of_getElem? (i := 468) (by decide +kernel), List.mem_of_getElem? (i := 469) (by decide +kernel)⟩
theorem lw_p13 : lw_okq (⟨"PeatBog$Scanner", "endOf", "(I)I"⟩, 5) := ⟨⟨by decide +kernel, by decide +kernel⟩, List.mem_of_getElem? (i := 41) (by decide +kernel), List.mem_of_getElem? (i := 477) (by decide +kernel), List.mem_of_getElem? (i := 478) (by decide +kernel)⟩
theorem lw_p14 : lw_okq (⟨"PeatBog$Parser", "note", "(II)V"⟩, 7) := ⟨⟨by decide +kernel, by decide +kernel⟩, List.mem_of_getElem? (i := 35) (by decide +kernel), List.mem_of_getElem? (i := 481) (by decide +kernel), List.mem_of_getElem? (i := 482) (by decide +kernel)⟩
theorem lw_p15 : lw_okq (⟨"PeatBog$Parser", "limitedNumber", "(I)Z"⟩, 7) := ⟨⟨by decide +kernel, by decide +kernel⟩, List.mem_of_getElem? (i := 35) (by decide +kernel), List.mem_of_getElem? (i := 487) (by decide +kernel), List.mem_of_getElem? (i := 488) (by decide +kernel)⟩
def lw_privs_1 : List (MethodName × Nat) := [(⟨"PeatBog$Scanner", "behindBlanks", "(I)I"⟩, 5), (⟨"PeatBog$Scanner", "scanToken", "(I)LPeatBog$Token;"⟩, 5), (⟨"PeatBog$Scanner", "isLetter", "(I)Z"⟩, 5), (⟨"PeatBog$Scanner", "behindWord", "(I)I"⟩, 5), (⟨"PeatBog$Scanner", "isDigit", "(I)Z"⟩, 5), (⟨"PeatBog$Token", "isWritten", "([BII)Z"⟩, 6), (⟨"PeatBog$Scanner", "behindDigits", "(I)I"⟩, 5), (⟨"PeatBog$Scanner", "scanSymbol", "(I)LPeatBog$Token;"⟩, 5), (⟨"PeatBog$Parser", "kind", "()LPeatBog$Token;"⟩, 7), (⟨"PeatBog$Parser", "oneGang", "()Z"⟩, 7), (⟨"PeatBog$Parser", "expect", "(LPeatBog$Token;)Z"⟩, 7), (⟨"PeatBog$Parser", "refuse", "()Z"⟩, 7), (⟨"PeatBog$Parser", "noteName", "(I)V"⟩, 7), (⟨"PeatBog$Scanner", "endOf", "(I)I"⟩, 5), (⟨"PeatBog$Parser", "note", "(II)V"⟩, 7), (⟨"PeatBog$Parser", "limitedNumber", "(I)Z"⟩, 7)]
theorem lw_r1 : ∀ q ∈ lw_privs_1, lw_okq q := List.forall_mem_cons.mpr ⟨lw_p0, List.forall_mem_cons.mpr ⟨lw_p1, List.forall_mem_cons.mpr ⟨lw_p2, List.forall_mem_cons.mpr ⟨lw_p3, List.forall_mem_cons.mpr ⟨lw_p4, List.forall_mem_cons.mpr ⟨lw_p5, List.forall_mem_cons.mpr ⟨lw_p6, List.forall_mem_cons.mpr ⟨lw_p7, List.forall_mem_cons.mpr ⟨lw_p8, List.forall_mem_cons.mpr ⟨lw_p9, List.forall_mem_cons.mpr ⟨lw_p10, List.forall_mem_cons.mpr ⟨lw_p11, List.forall_mem_cons.mpr ⟨lw_p12, List.forall_mem_cons.mpr ⟨lw_p13, List.forall_mem_cons.mpr ⟨lw_p14, List.forall_mem_cons.mpr ⟨lw_p15, fun _ h => absurd h List.not_mem_nil⟩⟩⟩⟩⟩⟩⟩⟩⟩⟩⟩⟩⟩⟩⟩⟩
theorem lw_p16 : lw_okq (⟨"PeatBog$Parser", "block", "(I)Z"⟩, 7) := ⟨⟨by decide +kernel, by decide +kernel⟩, List.mem_of_getElem? (i := 35) (by decide +kernel), List.mem_of_getElem? (i := 506) (by decide +kernel), List.mem_of_getElem? (i := 507) (by decide +kernel)⟩
theorem lw_p17 : lw_okq (⟨"PeatBog$Parser", "enter", "(LPeatBog$Token;I)Z"⟩, 7) := ⟨⟨by decide +kernel, by decide +kernel⟩, List.mem_of_getElem? (i := 35) (by decide +kernel), List.mem_of_getElem? (i := 512) (by decide +kernel), List.mem_of_getElem? (i := 513) (by decide +kernel)⟩
theorem lw_p18 : lw_okq (⟨"PeatBog$Parser", "sentence", "(I)Z"⟩, 7) := ⟨⟨by decide +kernel, by decide +kernel⟩, List.mem_of_getElem? (i := 35) (by decide +kernel), List.mem_of_getElem? (i := 518) (by decide +kernel), List.mem_of_getElem? (i := 519) (by decide +kernel)⟩
theorem lw_p19 : lw_okq (⟨"PeatBog$Parser", "sum", "(I)Z"⟩, 7) := ⟨⟨by decide +kernel, by decide +kernel⟩, List.mem_of_getElem? (i := 35) (by decide +kernel), List.mem_of_getElem? (i := 530) (by decide +kernel), List.mem_of_getElem? (i := 531) (by decide +kernel)⟩
theorem lw_p20 : lw_okq (⟨"PeatBog$Parser", "product", "(I)Z"⟩, 7) := ⟨⟨by decide +kernel, by decide +kernel⟩, List.mem_of_getElem? (i := 35) (by decide +kernel), List.mem_of_getElem? (i := 534) (by decide +kernel), List.mem_of_getElem? (i := 535) (by decide +kernel)⟩
theorem lw_p21 : lw_okq (⟨"PeatBog$Parser", "value", "(I)Z"⟩, 7) := ⟨⟨by decide +kernel, by decide +kernel⟩, List.mem_of_getElem? (i := 35) (by decide +kernel), List.mem_of_getElem? (i := 538) (by decide +kernel), List.mem_of_getElem? (i := 539) (by decide +kernel)⟩
theorem lw_p22 : lw_okq (⟨"PeatBog$Parser", "end", "(I)Z"⟩, 7) := ⟨⟨by decide +kernel, by decide +kernel⟩, List.mem_of_getElem? (i := 35) (by decide +kernel), List.mem_of_getElem? (i := 554) (by decide +kernel), List.mem_of_getElem? (i := 555) (by decide +kernel)⟩
theorem lw_p23 : lw_okq (⟨"PeatBog$Parser", "choice", "(I)Z"⟩, 7) := ⟨⟨by decide +kernel, by decide +kernel⟩, List.mem_of_getElem? (i := 35) (by decide +kernel), List.mem_of_getElem? (i := 560) (by decide +kernel), List.mem_of_getElem? (i := 561) (by decide +kernel)⟩
theorem lw_p24 : lw_okq (⟨"PeatBog$Parser", "test", "(I)Z"⟩, 7) := ⟨⟨by decide +kernel, by decide +kernel⟩, List.mem_of_getElem? (i := 35) (by decide +kernel), List.mem_of_getElem? (i := 564) (by decide +kernel), List.mem_of_getElem? (i := 565) (by decide +kernel)⟩
theorem lw_p25 : lw_okq (⟨"PeatBog$Parser", "both", "(I)Z"⟩, 7) := ⟨⟨by decide +kernel, by decide +kernel⟩, List.mem_of_getElem? (i := 35) (by decide +kernel), List.mem_of_getElem? (i := 568) (by decide +kernel), List.mem_of_getElem? (i := 569) (by decide +kernel)⟩
theorem lw_p26 : lw_okq (⟨"PeatBog$Parser", "single", "(I)Z"⟩, 7) := ⟨⟨by decide +kernel, by decide +kernel⟩, List.mem_of_getElem? (i := 35) (by decide +kernel), List.mem_of_getElem? (i := 572) (by decide +kernel), List.mem_of_getElem? (i := 573) (by decide +kernel)⟩
theorem lw_p27 : lw_okq (⟨"PeatBog$Parser", "countedLoop", "(I)Z"⟩, 7) := ⟨⟨by decide +kernel, by decide +kernel⟩, List.mem_of_getElem? (i := 35) (by decide +kernel), List.mem_of_getElem? (i := 592) (by decide +kernel), List.mem_of_getElem? (i := 593) (by decide +kernel)⟩
theorem lw_p28 : lw_okq (⟨"PeatBog$Parser", "testedLoop", "(I)Z"⟩, 7) := ⟨⟨by decide +kernel, by decide +kernel⟩, List.mem_of_getElem? (i := 35) (by decide +kernel), List.mem_of_getElem? (i := 596) (by decide +kernel), List.mem_of_getElem? (i := 597) (by decide +kernel)⟩
theorem lw_p29 : lw_okq (⟨"PeatBog", "signOf", "(I)C"⟩, 11) := ⟨⟨by decide +kernel, by decide +kernel⟩, List.mem_of_getElem? (i := 27) (by decide +kernel), List.mem_of_getElem? (i := 620) (by decide +kernel), List.mem_of_getElem? (i := 621) (by decide +kernel)⟩
theorem lw_p30 : lw_okq (⟨"PeatBog", "counted", "(I)I"⟩, 11) := ⟨⟨by decide +kernel, by decide +kernel⟩, List.mem_of_getElem? (i := 27) (by decide +kernel), List.mem_of_getElem? (i := 639) (by decide +kernel), List.mem_of_getElem? (i := 640) (by decide +kernel)⟩
theorem lw_p31 : lw_okq (⟨"java/lang/Throwable", "fillInStackTrace", "(I)Ljava/lang/Throwable;"⟩, 6) := ⟨⟨by decide +kernel, by decide +kernel⟩, List.mem_of_getElem? (i := 708) (by decide +kernel), List.mem_of_getElem? (i := 706) (by decide +kernel), List.mem_of_getElem? (i := 707) (by decide +kernel)⟩
def lw_privs_2 : List (MethodName × Nat) := [(⟨"PeatBog$Parser", "block", "(I)Z"⟩, 7), (⟨"PeatBog$Parser", "enter", "(LPeatBog$Token;I)Z"⟩, 7), (⟨"PeatBog$Parser", "sentence", "(I)Z"⟩, 7), (⟨"PeatBog$Parser", "sum", "(I)Z"⟩, 7), (⟨"PeatBog$Parser", "product", "(I)Z"⟩, 7), (⟨"PeatBog$Parser", "value", "(I)Z"⟩, 7), (⟨"PeatBog$Parser", "end", "(I)Z"⟩, 7), (⟨"PeatBog$Parser", "choice", "(I)Z"⟩, 7), (⟨"PeatBog$Parser", "test", "(I)Z"⟩, 7), (⟨"PeatBog$Parser", "both", "(I)Z"⟩, 7), (⟨"PeatBog$Parser", "single", "(I)Z"⟩, 7), (⟨"PeatBog$Parser", "countedLoop", "(I)Z"⟩, 7), (⟨"PeatBog$Parser", "testedLoop", "(I)Z"⟩, 7), (⟨"PeatBog", "signOf", "(I)C"⟩, 11), (⟨"PeatBog", "counted", "(I)I"⟩, 11), (⟨"java/lang/Throwable", "fillInStackTrace", "(I)Ljava/lang/Throwable;"⟩, 6)]
theorem lw_r2 : ∀ q ∈ lw_privs_2, lw_okq q := List.forall_mem_cons.mpr ⟨lw_p16, List.forall_mem_cons.mpr ⟨lw_p17, List.forall_mem_cons.mpr ⟨lw_p18, List.forall_mem_cons.mpr ⟨lw_p19, List.forall_mem_cons.mpr ⟨lw_p20, List.forall_mem_cons.mpr ⟨lw_p21, List.forall_mem_cons.mpr ⟨lw_p22, List.forall_mem_cons.mpr ⟨lw_p23, List.forall_mem_cons.mpr ⟨lw_p24, List.forall_mem_cons.mpr ⟨lw_p25, List.forall_mem_cons.mpr ⟨lw_p26, List.forall_mem_cons.mpr ⟨lw_p27, List.forall_mem_cons.mpr ⟨lw_p28, List.forall_mem_cons.mpr ⟨lw_p29, List.forall_mem_cons.mpr ⟨lw_p30, List.forall_mem_cons.mpr ⟨lw_p31, fun _ h => absurd h List.not_mem_nil⟩⟩⟩⟩⟩⟩⟩⟩⟩⟩⟩⟩⟩⟩⟩⟩
theorem lw_p32 : lw_okq (⟨"PeatBog", "append", "(I)V"⟩, 11) := ⟨⟨by decide +kernel, by decide +kernel⟩, List.mem_of_getElem? (i := 27) (by decide +kernel), List.mem_of_getElem? (i := 737) (by decide +kernel), List.mem_of_getElem? (i := 738) (by decide +kernel)⟩
theorem lw_p33 : lw_okq (⟨"PeatBog$Worker", "reckonSums", "()I"⟩, 5) := ⟨⟨by decide +kernel, by decide +kernel⟩, List.mem_of_getElem? (i := 271) (by decide +kernel), List.mem_of_getElem? (i := 857) (by decide +kernel), List.mem_of_getElem? (i := 858) (by decide +kernel)⟩
theorem lw_p34 : lw_okq (⟨"PeatBog$Worker", "reckon", "(II)V"⟩, 5) := ⟨⟨by decide +kernel, by decide +kernel⟩, List.mem_of_getElem? (i := 271) (by decide +kernel), List.mem_of_getElem? (i := 861) (by decide +kernel), List.mem_of_getElem? (i := 862) (by decide +kernel)⟩
theorem lw_p35 : lw_okq (⟨"PeatBog$Worker", "push", "(I)V"⟩, 5) := ⟨⟨by decide +kernel, by decide +kernel⟩, List.mem_of_getElem? (i := 271) (by decide +kernel), List.mem_of_getElem? (i := 865) (by decide +kernel), List.mem_of_getElem? (i := 866) (by decide +kernel)⟩
theorem lw_p36 : lw_okq (⟨"PeatBog$Worker", "read", "(I)I"⟩, 5) := ⟨⟨by decide +kernel, by decide +kernel⟩, List.mem_of_getElem? (i := 271) (by decide +kernel), List.mem_of_getElem? (i := 869) (by decide +kernel), List.mem_of_getElem? (i := 870) (by decide +kernel)⟩
theorem lw_p37 : lw_okq (⟨"PeatBog$Worker", "pop", "()I"⟩, 5) := ⟨⟨by decide +kernel, by decide +kernel⟩, List.mem_of_getElem? (i := 271) (by decide +kernel), List.mem_of_getElem? (i := 882) (by decide +kernel), List.mem_of_getElem? (i := 883) (by decide +kernel)⟩
theorem lw_p38 : lw_okq (⟨"PeatBog$Worker", "carryOut", "(I)Z"⟩, 5) := ⟨⟨by decide +kernel, by decide +kernel⟩, List.mem_of_getElem? (i := 271) (by decide +kernel), List.mem_of_getElem? (i := 893) (by decide +kernel), List.mem_of_getElem? (i := 894) (by decide +kernel)⟩
theorem lw_p39 : lw_okq (⟨"PeatBog$Worker", "go", "(I)Z"⟩, 5) := ⟨⟨by decide +kernel, by decide +kernel⟩, List.mem_of_getElem? (i := 271) (by decide +kernel), List.mem_of_getElem? (i := 905) (by decide +kernel), List.mem_of_getElem? (i := 906) (by decide +kernel)⟩
theorem lw_p40 : lw_okq (⟨"PeatBog$Worker", "isHourOver", "()Z"⟩, 5) := ⟨⟨by decide +kernel, by decide +kernel⟩, List.mem_of_getElem? (i := 271) (by decide +kernel), List.mem_of_getElem? (i := 910) (by decide +kernel), List.mem_of_getElem? (i := 911) (by decide +kernel)⟩
theorem lw_p41 : lw_okq (⟨"PeatBog$Worker", "cut", "(I)Z"⟩, 5) := ⟨⟨by decide +kernel, by decide +kernel⟩, List.mem_of_getElem? (i := 271) (by decide +kernel), List.mem_of_getElem? (i := 917) (by decide +kernel), List.mem_of_getElem? (i := 918) (by decide +kernel)⟩
theorem lw_p42 : lw_okq (⟨"PeatBog$Worker", "endHour", "(II)Z"⟩, 5) := ⟨⟨by decide +kernel, by decide +kernel⟩, List.mem_of_getElem? (i := 271) (by decide +kernel), List.mem_of_getElem? (i := 922) (by decide +kernel), List.mem_of_getElem? (i := 923) (by decide +kernel)⟩
theorem lw_p43 : lw_okq (⟨"PeatBog$Worker", "turn", "(I)Z"⟩, 5) := ⟨⟨by decide +kernel, by decide +kernel⟩, List.mem_of_getElem? (i := 271) (by decide +kernel), List.mem_of_getElem? (i := 926) (by decide +kernel), List.mem_of_getElem? (i := 927) (by decide +kernel)⟩
theorem lw_p44 : lw_okq (⟨"PeatBog$Worker", "load", "(I)Z"⟩, 5) := ⟨⟨by decide +kernel, by decide +kernel⟩, List.mem_of_getElem? (i := 271) (by decide +kernel), List.mem_of_getElem? (i := 930) (by decide +kernel), List.mem_of_getElem? (i := 931) (by decide +kernel)⟩
theorem lw_p45 : lw_okq (⟨"PeatBog$Worker", "unload", "(I)Z"⟩, 5) := ⟨⟨by decide +kernel, by decide +kernel⟩, List.mem_of_getElem? (i := 271) (by decide +kernel), List.mem_of_getElem? (i := 943) (by decide +kernel), List.mem_of_getElem? (i := 944) (by decide +kernel)⟩
theorem lw_p46 : lw_okq (⟨"PeatBog$Worker", "rest", "(I)Z"⟩, 5) := ⟨⟨by decide +kernel, by decide +kernel⟩, List.mem_of_getElem? (i := 271) (by decide +kernel), List.mem_of_getElem? (i := 951) (by decide +kernel), List.mem_of_getElem? (i := 952) (by decide +kernel)⟩
theorem lw_p47 : lw_okq (⟨"PeatBog$Worker", "branch", "(II)Z"⟩, 5) := ⟨⟨by decide +kernel, by decide +kernel⟩, List.mem_of_getElem? (i := 271) (by decide +kernel), List.mem_of_getElem? (i := 955) (by decide +kernel), List.mem_of_getElem? (i := 956) (by decide +kernel)⟩
def lw_privs_3 : List (MethodName × Nat) := [(⟨"PeatBog", "append", "(I)V"⟩, 11), (⟨"PeatBog$Worker", "reckonSums", "()I"⟩, 5), (⟨"PeatBog$Worker", "reckon", "(II)V"⟩, 5), (⟨"PeatBog$Worker", "push", "(I)V"⟩, 5), (⟨"PeatBog$Worker", "read", "(I)I"⟩, 5), (⟨"PeatBog$Worker", "pop", "()I"⟩, 5), (⟨"PeatBog$Worker", "carryOut", "(I)Z"⟩, 5), (⟨"PeatBog$Worker", "go", "(I)Z"⟩, 5), (⟨"PeatBog$Worker", "isHourOver", "()Z"⟩, 5), (⟨"PeatBog$Worker", "cut", "(I)Z"⟩, 5), (⟨"PeatBog$Worker", "endHour", "(II)Z"⟩, 5), (⟨"PeatBog$Worker", "turn", "(I)Z"⟩, 5), (⟨"PeatBog$Worker", "load", "(I)Z"⟩, 5), (⟨"PeatBog$Worker", "unload", "(I)Z"⟩, 5), (⟨"PeatBog$Worker", "rest", "(I)Z"⟩, 5), (⟨"PeatBog$Worker", "branch", "(II)Z"⟩, 5)]
theorem lw_r3 : ∀ q ∈ lw_privs_3, lw_okq q := List.forall_mem_cons.mpr ⟨lw_p32, List.forall_mem_cons.mpr ⟨lw_p33, List.forall_mem_cons.mpr ⟨lw_p34, List.forall_mem_cons.mpr ⟨lw_p35, List.forall_mem_cons.mpr ⟨lw_p36, List.forall_mem_cons.mpr ⟨lw_p37, List.forall_mem_cons.mpr ⟨lw_p38, List.forall_mem_cons.mpr ⟨lw_p39, List.forall_mem_cons.mpr ⟨lw_p40, List.forall_mem_cons.mpr ⟨lw_p41, List.forall_mem_cons.mpr ⟨lw_p42, List.forall_mem_cons.mpr ⟨lw_p43, List.forall_mem_cons.mpr ⟨lw_p44, List.forall_mem_cons.mpr ⟨lw_p45, List.forall_mem_cons.mpr ⟨lw_p46, List.forall_mem_cons.mpr ⟨lw_p47, fun _ h => absurd h List.not_mem_nil⟩⟩⟩⟩⟩⟩⟩⟩⟩⟩⟩⟩⟩⟩⟩⟩
theorem lw_p48 : lw_okq (⟨"PeatBog$Worker", "beginRepeat", "(II)Z"⟩, 5) := ⟨⟨by decide +kernel, by decide +kernel⟩, List.mem_of_getElem? (i := 271) (by decide +kernel), List.mem_of_getElem? (i := 959) (by decide +kernel), List.mem_of_getElem? (i := 960) (by decide +kernel)⟩
theorem lw_p49 : lw_okq (⟨"PeatBog$Worker", "repeat", "(II)Z"⟩, 5) := ⟨⟨by decide +kernel, by decide +kernel⟩, List.mem_of_getElem? (i := 271) (by decide +kernel), List.mem_of_getElem? (i := 963) (by decide +kernel), List.mem_of_getElem? (i := 964) (by decide +kernel)⟩
theorem lw_p50 : lw_okq (⟨"PeatBog$Bog", "dryStacks", "()V"⟩, 17) := ⟨⟨by decide +kernel, by decide +kernel⟩, List.mem_of_getElem? (i := 129) (by decide +kernel), List.mem_of_getElem? (i := 971) (by decide +kernel), List.mem_of_getElem? (i := 972) (by decide +kernel)⟩
theorem lw_p51 : lw_okq (⟨"PeatBog$Bog", "moveWater", "()V"⟩, 17) := ⟨⟨by decide +kernel, by decide +kernel⟩, List.mem_of_getElem? (i := 129) (by decide +kernel), List.mem_of_getElem? (i := 985) (by decide +kernel), List.mem_of_getElem? (i := 986) (by decide +kernel)⟩
theorem lw_p52 : lw_okq (⟨"PeatBog$Bog", "rise", "()V"⟩, 17) := ⟨⟨by decide +kernel, by decide +kernel⟩, List.mem_of_getElem? (i := 129) (by decide +kernel), List.mem_of_getElem? (i := 990) (by decide +kernel), List.mem_of_getElem? (i := 991) (by decide +kernel)⟩
theorem lw_p53 : lw_okq (⟨"PeatBog$Bog", "neighboursWithPeat", "(I)I"⟩, 17) := ⟨⟨by decide +kernel, by decide +kernel⟩, List.mem_of_getElem? (i := 129) (by decide +kernel), List.mem_of_getElem? (i := 997) (by decide +kernel), List.mem_of_getElem? (i := 998) (by decide +kernel)⟩
theorem lw_p54 : lw_okq (⟨"PeatBogModel", "no", "(I)I"⟩, 32) := ⟨⟨by decide +kernel, by decide +kernel⟩, List.mem_of_getElem? (i := 1050) (by decide +kernel), List.mem_of_getElem? (i := 1220) (by decide +kernel), List.mem_of_getElem? (i := 1221) (by decide +kernel)⟩
theorem lw_p55 : lw_okq (⟨"PeatBogModel", "advance", "()V"⟩, 32) := ⟨⟨by decide +kernel, by decide +kernel⟩, List.mem_of_getElem? (i := 1050) (by decide +kernel), List.mem_of_getElem? (i := 1235) (by decide +kernel), List.mem_of_getElem? (i := 1236) (by decide +kernel)⟩
theorem lw_p56 : lw_okq (⟨"PeatBogModel", "isLetter", "(I)Z"⟩, 32) := ⟨⟨by decide +kernel, by decide +kernel⟩, List.mem_of_getElem? (i := 1050) (by decide +kernel), List.mem_of_getElem? (i := 1239) (by decide +kernel), List.mem_of_getElem? (i := 1240) (by decide +kernel)⟩
theorem lw_p57 : lw_okq (⟨"PeatBogModel", "byteOf", "(I)I"⟩, 32) := ⟨⟨by decide +kernel, by decide +kernel⟩, List.mem_of_getElem? (i := 1050) (by decide +kernel), List.mem_of_getElem? (i := 1243) (by decide +kernel), List.mem_of_getElem? (i := 1244) (by decide +kernel)⟩
theorem lw_p58 : lw_okq (⟨"PeatBogModel", "word", "()V"⟩, 32) := ⟨⟨by decide +kernel, by decide +kernel⟩, List.mem_of_getElem? (i := 1050) (by decide +kernel), List.mem_of_getElem? (i := 1247) (by decide +kernel), List.mem_of_getElem? (i := 1248) (by decide +kernel)⟩
theorem lw_p59 : lw_okq (⟨"PeatBogModel", "isDigit", "(I)Z"⟩, 32) := ⟨⟨by decide +kernel, by decide +kernel⟩, List.mem_of_getElem? (i := 1050) (by decide +kernel), List.mem_of_getElem? (i := 1251) (by decide +kernel), List.mem_of_getElem? (i := 1252) (by decide +kernel)⟩
theorem lw_p60 : lw_okq (⟨"PeatBogModel", "isWord", "(Ljava/lang/String;)Z"⟩, 32) := ⟨⟨by decide +kernel, by decide +kernel⟩, List.mem_of_getElem? (i := 1050) (by decide +kernel), List.mem_of_getElem? (i := 1257) (by decide +kernel), List.mem_of_getElem? (i := 1258) (by decide +kernel)⟩
theorem lw_p61 : lw_okq (⟨"PeatBogModel", "number", "()V"⟩, 32) := ⟨⟨by decide +kernel, by decide +kernel⟩, List.mem_of_getElem? (i := 1050) (by decide +kernel), List.mem_of_getElem? (i := 1263) (by decide +kernel), List.mem_of_getElem? (i := 1264) (by decide +kernel)⟩
theorem lw_p62 : lw_okq (⟨"PeatBogModel", "symbol", "()V"⟩, 32) := ⟨⟨by decide +kernel, by decide +kernel⟩, List.mem_of_getElem? (i := 1050) (by decide +kernel), List.mem_of_getElem? (i := 1267) (by decide +kernel), List.mem_of_getElem? (i := 1268) (by decide +kernel)⟩
theorem lw_p63 : lw_okq (⟨"PeatBogModel", "text", "()Z"⟩, 32) := ⟨⟨by decide +kernel, by decide +kernel⟩, List.mem_of_getElem? (i := 1050) (by decide +kernel), List.mem_of_getElem? (i := 1274) (by decide +kernel), List.mem_of_getElem? (i := 1275) (by decide +kernel)⟩
def lw_privs_4 : List (MethodName × Nat) := [(⟨"PeatBog$Worker", "beginRepeat", "(II)Z"⟩, 5), (⟨"PeatBog$Worker", "repeat", "(II)Z"⟩, 5), (⟨"PeatBog$Bog", "dryStacks", "()V"⟩, 17), (⟨"PeatBog$Bog", "moveWater", "()V"⟩, 17), (⟨"PeatBog$Bog", "rise", "()V"⟩, 17), (⟨"PeatBog$Bog", "neighboursWithPeat", "(I)I"⟩, 17), (⟨"PeatBogModel", "no", "(I)I"⟩, 32), (⟨"PeatBogModel", "advance", "()V"⟩, 32), (⟨"PeatBogModel", "isLetter", "(I)Z"⟩, 32), (⟨"PeatBogModel", "byteOf", "(I)I"⟩, 32), (⟨"PeatBogModel", "word", "()V"⟩, 32), (⟨"PeatBogModel", "isDigit", "(I)Z"⟩, 32), (⟨"PeatBogModel", "isWord", "(Ljava/lang/String;)Z"⟩, 32), (⟨"PeatBogModel", "number", "()V"⟩, 32), (⟨"PeatBogModel", "symbol", "()V"⟩, 32), (⟨"PeatBogModel", "text", "()Z"⟩, 32)]
theorem lw_r4 : ∀ q ∈ lw_privs_4, lw_okq q := List.forall_mem_cons.mpr ⟨lw_p48, List.forall_mem_cons.mpr ⟨lw_p49, List.forall_mem_cons.mpr ⟨lw_p50, List.forall_mem_cons.mpr ⟨lw_p51, List.forall_mem_cons.mpr ⟨lw_p52, List.forall_mem_cons.mpr ⟨lw_p53, List.forall_mem_cons.mpr ⟨lw_p54, List.forall_mem_cons.mpr ⟨lw_p55, List.forall_mem_cons.mpr ⟨lw_p56, List.forall_mem_cons.mpr ⟨lw_p57, List.forall_mem_cons.mpr ⟨lw_p58, List.forall_mem_cons.mpr ⟨lw_p59, List.forall_mem_cons.mpr ⟨lw_p60, List.forall_mem_cons.mpr ⟨lw_p61, List.forall_mem_cons.mpr ⟨lw_p62, List.forall_mem_cons.mpr ⟨lw_p63, fun _ h => absurd h List.not_mem_nil⟩⟩⟩⟩⟩⟩⟩⟩⟩⟩⟩⟩⟩⟩⟩⟩
theorem lw_p64 : lw_okq (⟨"PeatBogModel", "reads", "(I)Z"⟩, 32) := ⟨⟨by decide +kernel, by decide +kernel⟩, List.mem_of_getElem? (i := 1050) (by decide +kernel), List.mem_of_getElem? (i := 1278) (by decide +kernel), List.mem_of_getElem? (i := 1279) (by decide +kernel)⟩
theorem lw_p65 : lw_okq (⟨"PeatBogModel", "gang", "()Z"⟩, 32) := ⟨⟨by decide +kernel, by decide +kernel⟩, List.mem_of_getElem? (i := 1050) (by decide +kernel), List.mem_of_getElem? (i := 1282) (by decide +kernel), List.mem_of_getElem? (i := 1283) (by decide +kernel)⟩
theorem lw_p66 : lw_okq (⟨"PeatBogModel", "isNameOf", "(I)Z"⟩, 32) := ⟨⟨by decide +kernel, by decide +kernel⟩, List.mem_of_getElem? (i := 1050) (by decide +kernel), List.mem_of_getElem? (i := 1286) (by decide +kernel), List.mem_of_getElem? (i := 1287) (by decide +kernel)⟩
theorem lw_p67 : lw_okq (⟨"PeatBogModel", "fault", "(I)V"⟩, 32) := ⟨⟨by decide +kernel, by decide +kernel⟩, List.mem_of_getElem? (i := 1050) (by decide +kernel), List.mem_of_getElem? (i := 1290) (by decide +kernel), List.mem_of_getElem? (i := 1291) (by decide +kernel)⟩
theorem lw_p68 : lw_okq (⟨"PeatBogModel", "passWord", "(I)Z"⟩, 32) := ⟨⟨by decide +kernel, by decide +kernel⟩, List.mem_of_getElem? (i := 1050) (by decide +kernel), List.mem_of_getElem? (i := 1294) (by decide +kernel), List.mem_of_getElem? (i := 1295) (by decide +kernel)⟩
theorem lw_p69 : lw_okq (⟨"PeatBogModel", "block", "()Z"⟩, 32) := ⟨⟨by decide +kernel, by decide +kernel⟩, List.mem_of_getElem? (i := 1050) (by decide +kernel), List.mem_of_getElem? (i := 1298) (by decide +kernel), List.mem_of_getElem? (i := 1299) (by decide +kernel)⟩
theorem lw_p70 : lw_okq (⟨"PeatBogModel", "sees", "(I)Z"⟩, 32) := ⟨⟨by decide +kernel, by decide +kernel⟩, List.mem_of_getElem? (i := 1050) (by decide +kernel), List.mem_of_getElem? (i := 1302) (by decide +kernel), List.mem_of_getElem? (i := 1303) (by decide +kernel)⟩
theorem lw_p71 : lw_okq (⟨"PeatBogModel", "deeper", "()Z"⟩, 32) := ⟨⟨by decide +kernel, by decide +kernel⟩, List.mem_of_getElem? (i := 1050) (by decide +kernel), List.mem_of_getElem? (i := 1306) (by decide +kernel), List.mem_of_getElem? (i := 1307) (by decide +kernel)⟩
theorem lw_p72 : lw_okq (⟨"PeatBogModel", "sentence", "()Z"⟩, 32) := ⟨⟨by decide +kernel, by decide +kernel⟩, List.mem_of_getElem? (i := 1050) (by decide +kernel), List.mem_of_getElem? (i := 1310) (by decide +kernel), List.mem_of_getElem? (i := 1311) (by decide +kernel)⟩
theorem lw_p73 : lw_okq (⟨"PeatBogModel", "put", "(I)V"⟩, 32) := ⟨⟨by decide +kernel, by decide +kernel⟩, List.mem_of_getElem? (i := 1050) (by decide +kernel), List.mem_of_getElem? (i := 1314) (by decide +kernel), List.mem_of_getElem? (i := 1315) (by decide +kernel)⟩
theorem lw_p74 : lw_okq (⟨"PeatBogModel", "sum", "(Z)Z"⟩, 32) := ⟨⟨by decide +kernel, by decide +kernel⟩, List.mem_of_getElem? (i := 1050) (by decide +kernel), List.mem_of_getElem? (i := 1318) (by decide +kernel), List.mem_of_getElem? (i := 1319) (by decide +kernel)⟩
theorem lw_p75 : lw_okq (⟨"PeatBogModel", "product", "()Z"⟩, 32) := ⟨⟨by decide +kernel, by decide +kernel⟩, List.mem_of_getElem? (i := 1050) (by decide +kernel), List.mem_of_getElem? (i := 1322) (by decide +kernel), List.mem_of_getElem? (i := 1323) (by decide +kernel)⟩
theorem lw_p76 : lw_okq (⟨"PeatBogModel", "value", "()Z"⟩, 32) := ⟨⟨by decide +kernel, by decide +kernel⟩, List.mem_of_getElem? (i := 1050) (by decide +kernel), List.mem_of_getElem? (i := 1326) (by decide +kernel), List.mem_of_getElem? (i := 1327) (by decide +kernel)⟩
theorem lw_p77 : lw_okq (⟨"PeatBogModel", "shallower", "(I)Z"⟩, 32) := ⟨⟨by decide +kernel, by decide +kernel⟩, List.mem_of_getElem? (i := 1050) (by decide +kernel), List.mem_of_getElem? (i := 1330) (by decide +kernel), List.mem_of_getElem? (i := 1331) (by decide +kernel)⟩
theorem lw_p78 : lw_okq (⟨"PeatBogModel", "passSymbol", "(I)Z"⟩, 32) := ⟨⟨by decide +kernel, by decide +kernel⟩, List.mem_of_getElem? (i := 1050) (by decide +kernel), List.mem_of_getElem? (i := 1334) (by decide +kernel), List.mem_of_getElem? (i := 1335) (by decide +kernel)⟩
theorem lw_p79 : lw_okq (⟨"PeatBogModel", "branch", "()Z"⟩, 32) := ⟨⟨by decide +kernel, by decide +kernel⟩, List.mem_of_getElem? (i := 1050) (by decide +kernel), List.mem_of_getElem? (i := 1338) (by decide +kernel), List.mem_of_getElem? (i := 1339) (by decide +kernel)⟩
def lw_privs_5 : List (MethodName × Nat) := [(⟨"PeatBogModel", "reads", "(I)Z"⟩, 32), (⟨"PeatBogModel", "gang", "()Z"⟩, 32), (⟨"PeatBogModel", "isNameOf", "(I)Z"⟩, 32), (⟨"PeatBogModel", "fault", "(I)V"⟩, 32), (⟨"PeatBogModel", "passWord", "(I)Z"⟩, 32), (⟨"PeatBogModel", "block", "()Z"⟩, 32), (⟨"PeatBogModel", "sees", "(I)Z"⟩, 32), (⟨"PeatBogModel", "deeper", "()Z"⟩, 32), (⟨"PeatBogModel", "sentence", "()Z"⟩, 32), (⟨"PeatBogModel", "put", "(I)V"⟩, 32), (⟨"PeatBogModel", "sum", "(Z)Z"⟩, 32), (⟨"PeatBogModel", "product", "()Z"⟩, 32), (⟨"PeatBogModel", "value", "()Z"⟩, 32), (⟨"PeatBogModel", "shallower", "(I)Z"⟩, 32), (⟨"PeatBogModel", "passSymbol", "(I)Z"⟩, 32), (⟨"PeatBogModel", "branch", "()Z"⟩, 32)]
theorem lw_r5 : ∀ q ∈ lw_privs_5, lw_okq q := List.forall_mem_cons.mpr ⟨lw_p64, List.forall_mem_cons.mpr ⟨lw_p65, List.forall_mem_cons.mpr ⟨lw_p66, List.forall_mem_cons.mpr ⟨lw_p67, List.forall_mem_cons.mpr ⟨lw_p68, List.forall_mem_cons.mpr ⟨lw_p69, List.forall_mem_cons.mpr ⟨lw_p70, List.forall_mem_cons.mpr ⟨lw_p71, List.forall_mem_cons.mpr ⟨lw_p72, List.forall_mem_cons.mpr ⟨lw_p73, List.forall_mem_cons.mpr ⟨lw_p74, List.forall_mem_cons.mpr ⟨lw_p75, List.forall_mem_cons.mpr ⟨lw_p76, List.forall_mem_cons.mpr ⟨lw_p77, List.forall_mem_cons.mpr ⟨lw_p78, List.forall_mem_cons.mpr ⟨lw_p79, fun _ h => absurd h List.not_mem_nil⟩⟩⟩⟩⟩⟩⟩⟩⟩⟩⟩⟩⟩⟩⟩⟩
theorem lw_p80 : lw_okq (⟨"PeatBogModel", "test", "(Z)Z"⟩, 32) := ⟨⟨by decide +kernel, by decide +kernel⟩, List.mem_of_getElem? (i := 1050) (by decide +kernel), List.mem_of_getElem? (i := 1342) (by decide +kernel), List.mem_of_getElem? (i := 1343) (by decide +kernel)⟩
theorem lw_p81 : lw_okq (⟨"PeatBogModel", "both", "()Z"⟩, 32) := ⟨⟨by decide +kernel, by decide +kernel⟩, List.mem_of_getElem? (i := 1050) (by decide +kernel), List.mem_of_getElem? (i := 1346) (by decide +kernel), List.mem_of_getElem? (i := 1347) (by decide +kernel)⟩
theorem lw_p82 : lw_okq (⟨"PeatBogModel", "single", "()Z"⟩, 32) := ⟨⟨by decide +kernel, by decide +kernel⟩, List.mem_of_getElem? (i := 1050) (by decide +kernel), List.mem_of_getElem? (i := 1350) (by decide +kernel), List.mem_of_getElem? (i := 1351) (by decide +kernel)⟩
theorem lw_p83 : lw_okq (⟨"PeatBogModel", "repeat", "()Z"⟩, 32) := ⟨⟨by decide +kernel, by decide +kernel⟩, List.mem_of_getElem? (i := 1050) (by decide +kernel), List.mem_of_getElem? (i := 1354) (by decide +kernel), List.mem_of_getElem? (i := 1355) (by decide +kernel)⟩
theorem lw_p84 : lw_okq (⟨"PeatBogModel", "loop", "()Z"⟩, 32) := ⟨⟨by decide +kernel, by decide +kernel⟩, List.mem_of_getElem? (i := 1050) (by decide +kernel), List.mem_of_getElem? (i := 1358) (by decide +kernel), List.mem_of_getElem? (i := 1359) (by decide +kernel)⟩
theorem lw_p85 : lw_okq (⟨"PeatBogModel", "learn", "()V"⟩, 32) := ⟨⟨by decide +kernel, by decide +kernel⟩, List.mem_of_getElem? (i := 1050) (by decide +kernel), List.mem_of_getElem? (i := 1362) (by decide +kernel), List.mem_of_getElem? (i := 1363) (by decide +kernel)⟩
theorem lw_p86 : lw_okq (⟨"PeatBogModel", "counted", "(I)I"⟩, 32) := ⟨⟨by decide +kernel, by decide +kernel⟩, List.mem_of_getElem? (i := 1050) (by decide +kernel), List.mem_of_getElem? (i := 1375) (by decide +kernel), List.mem_of_getElem? (i := 1376) (by decide +kernel)⟩
theorem lw_p87 : lw_okq (⟨"PeatBogModel", "carts", "()I"⟩, 32) := ⟨⟨by decide +kernel, by decide +kernel⟩, List.mem_of_getElem? (i := 1050) (by decide +kernel), List.mem_of_getElem? (i := 1383) (by decide +kernel), List.mem_of_getElem? (i := 1384) (by decide +kernel)⟩
theorem lw_p88 : lw_okq (⟨"PeatBogModel", "cellTold", "(II)I"⟩, 32) := ⟨⟨by decide +kernel, by decide +kernel⟩, List.mem_of_getElem? (i := 1050) (by decide +kernel), List.mem_of_getElem? (i := 1410) (by decide +kernel), List.mem_of_getElem? (i := 1411) (by decide +kernel)⟩
theorem lw_p89 : lw_okq (⟨"PeatBogModel", "gangTold", "(II)I"⟩, 32) := ⟨⟨by decide +kernel, by decide +kernel⟩, List.mem_of_getElem? (i := 1050) (by decide +kernel), List.mem_of_getElem? (i := 1418) (by decide +kernel), List.mem_of_getElem? (i := 1419) (by decide +kernel)⟩
theorem lw_p90 : lw_okq (⟨"PeatBogModel", "hours", "(LPeatBogModel$State;I)V"⟩, 32) := ⟨⟨by decide +kernel, by decide +kernel⟩, List.mem_of_getElem? (i := 1050) (by decide +kernel), List.mem_of_getElem? (i := 1426) (by decide +kernel), List.mem_of_getElem? (i := 1427) (by decide +kernel)⟩
theorem lw_p91 : lw_okq (⟨"PeatBogModel", "hour", "(LPeatBogModel$State;)V"⟩, 32) := ⟨⟨by decide +kernel, by decide +kernel⟩, List.mem_of_getElem? (i := 1050) (by decide +kernel), List.mem_of_getElem? (i := 1430) (by decide +kernel), List.mem_of_getElem? (i := 1431) (by decide +kernel)⟩
theorem lw_p92 : lw_okq (⟨"PeatBogModel", "work", "(LPeatBogModel$State;I)V"⟩, 32) := ⟨⟨by decide +kernel, by decide +kernel⟩, List.mem_of_getElem? (i := 1050) (by decide +kernel), List.mem_of_getElem? (i := 1434) (by decide +kernel), List.mem_of_getElem? (i := 1435) (by decide +kernel)⟩
theorem lw_p93 : lw_okq (⟨"PeatBogModel", "isThere", "(LPeatBogModel$State;II)Z"⟩, 32) := ⟨⟨by decide +kernel, by decide +kernel⟩, List.mem_of_getElem? (i := 1050) (by decide +kernel), List.mem_of_getElem? (i := 1438) (by decide +kernel), List.mem_of_getElem? (i := 1439) (by decide +kernel)⟩
theorem lw_p94 : lw_okq (⟨"PeatBogModel", "reckon", "(LPeatBogModel$State;II)I"⟩, 32) := ⟨⟨by decide +kernel, by decide +kernel⟩, List.mem_of_getElem? (i := 1050) (by decide +kernel), List.mem_of_getElem? (i := 1442) (by decide +kernel), List.mem_of_getElem? (i := 1443) (by decide +kernel)⟩
theorem lw_p95 : lw_okq (⟨"PeatBogModel", "told", "(LPeatBogModel$State;II)I"⟩, 32) := ⟨⟨by decide +kernel, by decide +kernel⟩, List.mem_of_getElem? (i := 1050) (by decide +kernel), List.mem_of_getElem? (i := 1446) (by decide +kernel), List.mem_of_getElem? (i := 1447) (by decide +kernel)⟩
def lw_privs_6 : List (MethodName × Nat) := [(⟨"PeatBogModel", "test", "(Z)Z"⟩, 32), (⟨"PeatBogModel", "both", "()Z"⟩, 32), (⟨"PeatBogModel", "single", "()Z"⟩, 32), (⟨"PeatBogModel", "repeat", "()Z"⟩, 32), (⟨"PeatBogModel", "loop", "()Z"⟩, 32), (⟨"PeatBogModel", "learn", "()V"⟩, 32), (⟨"PeatBogModel", "counted", "(I)I"⟩, 32), (⟨"PeatBogModel", "carts", "()I"⟩, 32), (⟨"PeatBogModel", "cellTold", "(II)I"⟩, 32), (⟨"PeatBogModel", "gangTold", "(II)I"⟩, 32), (⟨"PeatBogModel", "hours", "(LPeatBogModel$State;I)V"⟩, 32), (⟨"PeatBogModel", "hour", "(LPeatBogModel$State;)V"⟩, 32), (⟨"PeatBogModel", "work", "(LPeatBogModel$State;I)V"⟩, 32), (⟨"PeatBogModel", "isThere", "(LPeatBogModel$State;II)Z"⟩, 32), (⟨"PeatBogModel", "reckon", "(LPeatBogModel$State;II)I"⟩, 32), (⟨"PeatBogModel", "told", "(LPeatBogModel$State;II)I"⟩, 32)]
theorem lw_r6 : ∀ q ∈ lw_privs_6, lw_okq q := List.forall_mem_cons.mpr ⟨lw_p80, List.forall_mem_cons.mpr ⟨lw_p81, List.forall_mem_cons.mpr ⟨lw_p82, List.forall_mem_cons.mpr ⟨lw_p83, List.forall_mem_cons.mpr ⟨lw_p84, List.forall_mem_cons.mpr ⟨lw_p85, List.forall_mem_cons.mpr ⟨lw_p86, List.forall_mem_cons.mpr ⟨lw_p87, List.forall_mem_cons.mpr ⟨lw_p88, List.forall_mem_cons.mpr ⟨lw_p89, List.forall_mem_cons.mpr ⟨lw_p90, List.forall_mem_cons.mpr ⟨lw_p91, List.forall_mem_cons.mpr ⟨lw_p92, List.forall_mem_cons.mpr ⟨lw_p93, List.forall_mem_cons.mpr ⟨lw_p94, List.forall_mem_cons.mpr ⟨lw_p95, fun _ h => absurd h List.not_mem_nil⟩⟩⟩⟩⟩⟩⟩⟩⟩⟩⟩⟩⟩⟩⟩⟩
theorem lw_p96 : lw_okq (⟨"PeatBogModel", "act", "(LPeatBogModel$State;III)V"⟩, 32) := ⟨⟨by decide +kernel, by decide +kernel⟩, List.mem_of_getElem? (i := 1050) (by decide +kernel), List.mem_of_getElem? (i := 1458) (by decide +kernel), List.mem_of_getElem? (i := 1459) (by decide +kernel)⟩
theorem lw_p97 : lw_okq (⟨"PeatBogModel", "go", "(LPeatBogModel$State;II)Z"⟩, 32) := ⟨⟨by decide +kernel, by decide +kernel⟩, List.mem_of_getElem? (i := 1050) (by decide +kernel), List.mem_of_getElem? (i := 1462) (by decide +kernel), List.mem_of_getElem? (i := 1463) (by decide +kernel)⟩
theorem lw_p98 : lw_okq (⟨"PeatBogModel", "unload", "(LPeatBogModel$State;II)Z"⟩, 32) := ⟨⟨by decide +kernel, by decide +kernel⟩, List.mem_of_getElem? (i := 1050) (by decide +kernel), List.mem_of_getElem? (i := 1469) (by decide +kernel), List.mem_of_getElem? (i := 1470) (by decide +kernel)⟩
theorem lw_p99 : lw_okq (⟨"PeatBogModel", "cut", "(LPeatBogModel$State;II)Z"⟩, 32) := ⟨⟨by decide +kernel, by decide +kernel⟩, List.mem_of_getElem? (i := 1050) (by decide +kernel), List.mem_of_getElem? (i := 1473) (by decide +kernel), List.mem_of_getElem? (i := 1474) (by decide +kernel)⟩
theorem lw_p100 : lw_okq (⟨"PeatBogModel", "load", "(LPeatBogModel$State;III)Z"⟩, 32) := ⟨⟨by decide +kernel, by decide +kernel⟩, List.mem_of_getElem? (i := 1050) (by decide +kernel), List.mem_of_getElem? (i := 1477) (by decide +kernel), List.mem_of_getElem? (i := 1478) (by decide +kernel)⟩
theorem lw_p101 : lw_okq (⟨"PeatBogModel", "goOn", "(LPeatBogModel$State;III)V"⟩, 32) := ⟨⟨by decide +kernel, by decide +kernel⟩, List.mem_of_getElem? (i := 1050) (by decide +kernel), List.mem_of_getElem? (i := 1485) (by decide +kernel), List.mem_of_getElem? (i := 1486) (by decide +kernel)⟩
theorem lw_p102 : lw_okq (⟨"PeatBogModel", "night", "(LPeatBogModel$State;)V"⟩, 32) := ⟨⟨by decide +kernel, by decide +kernel⟩, List.mem_of_getElem? (i := 1050) (by decide +kernel), List.mem_of_getElem? (i := 1489) (by decide +kernel), List.mem_of_getElem? (i := 1490) (by decide +kernel)⟩
theorem lw_p103 : lw_okq (⟨"PeatBogModel", "behindNight", "(III)I"⟩, 32) := ⟨⟨by decide +kernel, by decide +kernel⟩, List.mem_of_getElem? (i := 1050) (by decide +kernel), List.mem_of_getElem? (i := 1493) (by decide +kernel), List.mem_of_getElem? (i := 1494) (by decide +kernel)⟩
theorem lw_p104 : lw_okq (⟨"PeatBogModel", "rise", "(LPeatBogModel$State;)V"⟩, 32) := ⟨⟨by decide +kernel, by decide +kernel⟩, List.mem_of_getElem? (i := 1050) (by decide +kernel), List.mem_of_getElem? (i := 1500) (by decide +kernel), List.mem_of_getElem? (i := 1501) (by decide +kernel)⟩
theorem lw_p105 : lw_okq (⟨"PeatBogModel", "withPeat", "(I)I"⟩, 32) := ⟨⟨by decide +kernel, by decide +kernel⟩, List.mem_of_getElem? (i := 1050) (by decide +kernel), List.mem_of_getElem? (i := 1504) (by decide +kernel), List.mem_of_getElem? (i := 1505) (by decide +kernel)⟩
theorem lw_p106 : lw_okq (⟨"PeatBogModel", "dryBehind", "(I)I"⟩, 32) := ⟨⟨by decide +kernel, by decide +kernel⟩, List.mem_of_getElem? (i := 1050) (by decide +kernel), List.mem_of_getElem? (i := 1532) (by decide +kernel), List.mem_of_getElem? (i := 1533) (by decide +kernel)⟩
theorem lw_p107 : lw_okq (⟨"PeatBogModel", "drawn", "(I)I"⟩, 32) := ⟨⟨by decide +kernel, by decide +kernel⟩, List.mem_of_getElem? (i := 1050) (by decide +kernel), List.mem_of_getElem? (i := 1540) (by decide +kernel), List.mem_of_getElem? (i := 1541) (by decide +kernel)⟩
theorem lw_p108 : lw_okq (⟨"PeatBogModel", "isGangIn", "(I)Z"⟩, 32) := ⟨⟨by decide +kernel, by decide +kernel⟩, List.mem_of_getElem? (i := 1050) (by decide +kernel), List.mem_of_getElem? (i := 1544) (by decide +kernel), List.mem_of_getElem? (i := 1545) (by decide +kernel)⟩
def lw_privs_7 : List (MethodName × Nat) := [(⟨"PeatBogModel", "act", "(LPeatBogModel$State;III)V"⟩, 32), (⟨"PeatBogModel", "go", "(LPeatBogModel$State;II)Z"⟩, 32), (⟨"PeatBogModel", "unload", "(LPeatBogModel$State;II)Z"⟩, 32), (⟨"PeatBogModel", "cut", "(LPeatBogModel$State;II)Z"⟩, 32), (⟨"PeatBogModel", "load", "(LPeatBogModel$State;III)Z"⟩, 32), (⟨"PeatBogModel", "goOn", "(LPeatBogModel$State;III)V"⟩, 32), (⟨"PeatBogModel", "night", "(LPeatBogModel$State;)V"⟩, 32), (⟨"PeatBogModel", "behindNight", "(III)I"⟩, 32), (⟨"PeatBogModel", "rise", "(LPeatBogModel$State;)V"⟩, 32), (⟨"PeatBogModel", "withPeat", "(I)I"⟩, 32), (⟨"PeatBogModel", "dryBehind", "(I)I"⟩, 32), (⟨"PeatBogModel", "drawn", "(I)I"⟩, 32), (⟨"PeatBogModel", "isGangIn", "(I)Z"⟩, 32)]
theorem lw_r7 : ∀ q ∈ lw_privs_7, lw_okq q := List.forall_mem_cons.mpr ⟨lw_p96, List.forall_mem_cons.mpr ⟨lw_p97, List.forall_mem_cons.mpr ⟨lw_p98, List.forall_mem_cons.mpr ⟨lw_p99, List.forall_mem_cons.mpr ⟨lw_p100, List.forall_mem_cons.mpr ⟨lw_p101, List.forall_mem_cons.mpr ⟨lw_p102, List.forall_mem_cons.mpr ⟨lw_p103, List.forall_mem_cons.mpr ⟨lw_p104, List.forall_mem_cons.mpr ⟨lw_p105, List.forall_mem_cons.mpr ⟨lw_p106, List.forall_mem_cons.mpr ⟨lw_p107, List.forall_mem_cons.mpr ⟨lw_p108, fun _ h => absurd h List.not_mem_nil⟩⟩⟩⟩⟩⟩⟩⟩⟩⟩⟩⟩⟩
def lw_privs : List (MethodName × Nat) := lw_privs_1 ++ (lw_privs_2 ++ (lw_privs_3 ++ (lw_privs_4 ++ (lw_privs_5 ++ (lw_privs_6 ++ (lw_privs_7))))))
def lw_tbl : List Cond := k2_sels lw_privs ++ tables_1
theorem lw_privs_ok : ∀ q ∈ lw_privs, lw_okq q := by
  show ∀ q ∈ lw_privs_1 ++ (lw_privs_2 ++ (lw_privs_3 ++ (lw_privs_4 ++ (lw_privs_5 ++ (lw_privs_6 ++ (lw_privs_7)))))), lw_okq q
  exact List.forall_mem_append.mpr ⟨lw_r1, List.forall_mem_append.mpr ⟨lw_r2, List.forall_mem_append.mpr ⟨lw_r3, List.forall_mem_append.mpr ⟨lw_r4, List.forall_mem_append.mpr ⟨lw_r5, List.forall_mem_append.mpr ⟨lw_r6, lw_r7⟩⟩⟩⟩⟩⟩
/-- the streams that the claim lets the run draw from -/
abbrev lw_cs : List Choice := [Jvm.Choice.named "NaN.bits"]
theorem lw_bits : nanBits ∈ lw_cs := by first | decide | exact List.mem_cons_self | simp [lw_cs, nanBits]
-- ===== end of PART A; then your names; then what follows =====
def RX0 : String := "PeatBog$1"
def TX0 : u_T := fun k => match k with
  | _ => ("", "", "", false)
def tyX0 : Nat → FieldType := fun k => match k with
  | _ => .int
theorem nmX0 : ∀ a, a < 0 → ∀ b, b < 0 → a ≠ b → (TX0 a).2.1 ≠ (TX0 b).2.1 := by decide +kernel
theorem tyX0_ok : ∀ k, k < 0 → parseFieldDescriptor (TX0 k).2.2.1 = some (tyX0 k) := by decide +kernel
def RX1 : String := "PeatBog$Bog"
def TX1 : u_T := fun k => match k with
  | 0 => ("PeatBog$Bog", "peat", "[I", true)
  | 1 => ("PeatBog$Bog", "peatBefore", "[I", true)
  | 2 => ("PeatBog$Bog", "water", "[I", true)
  | 3 => ("PeatBog$Bog", "bricks", "[I", true)
  | 4 => ("PeatBog$Bog", "wetness", "[I", true)
  | 5 => ("PeatBog$Bog", "turned", "[I", true)
  | 6 => ("PeatBog$Bog", "rain", "[I", true)
  | 7 => ("PeatBog$Bog", "sun", "[I", true)
  | 8 => ("PeatBog$Bog", "day", "I", false)
  | 9 => ("PeatBog$Bog", "hour", "I", false)
  | 10 => ("PeatBog$Bog", "dryBricks", "I", false)
  | 11 => ("PeatBog$Bog", "wetBricks", "I", false)
  | 12 => ("PeatBog$Bog", "crumbled", "I", false)
  | 13 => ("PeatBog$Bog", "cutBricks", "I", false)
  | 14 => ("PeatBog$Bog", "gangs", "[LPeatBog$Gang;", true)
  | 15 => ("PeatBog$Bog", "gangCount", "I", false)
  | _ => ("PeatBog$Bog", "program", "LPeatBog$Program;", false)
def tyX1 : Nat → FieldType := fun k => match k with
  | 0 => .array .int
  | 1 => .array .int
  | 2 => .array .int
  | 3 => .array .int
  | 4 => .array .int
  | 5 => .array .int
  | 6 => .array .int
  | 7 => .array .int
  | 8 => .int
  | 9 => .int
  | 10 => .int
  | 11 => .int
  | 12 => .int
  | 13 => .int
  | 14 => .array (.object "PeatBog$Gang")
  | 15 => .int
  | _ => .object "PeatBog$Program"
theorem nmX1 : ∀ a, a < 17 → ∀ b, b < 17 → a ≠ b → (TX1 a).2.1 ≠ (TX1 b).2.1 := by decide +kernel
theorem tyX1_ok : ∀ k, k < 17 → parseFieldDescriptor (TX1 k).2.2.1 = some (tyX1 k) := by decide +kernel
abbrev cX1_init : ByteArray := prog_3_method_1_code
def yX1_init : MethodName := ⟨RX1, "<init>", "(LPeatBog$Program;)V"⟩
abbrev cX1_copy : ByteArray := prog_3_method_2_code
def yX1_copy : MethodName := ⟨RX1, "copy", "(LPeatBog$Bog;)V"⟩
abbrev cX1_employ : ByteArray := prog_3_method_3_code
def yX1_employ : MethodName := ⟨RX1, "employ", "(LPeatBog$Program;)V"⟩
abbrev cX1_rainOfDay : ByteArray := prog_3_method_4_code
def yX1_rainOfDay : MethodName := ⟨RX1, "rainOfDay", "()I"⟩
abbrev cX1_sunOfDay : ByteArray := prog_3_method_5_code
def yX1_sunOfDay : MethodName := ⟨RX1, "sunOfDay", "()I"⟩
abbrev cX1_bricksInCarts : ByteArray := prog_3_method_6_code
def yX1_bricksInCarts : MethodName := ⟨RX1, "bricksInCarts", "()I"⟩
abbrev cX1_floodedCells : ByteArray := prog_3_method_7_code
def yX1_floodedCells : MethodName := ⟨RX1, "floodedCells", "()I"⟩
abbrev cX1_hasGangAt : ByteArray := prog_3_method_8_code
def yX1_hasGangAt : MethodName := ⟨RX1, "hasGangAt", "(I)Z"⟩
abbrev cX1_tellCell : ByteArray := prog_3_method_9_code
def yX1_tellCell : MethodName := ⟨RX1, "tellCell", "(II)I"⟩
abbrev cX1_addToStack : ByteArray := prog_3_method_10_code
def yX1_addToStack : MethodName := ⟨RX1, "addToStack", "(III)V"⟩
abbrev cX1_takeFromStack : ByteArray := prog_3_method_11_code
def yX1_takeFromStack : MethodName := ⟨RX1, "takeFromStack", "(II)V"⟩
abbrev cX1_endHour : ByteArray := prog_3_method_12_code
def yX1_endHour : MethodName := ⟨RX1, "endHour", "()V"⟩
abbrev cX1_dryStacks : ByteArray := prog_3_method_13_code
def yX1_dryStacks : MethodName := ⟨RX1, "dryStacks", "()V"⟩
abbrev cX1_moveWater : ByteArray := prog_3_method_14_code
def yX1_moveWater : MethodName := ⟨RX1, "moveWater", "()V"⟩
abbrev cX1_rise : ByteArray := prog_3_method_15_code
def yX1_rise : MethodName := ⟨RX1, "rise", "()V"⟩
abbrev cX1_neighboursWithPeat : ByteArray := prog_3_method_16_code
def yX1_neighboursWithPeat : MethodName := ⟨RX1, "neighboursWithPeat", "(I)I"⟩
def RX2 : String := "PeatBog$Gang"
def TX2 : u_T := fun k => match k with
  | 0 => ("PeatBog$Gang", "x", "I", false)
  | 1 => ("PeatBog$Gang", "y", "I", false)
  | 2 => ("PeatBog$Gang", "cart", "I", false)
  | 3 => ("PeatBog$Gang", "damp", "I", false)
  | 4 => ("PeatBog$Gang", "isDone", "Z", false)
  | 5 => ("PeatBog$Gang", "idleHours", "I", false)
  | 6 => ("PeatBog$Gang", "missedHours", "I", false)
  | 7 => ("PeatBog$Gang", "allHours", "I", false)
  | 8 => ("PeatBog$Gang", "waitingHours", "I", false)
  | 9 => ("PeatBog$Gang", "next", "I", false)
  | _ => ("PeatBog$Gang", "repeats", "[I", true)
def tyX2 : Nat → FieldType := fun k => match k with
  | 0 => .int
  | 1 => .int
  | 2 => .int
  | 3 => .int
  | 4 => .boolean
  | 5 => .int
  | 6 => .int
  | 7 => .int
  | 8 => .int
  | 9 => .int
  | _ => .array .int
theorem nmX2 : ∀ a, a < 11 → ∀ b, b < 11 → a ≠ b → (TX2 a).2.1 ≠ (TX2 b).2.1 := by decide +kernel
theorem tyX2_ok : ∀ k, k < 11 → parseFieldDescriptor (TX2 k).2.2.1 = some (tyX2 k) := by decide +kernel
abbrev cX2_init : ByteArray := prog_4_method_1_code
def yX2_init : MethodName := ⟨RX2, "<init>", "()V"⟩
abbrev cX2_begin : ByteArray := prog_4_method_2_code
def yX2_begin : MethodName := ⟨RX2, "begin", "(III)V"⟩
abbrev cX2_copy : ByteArray := prog_4_method_3_code
def yX2_copy : MethodName := ⟨RX2, "copy", "(LPeatBog$Gang;)V"⟩
abbrev cX2_addToCart : ByteArray := prog_4_method_4_code
def yX2_addToCart : MethodName := ⟨RX2, "addToCart", "(II)V"⟩
abbrev cX2_takeFromCart : ByteArray := prog_4_method_5_code
def yX2_takeFromCart : MethodName := ⟨RX2, "takeFromCart", "(I)V"⟩
abbrev cX2_tell : ByteArray := prog_4_method_6_code
def yX2_tell : MethodName := ⟨RX2, "tell", "(I)I"⟩
def RX3 : String := "PeatBog$Op"
def TX3 : u_T := fun k => match k with
  | _ => ("", "", "", false)
def tyX3 : Nat → FieldType := fun k => match k with
  | _ => .int
theorem nmX3 : ∀ a, a < 0 → ∀ b, b < 0 → a ≠ b → (TX3 a).2.1 ≠ (TX3 b).2.1 := by decide +kernel
theorem tyX3_ok : ∀ k, k < 0 → parseFieldDescriptor (TX3 k).2.2.1 = some (tyX3 k) := by decide +kernel
def RX4 : String := "PeatBog$Parser"
def TX4 : u_T := fun k => match k with
  | 0 => ("PeatBog$Parser", "scanner", "LPeatBog$Scanner;", true)
  | 1 => ("PeatBog$Parser", "names", "[I", true)
  | 2 => ("PeatBog$Parser", "nameCount", "I", false)
  | 3 => ("PeatBog$Parser", "program", "LPeatBog$Program;", false)
  | 4 => ("PeatBog$Parser", "at", "I", false)
  | 5 => ("PeatBog$Parser", "error", "I", false)
  | _ => ("PeatBog$Parser", "errorPosition", "I", false)
def tyX4 : Nat → FieldType := fun k => match k with
  | 0 => .object "PeatBog$Scanner"
  | 1 => .array .int
  | 2 => .int
  | 3 => .object "PeatBog$Program"
  | 4 => .int
  | 5 => .int
  | _ => .int
theorem nmX4 : ∀ a, a < 7 → ∀ b, b < 7 → a ≠ b → (TX4 a).2.1 ≠ (TX4 b).2.1 := by decide +kernel
theorem tyX4_ok : ∀ k, k < 7 → parseFieldDescriptor (TX4 k).2.2.1 = some (tyX4 k) := by decide +kernel
abbrev cX4_init : ByteArray := prog_6_method_1_code
def yX4_init : MethodName := ⟨RX4, "<init>", "()V"⟩
abbrev cX4_parse : ByteArray := prog_6_method_2_code
def yX4_parse : MethodName := ⟨RX4, "parse", "([BILPeatBog$Program;)V"⟩
abbrev cX4_kind : ByteArray := prog_6_method_3_code
def yX4_kind : MethodName := ⟨RX4, "kind", "()LPeatBog$Token;"⟩
abbrev cX4_refuse : ByteArray := prog_6_method_4_code
def yX4_refuse : MethodName := ⟨RX4, "refuse", "()Z"⟩
abbrev cX4_note : ByteArray := prog_6_method_5_code
def yX4_note : MethodName := ⟨RX4, "note", "(II)V"⟩
abbrev cX4_expect : ByteArray := prog_6_method_6_code
def yX4_expect : MethodName := ⟨RX4, "expect", "(LPeatBog$Token;)Z"⟩
abbrev cX4_enter : ByteArray := prog_6_method_7_code
def yX4_enter : MethodName := ⟨RX4, "enter", "(LPeatBog$Token;I)Z"⟩
abbrev cX4_oneGang : ByteArray := prog_6_method_8_code
def yX4_oneGang : MethodName := ⟨RX4, "oneGang", "()Z"⟩
abbrev cX4_noteName : ByteArray := prog_6_method_9_code
def yX4_noteName : MethodName := ⟨RX4, "noteName", "(I)V"⟩
abbrev cX4_limitedNumber : ByteArray := prog_6_method_10_code
def yX4_limitedNumber : MethodName := ⟨RX4, "limitedNumber", "(I)Z"⟩
abbrev cX4_block : ByteArray := prog_6_method_11_code
def yX4_block : MethodName := ⟨RX4, "block", "(I)Z"⟩
abbrev cX4_sentence : ByteArray := prog_6_method_12_code
def yX4_sentence : MethodName := ⟨RX4, "sentence", "(I)Z"⟩
abbrev cX4_end : ByteArray := prog_6_method_13_code
def yX4_end : MethodName := ⟨RX4, "end", "(I)Z"⟩
abbrev cX4_choice : ByteArray := prog_6_method_14_code
def yX4_choice : MethodName := ⟨RX4, "choice", "(I)Z"⟩
abbrev cX4_testedLoop : ByteArray := prog_6_method_15_code
def yX4_testedLoop : MethodName := ⟨RX4, "testedLoop", "(I)Z"⟩
abbrev cX4_countedLoop : ByteArray := prog_6_method_16_code
def yX4_countedLoop : MethodName := ⟨RX4, "countedLoop", "(I)Z"⟩
abbrev cX4_test : ByteArray := prog_6_method_17_code
def yX4_test : MethodName := ⟨RX4, "test", "(I)Z"⟩
abbrev cX4_both : ByteArray := prog_6_method_18_code
def yX4_both : MethodName := ⟨RX4, "both", "(I)Z"⟩
abbrev cX4_single : ByteArray := prog_6_method_19_code
def yX4_single : MethodName := ⟨RX4, "single", "(I)Z"⟩
abbrev cX4_sum : ByteArray := prog_6_method_20_code
def yX4_sum : MethodName := ⟨RX4, "sum", "(I)Z"⟩
abbrev cX4_product : ByteArray := prog_6_method_21_code
def yX4_product : MethodName := ⟨RX4, "product", "(I)Z"⟩
abbrev cX4_value : ByteArray := prog_6_method_22_code
def yX4_value : MethodName := ⟨RX4, "value", "(I)Z"⟩
def RX5 : String := "PeatBog$Program"
def TX5 : u_T := fun k => match k with
  | 0 => ("PeatBog$Program", "ops", "[I", true)
  | 1 => ("PeatBog$Program", "arguments", "[I", true)
  | 2 => ("PeatBog$Program", "length", "I", false)
  | 3 => ("PeatBog$Program", "entries", "[I", true)
  | 4 => ("PeatBog$Program", "xs", "[I", true)
  | 5 => ("PeatBog$Program", "ys", "[I", true)
  | _ => ("PeatBog$Program", "gangCount", "I", false)
def tyX5 : Nat → FieldType := fun k => match k with
  | 0 => .array .int
  | 1 => .array .int
  | 2 => .int
  | 3 => .array .int
  | 4 => .array .int
  | 5 => .array .int
  | _ => .int
theorem nmX5 : ∀ a, a < 7 → ∀ b, b < 7 → a ≠ b → (TX5 a).2.1 ≠ (TX5 b).2.1 := by decide +kernel
theorem tyX5_ok : ∀ k, k < 7 → parseFieldDescriptor (TX5 k).2.2.1 = some (tyX5 k) := by decide +kernel
abbrev cX5_init : ByteArray := prog_7_method_1_code
def yX5_init : MethodName := ⟨RX5, "<init>", "()V"⟩
abbrev cX5_clear : ByteArray := prog_7_method_2_code
def yX5_clear : MethodName := ⟨RX5, "clear", "()V"⟩
abbrev cX5_addGang : ByteArray := prog_7_method_3_code
def yX5_addGang : MethodName := ⟨RX5, "addGang", "(II)V"⟩
abbrev cX5_emit : ByteArray := prog_7_method_4_code
def yX5_emit : MethodName := ⟨RX5, "emit", "(II)Z"⟩
abbrev cX5_leadHere : ByteArray := prog_7_method_5_code
def yX5_leadHere : MethodName := ⟨RX5, "leadHere", "(I)V"⟩
abbrev cX5_opAt : ByteArray := prog_7_method_6_code
def yX5_opAt : MethodName := ⟨RX5, "opAt", "(I)I"⟩
abbrev cX5_argumentAt : ByteArray := prog_7_method_7_code
def yX5_argumentAt : MethodName := ⟨RX5, "argumentAt", "(I)I"⟩
def RX6 : String := "PeatBog$Scanner"
def TX6 : u_T := fun k => match k with
  | 0 => ("PeatBog$Scanner", "kinds", "[LPeatBog$Token;", true)
  | 1 => ("PeatBog$Scanner", "starts", "[I", true)
  | 2 => ("PeatBog$Scanner", "ends", "[I", true)
  | 3 => ("PeatBog$Scanner", "tape", "[B", false)
  | _ => ("PeatBog$Scanner", "length", "I", false)
def tyX6 : Nat → FieldType := fun k => match k with
  | 0 => .array (.object "PeatBog$Token")
  | 1 => .array .int
  | 2 => .array .int
  | 3 => .array .byte
  | _ => .int
theorem nmX6 : ∀ a, a < 5 → ∀ b, b < 5 → a ≠ b → (TX6 a).2.1 ≠ (TX6 b).2.1 := by decide +kernel
theorem tyX6_ok : ∀ k, k < 5 → parseFieldDescriptor (TX6 k).2.2.1 = some (tyX6 k) := by decide +kernel
abbrev cX6_init : ByteArray := prog_8_method_1_code
def yX6_init : MethodName := ⟨RX6, "<init>", "()V"⟩
abbrev cX6_scan : ByteArray := prog_8_method_2_code
def yX6_scan : MethodName := ⟨RX6, "scan", "([BI)V"⟩
abbrev cX6_behindBlanks : ByteArray := prog_8_method_3_code
def yX6_behindBlanks : MethodName := ⟨RX6, "behindBlanks", "(I)I"⟩
abbrev cX6_scanToken : ByteArray := prog_8_method_4_code
def yX6_scanToken : MethodName := ⟨RX6, "scanToken", "(I)LPeatBog$Token;"⟩
abbrev cX6_scanSymbol : ByteArray := prog_8_method_5_code
def yX6_scanSymbol : MethodName := ⟨RX6, "scanSymbol", "(I)LPeatBog$Token;"⟩
abbrev cX6_behindWord : ByteArray := prog_8_method_6_code
def yX6_behindWord : MethodName := ⟨RX6, "behindWord", "(I)I"⟩
abbrev cX6_behindDigits : ByteArray := prog_8_method_7_code
def yX6_behindDigits : MethodName := ⟨RX6, "behindDigits", "(I)I"⟩
abbrev cX6_isLetter : ByteArray := prog_8_method_8_code
def yX6_isLetter : MethodName := ⟨RX6, "isLetter", "(I)Z"⟩
abbrev cX6_isDigit : ByteArray := prog_8_method_9_code
def yX6_isDigit : MethodName := ⟨RX6, "isDigit", "(I)Z"⟩
abbrev cX6_kindOf : ByteArray := prog_8_method_10_code
def yX6_kindOf : MethodName := ⟨RX6, "kindOf", "(I)LPeatBog$Token;"⟩
abbrev cX6_startOf : ByteArray := prog_8_method_11_code
def yX6_startOf : MethodName := ⟨RX6, "startOf", "(I)I"⟩
abbrev cX6_endOf : ByteArray := prog_8_method_12_code
def yX6_endOf : MethodName := ⟨RX6, "endOf", "(I)I"⟩
abbrev cX6_numberAt : ByteArray := prog_8_method_13_code
def yX6_numberAt : MethodName := ⟨RX6, "numberAt", "(I)I"⟩
abbrev cX6_isSameText : ByteArray := prog_8_method_14_code
def yX6_isSameText : MethodName := ⟨RX6, "isSameText", "(II)Z"⟩
def RX7 : String := "PeatBog$Token"
def TX7 : u_T := fun k => match k with
  | _ => ("", "", "", false)
def tyX7 : Nat → FieldType := fun k => match k with
  | _ => .int
theorem nmX7 : ∀ a, a < 0 → ∀ b, b < 0 → a ≠ b → (TX7 a).2.1 ≠ (TX7 b).2.1 := by decide +kernel
theorem tyX7_ok : ∀ k, k < 0 → parseFieldDescriptor (TX7 k).2.2.1 = some (tyX7 k) := by decide +kernel
abbrev cX7_find : ByteArray := prog_9_method_5_code
def yX7_find : MethodName := ⟨RX7, "find", "([BIILPeatBog$Token;)LPeatBog$Token;"⟩
abbrev cX7_isWritten : ByteArray := prog_9_method_6_code
def yX7_isWritten : MethodName := ⟨RX7, "isWritten", "([BII)Z"⟩
def RX8 : String := "PeatBog$Worker"
def TX8 : u_T := fun k => match k with
  | 0 => ("PeatBog$Worker", "bog", "LPeatBog$Bog;", true)
  | 1 => ("PeatBog$Worker", "gang", "LPeatBog$Gang;", false)
  | 2 => ("PeatBog$Worker", "values", "[I", true)
  | 3 => ("PeatBog$Worker", "valueCount", "I", false)
  | _ => ("PeatBog$Worker", "counted", "I", false)
def tyX8 : Nat → FieldType := fun k => match k with
  | 0 => .object "PeatBog$Bog"
  | 1 => .object "PeatBog$Gang"
  | 2 => .array .int
  | 3 => .int
  | _ => .int
theorem nmX8 : ∀ a, a < 5 → ∀ b, b < 5 → a ≠ b → (TX8 a).2.1 ≠ (TX8 b).2.1 := by decide +kernel
theorem tyX8_ok : ∀ k, k < 5 → parseFieldDescriptor (TX8 k).2.2.1 = some (tyX8 k) := by decide +kernel
abbrev cX8_init : ByteArray := prog_10_method_1_code
def yX8_init : MethodName := ⟨RX8, "<init>", "(LPeatBog$Bog;)V"⟩
abbrev cX8_workHour : ByteArray := prog_10_method_2_code
def yX8_workHour : MethodName := ⟨RX8, "workHour", "(LPeatBog$Gang;)V"⟩
abbrev cX8_reckonSums : ByteArray := prog_10_method_3_code
def yX8_reckonSums : MethodName := ⟨RX8, "reckonSums", "()I"⟩
abbrev cX8_push : ByteArray := prog_10_method_4_code
def yX8_push : MethodName := ⟨RX8, "push", "(I)V"⟩
abbrev cX8_pop : ByteArray := prog_10_method_5_code
def yX8_pop : MethodName := ⟨RX8, "pop", "()I"⟩
abbrev cX8_reckon : ByteArray := prog_10_method_6_code
def yX8_reckon : MethodName := ⟨RX8, "reckon", "(II)V"⟩
abbrev cX8_read : ByteArray := prog_10_method_7_code
def yX8_read : MethodName := ⟨RX8, "read", "(I)I"⟩
abbrev cX8_join : ByteArray := prog_10_method_8_code
def yX8_join : MethodName := ⟨RX8, "join", "(III)I"⟩
abbrev cX8_carryOut : ByteArray := prog_10_method_9_code
def yX8_carryOut : MethodName := ⟨RX8, "carryOut", "(I)Z"⟩
abbrev cX8_isHourOver : ByteArray := prog_10_method_10_code
def yX8_isHourOver : MethodName := ⟨RX8, "isHourOver", "()Z"⟩
abbrev cX8_branch : ByteArray := prog_10_method_11_code
def yX8_branch : MethodName := ⟨RX8, "branch", "(II)Z"⟩
abbrev cX8_beginRepeat : ByteArray := prog_10_method_12_code
def yX8_beginRepeat : MethodName := ⟨RX8, "beginRepeat", "(II)Z"⟩
abbrev cX8_repeat : ByteArray := prog_10_method_13_code
def yX8_repeat : MethodName := ⟨RX8, "repeat", "(II)Z"⟩
abbrev cX8_go : ByteArray := prog_10_method_14_code
def yX8_go : MethodName := ⟨RX8, "go", "(I)Z"⟩
abbrev cX8_endHour : ByteArray := prog_10_method_15_code
def yX8_endHour : MethodName := ⟨RX8, "endHour", "(II)Z"⟩
abbrev cX8_cut : ByteArray := prog_10_method_16_code
def yX8_cut : MethodName := ⟨RX8, "cut", "(I)Z"⟩
abbrev cX8_turn : ByteArray := prog_10_method_17_code
def yX8_turn : MethodName := ⟨RX8, "turn", "(I)Z"⟩
abbrev cX8_load : ByteArray := prog_10_method_18_code
def yX8_load : MethodName := ⟨RX8, "load", "(I)Z"⟩
abbrev cX8_unload : ByteArray := prog_10_method_19_code
def yX8_unload : MethodName := ⟨RX8, "unload", "(I)Z"⟩
abbrev cX8_rest : ByteArray := prog_10_method_20_code
def yX8_rest : MethodName := ⟨RX8, "rest", "(I)Z"⟩
def RX9 : String := "PeatBog"
def TX9 : u_T := fun k => match k with
  | 0 => ("PeatBog", "tape", "[B", true)
  | 1 => ("PeatBog", "tapeLength", "I", false)
  | 2 => ("PeatBog", "paper", "[B", true)
  | 3 => ("PeatBog", "paperLength", "I", false)
  | 4 => ("PeatBog", "errorPosition", "I", false)
  | 5 => ("PeatBog", "parser", "LPeatBog$Parser;", true)
  | 6 => ("PeatBog", "spare", "LPeatBog$Program;", false)
  | 7 => ("PeatBog", "bog", "LPeatBog$Bog;", true)
  | 8 => ("PeatBog", "worker", "LPeatBog$Worker;", true)
  | 9 => ("PeatBog", "trial", "LPeatBog$Bog;", true)
  | _ => ("PeatBog", "trialWorker", "LPeatBog$Worker;", true)
def tyX9 : Nat → FieldType := fun k => match k with
  | 0 => .array .byte
  | 1 => .int
  | 2 => .array .byte
  | 3 => .int
  | 4 => .int
  | 5 => .object "PeatBog$Parser"
  | 6 => .object "PeatBog$Program"
  | 7 => .object "PeatBog$Bog"
  | 8 => .object "PeatBog$Worker"
  | 9 => .object "PeatBog$Bog"
  | _ => .object "PeatBog$Worker"
theorem nmX9 : ∀ a, a < 11 → ∀ b, b < 11 → a ≠ b → (TX9 a).2.1 ≠ (TX9 b).2.1 := by decide +kernel
theorem tyX9_ok : ∀ k, k < 11 → parseFieldDescriptor (TX9 k).2.2.1 = some (tyX9 k) := by decide +kernel
abbrev cX9_init : ByteArray := prog_1_method_1_code
def yX9_init : MethodName := ⟨RX9, "<init>", "()V"⟩
abbrev cX9_feed : ByteArray := prog_1_method_2_code
def yX9_feed : MethodName := ⟨RX9, "feed", "(IIIII)I"⟩
abbrev cX9_append : ByteArray := prog_1_method_3_code
def yX9_append : MethodName := ⟨RX9, "append", "(I)V"⟩
abbrev cX9_trim : ByteArray := prog_1_method_4_code
def yX9_trim : MethodName := ⟨RX9, "trim", "(I)I"⟩
abbrev cX9_teach : ByteArray := prog_1_method_5_code
def yX9_teach : MethodName := ⟨RX9, "teach", "()I"⟩
abbrev cX9_errorAt : ByteArray := prog_1_method_6_code
def yX9_errorAt : MethodName := ⟨RX9, "errorAt", "()I"⟩
abbrev cX9_count : ByteArray := prog_1_method_7_code
def yX9_count : MethodName := ⟨RX9, "count", "(I)I"⟩
abbrev cX9_counted : ByteArray := prog_1_method_8_code
def yX9_counted : MethodName := ⟨RX9, "counted", "(I)I"⟩
abbrev cX9_sumOf : ByteArray := prog_1_method_9_code
def yX9_sumOf : MethodName := ⟨RX9, "sumOf", "([I)I"⟩
abbrev cX9_setWeather : ByteArray := prog_1_method_10_code
def yX9_setWeather : MethodName := ⟨RX9, "setWeather", "(III)I"⟩
abbrev cX9_set : ByteArray := prog_1_method_11_code
def yX9_set : MethodName := ⟨RX9, "set", "(IIII)I"⟩
abbrev cX9_stack : ByteArray := prog_1_method_12_code
def yX9_stack : MethodName := ⟨RX9, "stack", "(IIII)I"⟩
abbrev cX9_cell : ByteArray := prog_1_method_13_code
def yX9_cell : MethodName := ⟨RX9, "cell", "(III)I"⟩
abbrev cX9_gang : ByteArray := prog_1_method_14_code
def yX9_gang : MethodName := ⟨RX9, "gang", "(II)I"⟩
abbrev cX9_isWithin : ByteArray := prog_1_method_15_code
def yX9_isWithin : MethodName := ⟨RX9, "isWithin", "(III)Z"⟩
abbrev cX9_isCell : ByteArray := prog_1_method_16_code
def yX9_isCell : MethodName := ⟨RX9, "isCell", "(II)Z"⟩
abbrev cX9_cellAt : ByteArray := prog_1_method_17_code
def yX9_cellAt : MethodName := ⟨RX9, "cellAt", "(II)I"⟩
abbrev cX9_pass : ByteArray := prog_1_method_18_code
def yX9_pass : MethodName := ⟨RX9, "pass", "(I)I"⟩
abbrev cX9_letPass : ByteArray := prog_1_method_19_code
def yX9_letPass : MethodName := ⟨RX9, "letPass", "(LPeatBog$Worker;I)V"⟩
abbrev cX9_foresee : ByteArray := prog_1_method_20_code
def yX9_foresee : MethodName := ⟨RX9, "foresee", "(II)I"⟩
abbrev cX9_dries : ByteArray := prog_1_method_21_code
def yX9_dries : MethodName := ⟨RX9, "dries", "(II)I"⟩
abbrev cX9_wetnessBehindNight : ByteArray := prog_1_method_22_code
def yX9_wetnessBehindNight : MethodName := ⟨RX9, "wetnessBehindNight", "(IZII)I"⟩
abbrev cX9_held : ByteArray := prog_1_method_23_code
def yX9_held : MethodName := ⟨RX9, "held", "(II)I"⟩
abbrev cX9_done : ByteArray := prog_1_method_24_code
def yX9_done : MethodName := ⟨RX9, "done", "(I)I"⟩
abbrev cX9_advise : ByteArray := prog_1_method_25_code
def yX9_advise : MethodName := ⟨RX9, "advise", "(I)I"⟩
abbrev cX9_draw : ByteArray := prog_1_method_26_code
def yX9_draw : MethodName := ⟨RX9, "draw", "()I"⟩
abbrev cX9_signOf : ByteArray := prog_1_method_27_code
def yX9_signOf : MethodName := ⟨RX9, "signOf", "(I)C"⟩
abbrev cX9_byteAt : ByteArray := prog_1_method_28_code
def yX9_byteAt : MethodName := ⟨RX9, "byteAt", "(I)I"⟩
abbrev cX9_share : ByteArray := prog_1_method_29_code
def yX9_share : MethodName := ⟨RX9, "share", "()D"⟩
abbrev cX9_digest : ByteArray := prog_1_method_30_code
def yX9_digest : MethodName := ⟨RX9, "digest", "()J"⟩
abbrev cX9_mixed : ByteArray := prog_1_method_31_code
def yX9_mixed : MethodName := ⟨RX9, "mixed", "(IIII)I"⟩
def RX10 : String := "PeatBogModel$State"
def TX10 : u_T := fun k => match k with
  | 0 => ("PeatBogModel$State", "day", "I", false)
  | 1 => ("PeatBogModel$State", "hour", "I", false)
  | 2 => ("PeatBogModel$State", "dry", "I", false)
  | 3 => ("PeatBogModel$State", "damp", "I", false)
  | 4 => ("PeatBogModel$State", "crumbled", "I", false)
  | 5 => ("PeatBogModel$State", "cut", "I", false)
  | 6 => ("PeatBogModel$State", "peat", "[I", true)
  | 7 => ("PeatBogModel$State", "water", "[I", true)
  | 8 => ("PeatBogModel$State", "bricks", "[I", true)
  | 9 => ("PeatBogModel$State", "wet", "[I", true)
  | 10 => ("PeatBogModel$State", "turned", "[I", true)
  | 11 => ("PeatBogModel$State", "gang", "[I", true)
  | _ => ("PeatBogModel$State", "left", "[I", true)
def tyX10 : Nat → FieldType := fun k => match k with
  | 0 => .int
  | 1 => .int
  | 2 => .int
  | 3 => .int
  | 4 => .int
  | 5 => .int
  | 6 => .array .int
  | 7 => .array .int
  | 8 => .array .int
  | 9 => .array .int
  | 10 => .array .int
  | 11 => .array .int
  | _ => .array .int
theorem nmX10 : ∀ a, a < 13 → ∀ b, b < 13 → a ≠ b → (TX10 a).2.1 ≠ (TX10 b).2.1 := by decide +kernel
theorem tyX10_ok : ∀ k, k < 13 → parseFieldDescriptor (TX10 k).2.2.1 = some (tyX10 k) := by decide +kernel
abbrev cX10_init : ByteArray := prog_13_method_1_code
def yX10_init : MethodName := ⟨RX10, "<init>", "()V"⟩
abbrev cX10_copy : ByteArray := prog_13_method_2_code
def yX10_copy : MethodName := ⟨RX10, "copy", "([I[I)V"⟩
abbrev cX10_become : ByteArray := prog_13_method_3_code
def yX10_become : MethodName := ⟨RX10, "become", "(LPeatBogModel$State;)V"⟩
abbrev cX10_pile : ByteArray := prog_13_method_4_code
def yX10_pile : MethodName := ⟨RX10, "pile", "(III)V"⟩
abbrev cX10_take : ByteArray := prog_13_method_5_code
def yX10_take : MethodName := ⟨RX10, "take", "(II)V"⟩
abbrev cX10_all : ByteArray := prog_13_method_6_code
def yX10_all : MethodName := ⟨RX10, "all", "([I)I"⟩
def RX11 : String := "PeatBogModel"
def TX11 : u_T := fun k => match k with
  | 0 => ("PeatBogModel", "thrown", "I", false)
  | 1 => ("PeatBogModel", "tape", "[I", true)
  | 2 => ("PeatBogModel", "length", "I", false)
  | 3 => ("PeatBogModel", "errorAt", "I", false)
  | 4 => ("PeatBogModel", "paper", "[I", true)
  | 5 => ("PeatBogModel", "written", "I", false)
  | 6 => ("PeatBogModel", "rain", "[I", true)
  | 7 => ("PeatBogModel", "sun", "[I", true)
  | 8 => ("PeatBogModel", "code", "[I", true)
  | 9 => ("PeatBogModel", "gangs", "I", false)
  | 10 => ("PeatBogModel", "draft", "[I", true)
  | 11 => ("PeatBogModel", "size", "I", false)
  | 12 => ("PeatBogModel", "pos", "I", false)
  | 13 => ("PeatBogModel", "tokens", "I", false)
  | 14 => ("PeatBogModel", "kind", "I", false)
  | 15 => ("PeatBogModel", "start", "I", false)
  | 16 => ("PeatBogModel", "is", "I", false)
  | 17 => ("PeatBogModel", "depth", "I", false)
  | 18 => ("PeatBogModel", "slot", "I", false)
  | 19 => ("PeatBogModel", "many", "I", false)
  | 20 => ("PeatBogModel", "wrong", "I", false)
  | 21 => ("PeatBogModel", "wrongAt", "I", false)
  | 22 => ("PeatBogModel", "nameAt", "[I", true)
  | 23 => ("PeatBogModel", "nameLength", "[I", true)
  | 24 => ("PeatBogModel", "begins", "[I", true)
  | 25 => ("PeatBogModel", "atX", "[I", true)
  | 26 => ("PeatBogModel", "atY", "[I", true)
  | 27 => ("PeatBogModel", "stack", "[I", true)
  | 28 => ("PeatBogModel", "next", "I", false)
  | 29 => ("PeatBogModel", "s", "LPeatBogModel$State;", true)
  | 30 => ("PeatBogModel", "ahead", "LPeatBogModel$State;", true)
  | _ => ("PeatBogModel", "before", "[I", true)
def tyX11 : Nat → FieldType := fun k => match k with
  | 0 => .int
  | 1 => .array .int
  | 2 => .int
  | 3 => .int
  | 4 => .array .int
  | 5 => .int
  | 6 => .array .int
  | 7 => .array .int
  | 8 => .array .int
  | 9 => .int
  | 10 => .array .int
  | 11 => .int
  | 12 => .int
  | 13 => .int
  | 14 => .int
  | 15 => .int
  | 16 => .int
  | 17 => .int
  | 18 => .int
  | 19 => .int
  | 20 => .int
  | 21 => .int
  | 22 => .array .int
  | 23 => .array .int
  | 24 => .array .int
  | 25 => .array .int
  | 26 => .array .int
  | 27 => .array .int
  | 28 => .int
  | 29 => .object "PeatBogModel$State"
  | 30 => .object "PeatBogModel$State"
  | _ => .array .int
theorem nmX11 : ∀ a, a < 32 → ∀ b, b < 32 → a ≠ b → (TX11 a).2.1 ≠ (TX11 b).2.1 := by decide +kernel
theorem tyX11_ok : ∀ k, k < 32 → parseFieldDescriptor (TX11 k).2.2.1 = some (tyX11 k) := by decide +kernel
abbrev cX11_init : ByteArray := prog_12_method_1_code
def yX11_init : MethodName := ⟨RX11, "<init>", "()V"⟩
abbrev cX11_thrown : ByteArray := prog_12_method_2_code
def yX11_thrown : MethodName := ⟨RX11, "thrown", "()I"⟩
abbrev cX11_no : ByteArray := prog_12_method_3_code
def yX11_no : MethodName := ⟨RX11, "no", "(I)I"⟩
abbrev cX11_isIn : ByteArray := prog_12_method_4_code
def yX11_isIn : MethodName := ⟨RX11, "isIn", "(III)Z"⟩
abbrev cX11_isCell : ByteArray := prog_12_method_5_code
def yX11_isCell : MethodName := ⟨RX11, "isCell", "(II)Z"⟩
abbrev cX11_byteOf : ByteArray := prog_12_method_6_code
def yX11_byteOf : MethodName := ⟨RX11, "byteOf", "(I)I"⟩
abbrev cX11_isDigit : ByteArray := prog_12_method_7_code
def yX11_isDigit : MethodName := ⟨RX11, "isDigit", "(I)Z"⟩
abbrev cX11_isLetter : ByteArray := prog_12_method_8_code
def yX11_isLetter : MethodName := ⟨RX11, "isLetter", "(I)Z"⟩
abbrev cX11_advance : ByteArray := prog_12_method_9_code
def yX11_advance : MethodName := ⟨RX11, "advance", "()V"⟩
abbrev cX11_word : ByteArray := prog_12_method_10_code
def yX11_word : MethodName := ⟨RX11, "word", "()V"⟩
abbrev cX11_isWord : ByteArray := prog_12_method_11_code
def yX11_isWord : MethodName := ⟨RX11, "isWord", "(Ljava/lang/String;)Z"⟩
abbrev cX11_number : ByteArray := prog_12_method_12_code
def yX11_number : MethodName := ⟨RX11, "number", "()V"⟩
abbrev cX11_isSymbol : ByteArray := prog_12_method_13_code
def yX11_isSymbol : MethodName := ⟨RX11, "isSymbol", "(I)Z"⟩
abbrev cX11_symbol : ByteArray := prog_12_method_14_code
def yX11_symbol : MethodName := ⟨RX11, "symbol", "()V"⟩
abbrev cX11_sees : ByteArray := prog_12_method_15_code
def yX11_sees : MethodName := ⟨RX11, "sees", "(I)Z"⟩
abbrev cX11_reads : ByteArray := prog_12_method_16_code
def yX11_reads : MethodName := ⟨RX11, "reads", "(I)Z"⟩
abbrev cX11_passSymbol : ByteArray := prog_12_method_17_code
def yX11_passSymbol : MethodName := ⟨RX11, "passSymbol", "(I)Z"⟩
abbrev cX11_passWord : ByteArray := prog_12_method_18_code
def yX11_passWord : MethodName := ⟨RX11, "passWord", "(I)Z"⟩
abbrev cX11_deeper : ByteArray := prog_12_method_19_code
def yX11_deeper : MethodName := ⟨RX11, "deeper", "()Z"⟩
abbrev cX11_shallower : ByteArray := prog_12_method_20_code
def yX11_shallower : MethodName := ⟨RX11, "shallower", "(I)Z"⟩
abbrev cX11_put : ByteArray := prog_12_method_21_code
def yX11_put : MethodName := ⟨RX11, "put", "(I)V"⟩
abbrev cX11_fault : ByteArray := prog_12_method_22_code
def yX11_fault : MethodName := ⟨RX11, "fault", "(I)V"⟩
abbrev cX11_text : ByteArray := prog_12_method_23_code
def yX11_text : MethodName := ⟨RX11, "text", "()Z"⟩
abbrev cX11_isNameOf : ByteArray := prog_12_method_24_code
def yX11_isNameOf : MethodName := ⟨RX11, "isNameOf", "(I)Z"⟩
abbrev cX11_gang : ByteArray := prog_12_method_25_code
def yX11_gang : MethodName := ⟨RX11, "gang", "()Z"⟩
abbrev cX11_block : ByteArray := prog_12_method_26_code
def yX11_block : MethodName := ⟨RX11, "block", "()Z"⟩
abbrev cX11_sentence : ByteArray := prog_12_method_27_code
def yX11_sentence : MethodName := ⟨RX11, "sentence", "()Z"⟩
abbrev cX11_branch : ByteArray := prog_12_method_28_code
def yX11_branch : MethodName := ⟨RX11, "branch", "()Z"⟩
abbrev cX11_repeat : ByteArray := prog_12_method_29_code
def yX11_repeat : MethodName := ⟨RX11, "repeat", "()Z"⟩
abbrev cX11_loop : ByteArray := prog_12_method_30_code
def yX11_loop : MethodName := ⟨RX11, "loop", "()Z"⟩
abbrev cX11_test : ByteArray := prog_12_method_31_code
def yX11_test : MethodName := ⟨RX11, "test", "(Z)Z"⟩
abbrev cX11_both : ByteArray := prog_12_method_32_code
def yX11_both : MethodName := ⟨RX11, "both", "()Z"⟩
abbrev cX11_single : ByteArray := prog_12_method_33_code
def yX11_single : MethodName := ⟨RX11, "single", "()Z"⟩
abbrev cX11_sum : ByteArray := prog_12_method_34_code
def yX11_sum : MethodName := ⟨RX11, "sum", "(Z)Z"⟩
abbrev cX11_product : ByteArray := prog_12_method_35_code
def yX11_product : MethodName := ⟨RX11, "product", "()Z"⟩
abbrev cX11_value : ByteArray := prog_12_method_36_code
def yX11_value : MethodName := ⟨RX11, "value", "()Z"⟩
abbrev cX11_feed : ByteArray := prog_12_method_37_code
def yX11_feed : MethodName := ⟨RX11, "feed", "(IIIII)I"⟩
abbrev cX11_trim : ByteArray := prog_12_method_38_code
def yX11_trim : MethodName := ⟨RX11, "trim", "(I)I"⟩
abbrev cX11_teach : ByteArray := prog_12_method_39_code
def yX11_teach : MethodName := ⟨RX11, "teach", "()I"⟩
abbrev cX11_learn : ByteArray := prog_12_method_40_code
def yX11_learn : MethodName := ⟨RX11, "learn", "()V"⟩
abbrev cX11_errorAt : ByteArray := prog_12_method_41_code
def yX11_errorAt : MethodName := ⟨RX11, "errorAt", "()I"⟩
abbrev cX11_told : ByteArray := prog_12_method_42_code
def yX11_told : MethodName := ⟨RX11, "told", "(LPeatBogModel$State;II)I"⟩
abbrev cX11_flag : ByteArray := prog_12_method_43_code
def yX11_flag : MethodName := ⟨RX11, "flag", "(Z)I"⟩
abbrev cX11_apply : ByteArray := prog_12_method_44_code
def yX11_apply : MethodName := ⟨RX11, "apply", "(III)I"⟩
abbrev cX11_reckon : ByteArray := prog_12_method_45_code
def yX11_reckon : MethodName := ⟨RX11, "reckon", "(LPeatBogModel$State;II)I"⟩
abbrev cX11_work : ByteArray := prog_12_method_46_code
def yX11_work : MethodName := ⟨RX11, "work", "(LPeatBogModel$State;I)V"⟩
abbrev cX11_isThere : ByteArray := prog_12_method_47_code
def yX11_isThere : MethodName := ⟨RX11, "isThere", "(LPeatBogModel$State;II)Z"⟩
abbrev cX11_goOn : ByteArray := prog_12_method_48_code
def yX11_goOn : MethodName := ⟨RX11, "goOn", "(LPeatBogModel$State;III)V"⟩
abbrev cX11_act : ByteArray := prog_12_method_49_code
def yX11_act : MethodName := ⟨RX11, "act", "(LPeatBogModel$State;III)V"⟩
abbrev cX11_go : ByteArray := prog_12_method_50_code
def yX11_go : MethodName := ⟨RX11, "go", "(LPeatBogModel$State;II)Z"⟩
abbrev cX11_cut : ByteArray := prog_12_method_51_code
def yX11_cut : MethodName := ⟨RX11, "cut", "(LPeatBogModel$State;II)Z"⟩
abbrev cX11_load : ByteArray := prog_12_method_52_code
def yX11_load : MethodName := ⟨RX11, "load", "(LPeatBogModel$State;III)Z"⟩
abbrev cX11_unload : ByteArray := prog_12_method_53_code
def yX11_unload : MethodName := ⟨RX11, "unload", "(LPeatBogModel$State;II)Z"⟩
abbrev cX11_held : ByteArray := prog_12_method_54_code
def yX11_held : MethodName := ⟨RX11, "held", "(II)I"⟩
abbrev cX11_behindNight : ByteArray := prog_12_method_55_code
def yX11_behindNight : MethodName := ⟨RX11, "behindNight", "(III)I"⟩
abbrev cX11_night : ByteArray := prog_12_method_56_code
def yX11_night : MethodName := ⟨RX11, "night", "(LPeatBogModel$State;)V"⟩
abbrev cX11_rise : ByteArray := prog_12_method_57_code
def yX11_rise : MethodName := ⟨RX11, "rise", "(LPeatBogModel$State;)V"⟩
abbrev cX11_withPeat : ByteArray := prog_12_method_58_code
def yX11_withPeat : MethodName := ⟨RX11, "withPeat", "(I)I"⟩
abbrev cX11_hour : ByteArray := prog_12_method_59_code
def yX11_hour : MethodName := ⟨RX11, "hour", "(LPeatBogModel$State;)V"⟩
abbrev cX11_hours : ByteArray := prog_12_method_60_code
def yX11_hours : MethodName := ⟨RX11, "hours", "(LPeatBogModel$State;I)V"⟩
abbrev cX11_carts : ByteArray := prog_12_method_61_code
def yX11_carts : MethodName := ⟨RX11, "carts", "()I"⟩
abbrev cX11_counted : ByteArray := prog_12_method_62_code
def yX11_counted : MethodName := ⟨RX11, "counted", "(I)I"⟩
abbrev cX11_count : ByteArray := prog_12_method_63_code
def yX11_count : MethodName := ⟨RX11, "count", "(I)I"⟩
abbrev cX11_setWeather : ByteArray := prog_12_method_64_code
def yX11_setWeather : MethodName := ⟨RX11, "setWeather", "(III)I"⟩
abbrev cX11_set : ByteArray := prog_12_method_65_code
def yX11_set : MethodName := ⟨RX11, "set", "(IIII)I"⟩
abbrev cX11_stack : ByteArray := prog_12_method_66_code
def yX11_stack : MethodName := ⟨RX11, "stack", "(IIII)I"⟩
abbrev cX11_cellTold : ByteArray := prog_12_method_67_code
def yX11_cellTold : MethodName := ⟨RX11, "cellTold", "(II)I"⟩
abbrev cX11_cell : ByteArray := prog_12_method_68_code
def yX11_cell : MethodName := ⟨RX11, "cell", "(III)I"⟩
abbrev cX11_gangTold : ByteArray := prog_12_method_69_code
def yX11_gangTold : MethodName := ⟨RX11, "gangTold", "(II)I"⟩
abbrev cX11_gang_ : ByteArray := prog_12_method_70_code
def yX11_gang_ : MethodName := ⟨RX11, "gang", "(II)I"⟩
abbrev cX11_pass : ByteArray := prog_12_method_71_code
def yX11_pass : MethodName := ⟨RX11, "pass", "(I)I"⟩
abbrev cX11_foresee : ByteArray := prog_12_method_72_code
def yX11_foresee : MethodName := ⟨RX11, "foresee", "(II)I"⟩
abbrev cX11_dries : ByteArray := prog_12_method_73_code
def yX11_dries : MethodName := ⟨RX11, "dries", "(II)I"⟩
abbrev cX11_done : ByteArray := prog_12_method_74_code
def yX11_done : MethodName := ⟨RX11, "done", "(I)I"⟩
abbrev cX11_dryBehind : ByteArray := prog_12_method_75_code
def yX11_dryBehind : MethodName := ⟨RX11, "dryBehind", "(I)I"⟩
abbrev cX11_advise : ByteArray := prog_12_method_76_code
def yX11_advise : MethodName := ⟨RX11, "advise", "(I)I"⟩
abbrev cX11_isGangIn : ByteArray := prog_12_method_77_code
def yX11_isGangIn : MethodName := ⟨RX11, "isGangIn", "(I)Z"⟩
abbrev cX11_drawn : ByteArray := prog_12_method_78_code
def yX11_drawn : MethodName := ⟨RX11, "drawn", "(I)I"⟩
abbrev cX11_draw : ByteArray := prog_12_method_79_code
def yX11_draw : MethodName := ⟨RX11, "draw", "()I"⟩
abbrev cX11_byteAt : ByteArray := prog_12_method_80_code
def yX11_byteAt : MethodName := ⟨RX11, "byteAt", "(I)I"⟩
abbrev cX11_share : ByteArray := prog_12_method_81_code
def yX11_share : MethodName := ⟨RX11, "share", "()D"⟩
abbrev cX11_digest : ByteArray := prog_12_method_82_code
def yX11_digest : MethodName := ⟨RX11, "digest", "()J"⟩
def RJx29ce0 : String := "java/lang/Enum"
def TJx29ce0 : u_T := fun k => match k with
  | _ => ("", "", "", false)
def tyJx29ce0 : Nat → FieldType := fun k => match k with
  | _ => .int
theorem nmJx29ce0 : ∀ a, a < 0 → ∀ b, b < 0 → a ≠ b → (TJx29ce0 a).2.1 ≠ (TJx29ce0 b).2.1 := by decide +kernel
theorem tyJx29ce0_ok : ∀ k, k < 0 → parseFieldDescriptor (TJx29ce0 k).2.2.1 = some (tyJx29ce0 k) := by decide +kernel
abbrev cJx29ce0_ordinal_8abf5 : ByteArray := prog_14_method_2_code
def yJx29ce0_ordinal_8abf5 : MethodName := ⟨RJx29ce0, "ordinal", "()I"⟩
def RJ6 : String := "java/lang/Integer"
def TJ6 : u_T := fun k => match k with
  | _ => ("", "", "", false)
def tyJ6 : Nat → FieldType := fun k => match k with
  | _ => .int
theorem nmJ6 : ∀ a, a < 0 → ∀ b, b < 0 → a ≠ b → (TJ6 a).2.1 ≠ (TJ6 b).2.1 := by decide +kernel
theorem tyJ6_ok : ∀ k, k < 0 → parseFieldDescriptor (TJ6 k).2.2.1 = some (tyJ6 k) := by decide +kernel
abbrev cJ6_compare_7cf53 : ByteArray := prog_19_method_40_code
def yJ6_compare_7cf53 : MethodName := ⟨RJ6, "compare", "(II)I"⟩
abbrev cJ6_signum_0f7a4 : ByteArray := prog_19_method_56_code
def yJ6_signum_0f7a4 : MethodName := ⟨RJ6, "signum", "(I)I"⟩
def RJ9 : String := "java/lang/Math"
def TJ9 : u_T := fun k => match k with
  | _ => ("", "", "", false)
def tyJ9 : Nat → FieldType := fun k => match k with
  | _ => .int
theorem nmJ9 : ∀ a, a < 0 → ∀ b, b < 0 → a ≠ b → (TJ9 a).2.1 ≠ (TJ9 b).2.1 := by decide +kernel
theorem tyJ9_ok : ∀ k, k < 0 → parseFieldDescriptor (TJ9 k).2.2.1 = some (tyJ9 k) := by decide +kernel
abbrev cJ9_max_7cf53 : ByteArray := prog_20_method_65_code
def yJ9_max_7cf53 : MethodName := ⟨RJ9, "max", "(II)I"⟩
abbrev cJ9_min_7cf53 : ByteArray := prog_20_method_69_code
def yJ9_min_7cf53 : MethodName := ⟨RJ9, "min", "(II)I"⟩
def RJ0 : String := "java/lang/String"
def TJ0 : u_T := fun k => match k with
  | _ => ("", "", "", false)
def tyJ0 : Nat → FieldType := fun k => match k with
  | _ => .int
theorem nmJ0 : ∀ a, a < 0 → ∀ b, b < 0 → a ≠ b → (TJ0 a).2.1 ≠ (TJ0 b).2.1 := by decide +kernel
theorem tyJ0_ok : ∀ k, k < 0 → parseFieldDescriptor (TJ0 k).2.2.1 = some (tyJ0 k) := by decide +kernel
abbrev cJ0_length_8abf5 : ByteArray := prog_22_method_54_code
def yJ0_length_8abf5 : MethodName := ⟨RJ0, "length", "()I"⟩
abbrev cJ0_charAt_5068e : ByteArray := prog_22_method_56_code
def yJ0_charAt_5068e : MethodName := ⟨RJ0, "charAt", "(I)C"⟩
abbrev cJ0_coder_7d493 : ByteArray := prog_22_method_152_code
def yJ0_coder_7d493 : MethodName := ⟨RJ0, "coder", "()B"⟩
abbrev cJ0_isLatin1_aae02 : ByteArray := prog_22_method_154_code
def yJ0_isLatin1_aae02 : MethodName := ⟨RJ0, "isLatin1", "()Z"⟩
abbrev cJ0_checkIndex_df160 : ByteArray := prog_22_method_155_code
def yJ0_checkIndex_df160 : MethodName := ⟨RJ0, "checkIndex", "(II)V"⟩
def RJ1 : String := "java/lang/StringLatin1"
def TJ1 : u_T := fun k => match k with
  | _ => ("", "", "", false)
def tyJ1 : Nat → FieldType := fun k => match k with
  | _ => .int
theorem nmJ1 : ∀ a, a < 0 → ∀ b, b < 0 → a ≠ b → (TJ1 a).2.1 ≠ (TJ1 b).2.1 := by decide +kernel
theorem tyJ1_ok : ∀ k, k < 0 → parseFieldDescriptor (TJ1 k).2.2.1 = some (tyJ1 k) := by decide +kernel
abbrev cJ1_charAt_3b067 : ByteArray := prog_23_method_2_code
def yJ1_charAt_3b067 : MethodName := ⟨RJ1, "charAt", "([BI)C"⟩
def RJ2 : String := "java/lang/StringUTF16"
def TJ2 : u_T := fun k => match k with
  | _ => ("", "", "", false)
def tyJ2 : Nat → FieldType := fun k => match k with
  | _ => .int
theorem nmJ2 : ∀ a, a < 0 → ∀ b, b < 0 → a ≠ b → (TJ2 a).2.1 ≠ (TJ2 b).2.1 := by decide +kernel
theorem tyJ2_ok : ∀ k, k < 0 → parseFieldDescriptor (TJ2 k).2.2.1 = some (tyJ2 k) := by decide +kernel
abbrev cJ2_getChar_3b067 : ByteArray := prog_24_method_5_code
def yJ2_getChar_3b067 : MethodName := ⟨RJ2, "getChar", "([BI)C"⟩
abbrev cJ2_length_9d52b : ByteArray := prog_24_method_6_code
def yJ2_length_9d52b : MethodName := ⟨RJ2, "length", "([B)I"⟩
abbrev cJ2_charAt_3b067 : ByteArray := prog_24_method_83_code
def yJ2_charAt_3b067 : MethodName := ⟨RJ2, "charAt", "([BI)C"⟩
abbrev cJ2_checkIndex_2214a : ByteArray := prog_24_method_91_code
def yJ2_checkIndex_2214a : MethodName := ⟨RJ2, "checkIndex", "(I[B)V"⟩
def RJ10 : String := "java/lang/System"
def TJ10 : u_T := fun k => match k with
  | _ => ("", "", "", false)
def tyJ10 : Nat → FieldType := fun k => match k with
  | _ => .int
theorem nmJ10 : ∀ a, a < 0 → ∀ b, b < 0 → a ≠ b → (TJ10 a).2.1 ≠ (TJ10 b).2.1 := by decide +kernel
theorem tyJ10_ok : ∀ k, k < 0 → parseFieldDescriptor (TJ10 k).2.2.1 = some (tyJ10 k) := by decide +kernel
def RJ3 : String := "jdk/internal/util/Preconditions"
def TJ3 : u_T := fun k => match k with
  | _ => ("", "", "", false)
def tyJ3 : Nat → FieldType := fun k => match k with
  | _ => .int
theorem nmJ3 : ∀ a, a < 0 → ∀ b, b < 0 → a ≠ b → (TJ3 a).2.1 ≠ (TJ3 b).2.1 := by decide +kernel
theorem tyJ3_ok : ∀ k, k < 0 → parseFieldDescriptor (TJ3 k).2.2.1 = some (tyJ3 k) := by decide +kernel
abbrev cJ3_checkIndex_8e157 : ByteArray := prog_27_method_11_code
def yJ3_checkIndex_8e157 : MethodName := ⟨RJ3, "checkIndex", "(IILjava/util/function/BiFunction;)I"⟩
def RL : String := "PeatBogLaw"
abbrev cL_feed : ByteArray := method_3_code
def yL_feed : MethodName := ⟨RL, "feed", "(LPeatBog;IIIII[J)I"⟩
abbrev cL_trim : ByteArray := method_4_code
def yL_trim : MethodName := ⟨RL, "trim", "(LPeatBog;I[J)I"⟩
abbrev cL_count : ByteArray := method_5_code
def yL_count : MethodName := ⟨RL, "count", "(LPeatBog;I[J)I"⟩
abbrev cL_setWeather : ByteArray := method_6_code
def yL_setWeather : MethodName := ⟨RL, "setWeather", "(LPeatBog;III[J)I"⟩
abbrev cL_set : ByteArray := method_7_code
def yL_set : MethodName := ⟨RL, "set", "(LPeatBog;IIII[J)I"⟩
abbrev cL_stack : ByteArray := method_8_code
def yL_stack : MethodName := ⟨RL, "stack", "(LPeatBog;IIII[J)I"⟩
abbrev cL_cell : ByteArray := method_9_code
def yL_cell : MethodName := ⟨RL, "cell", "(LPeatBog;III[J)I"⟩
abbrev cL_gang : ByteArray := method_10_code
def yL_gang : MethodName := ⟨RL, "gang", "(LPeatBog;II[J)I"⟩
abbrev cL_pass : ByteArray := method_11_code
def yL_pass : MethodName := ⟨RL, "pass", "(LPeatBog;I[J)I"⟩
abbrev cL_foresee : ByteArray := method_12_code
def yL_foresee : MethodName := ⟨RL, "foresee", "(LPeatBog;II[J)I"⟩
abbrev cL_dries : ByteArray := method_13_code
def yL_dries : MethodName := ⟨RL, "dries", "(LPeatBog;II[J)I"⟩
abbrev cL_done : ByteArray := method_14_code
def yL_done : MethodName := ⟨RL, "done", "(LPeatBog;I[J)I"⟩
abbrev cL_advise : ByteArray := method_15_code
def yL_advise : MethodName := ⟨RL, "advise", "(LPeatBog;I[J)I"⟩
abbrev cL_byteAt : ByteArray := method_16_code
def yL_byteAt : MethodName := ⟨RL, "byteAt", "(LPeatBog;I[J)I"⟩
abbrev cL_law : ByteArray := code
def yL_law : MethodName := ⟨RL, "law", "([I)Z"⟩
