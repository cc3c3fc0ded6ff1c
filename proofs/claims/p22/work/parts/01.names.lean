-- ===== PART A: goes FIRST, ahead of the names: the tables' words, and 'selects' of the private methods out of them =====
/-- a private method of a class that the tables say can be made, by its rows of tables_1 -/
def lw_okq (q : MethodName × Nat) : Prop := (q.1.cls ≠ "java/lang/invoke/MethodHandle" ∧ q.1.cls ≠ "java/lang/invoke/VarHandle") ∧ Cond.instantiable q.1.cls q.2 ∈ tables_1 ∧ Cond.privateMethod q.1 ∈ tables_1 ∧ Cond.instanceMethod q.1 ∈ tables_1
theorem lw_p0 : lw_okq (⟨"PeatBog$Scanner", "behindBlanks", "(I)I"⟩, 5) := ⟨⟨by decide +kernel, by decide +kernel⟩, List.mem_of_getElem? (i := 46) (by decide +kernel), List.mem_of_getElem? (i := 44) (by decide +kernel), List.mem_of_getElem? (i := 45) (by decide +kernel)⟩
theorem lw_p1 : lw_okq (⟨"PeatBog$Scanner", "scanToken", "(I)LPeatBog$Token;"⟩, 5) := ⟨⟨by decide +kernel, by decide +kernel⟩, List.mem_of_getElem? (i := 46) (by decide +kernel), List.mem_of_getElem? (i := 49) (by decide +kernel), List.mem_of_getElem? (i := 50) (by decide +kernel)⟩
theorem lw_p2 : lw_okq (⟨"PeatBog$Scanner", "isLetter", "(I)Z"⟩, 5) := ⟨⟨by decide +kernel, by decide +kernel⟩, List.mem_of_getElem? (i := 46) (by decide +kernel), List.mem_of_getElem? (i := 55) (by decide +kernel), List.mem_of_getElem? (i := 56) (by decide +kernel)⟩
theorem lw_p3 : lw_okq (⟨"PeatBog$Scanner", "behindWord", "(I)I"⟩, 5) := ⟨⟨by decide +kernel, by decide +kernel⟩, List.mem_of_getElem? (i := 46) (by decide +kernel), List.mem_of_getElem? (i := 59) (by decide +kernel), List.mem_of_getElem? (i := 60) (by decide +kernel)⟩
theorem lw_p4 : lw_okq (⟨"PeatBog$Scanner", "isDigit", "(I)Z"⟩, 5) := ⟨⟨by decide +kernel, by decide +kernel⟩, List.mem_of_getElem? (i := 46) (by decide +kernel), List.mem_of_getElem? (i := 63) (by decide +kernel), List.mem_of_getElem? (i := 64) (by decide +kernel)⟩
theorem lw_p5 : lw_okq (⟨"PeatBog$Token", "isWritten", "([BII)Z"⟩, 6) := ⟨⟨by decide +kernel, by decide +kernel⟩, List.mem_of_getElem? (i := 78) (by decide +kernel), List.mem_of_getElem? (i := 76) (by decide +kernel), List.mem_of_getElem? (i := 77) (by decide +kernel)⟩
theorem lw_p6 : lw_okq (⟨"PeatBog$Scanner", "behindDigits", "(I)I"⟩, 5) := ⟨⟨by decide +kernel, by decide +kernel⟩, List.mem_of_getElem? (i := 46) (by decide +kernel), List.mem_of_getElem? (i := 129) (by decide +kernel), List.mem_of_getElem? (i := 130) (by decide +kernel)⟩
theorem lw_p7 : lw_okq (⟨"PeatBog$Scanner", "scanSymbol", "(I)LPeatBog$Token;"⟩, 5) := ⟨⟨by decide +kernel, by decide +kernel⟩, List.mem_of_getElem? (i := 46) (by decide +kernel), List.mem_of_getElem? (i := 135) (by decide +kernel), List.mem_of_getElem? (i := 136) (by decide +kernel)⟩
theorem lw_p8 : lw_okq (⟨"PeatBog$Parser", "kind", "()LPeatBog$Token;"⟩, 7) := ⟨⟨by decide +kernel, by decide +kernel⟩, List.mem_of_getElem? (i := 145) (by decide +kernel), List.mem_of_getElem? (i := 143) (by decide +kernel), List.mem_of_getElem? (i := 144) (by decide +kernel)⟩
theorem lw_p9 : lw_okq (⟨"PeatBog$Parser", "oneGang", "()Z"⟩, 7) := ⟨⟨by decide +kernel, by decide +kernel⟩, List.mem_of_getElem? (i := 145) (by decide +kernel), List.mem_of_getElem? (i := 154) (by decide +kernel), List.mem_of_getElem? (i := 155) (by decide +kernel)⟩
theorem lw_p10 : lw_okq (⟨"PeatBog$Parser", "expect", "(LPeatBog$Token;)Z"⟩, 7) := ⟨⟨by decide +kernel, by decide +kernel⟩, List.mem_of_getElem? (i := 145) (by decide +kernel), List.mem_of_getElem? (i := 159) (by decide +kernel), List.mem_of_getElem? (i := 160) (by decide +kernel)⟩
theorem lw_p11 : lw_okq (⟨"PeatBog$Parser", "refuse", "()Z"⟩, 7) := ⟨⟨by decide +kernel, by decide +kernel⟩, List.mem_of_getElem? (i := 145) (by decide +kernel), List.mem_of_getElem? (i := 163) (by decide +kernel), List.mem_of_getElem? (i := 164) (by decide +kernel)⟩
theorem lw_p12 : lw_okq (⟨"PeatBog$Parser", "noteName", "(I)V"⟩, 7) := ⟨⟨by decide +kernel, by decide +kernel⟩, List.mem_of_getElem? (i := 145) (by decide +kernel), List.mem_of_getElem? (i := 171) (by decide +kernel), List.mem_of_getElem? (i := 172) (by decide +kernel)⟩
theorem lw_p13 : lw_okq (⟨"PeatBog$Scanner", "endOf", "(I)I"⟩, 5) := ⟨⟨by decide +kernel, by decide +kernel⟩, List.mem_of_getElem? (i := 46) (by decide +kernel), List.mem_of_getElem? (i := 180) (by decide +kernel), List.mem_of_getElem? (i := 181) (by decide +kernel)⟩
theorem lw_p14 : lw_okq (⟨"PeatBog$Parser", "note", "(II)V"⟩, 7) := ⟨⟨by decide +kernel, by decide +kernel⟩, List.mem_of_getElem? (i := 145) (by decide +kernel), List.mem_of_getElem? (i := 184) (by decide +kernel), List.mem_of_getElem? (i := 185) (by decide +kernel)⟩
theorem lw_p15 : lw_okq (⟨"PeatBog$Parser", "limitedNumber", "(I)Z"⟩, 7) := ⟨⟨by decide +kernel, by decide +kernel⟩, List.mem_of_getElem? (i := 145) (by decide +kernel), List.mem_of_getElem? (i := 190) (by decide +kernel), List.mem_of_getElem? (i := 191) (by decide +kernel)⟩
def lw_privs_1 : List (MethodName × Nat) := [(⟨"PeatBog$Scanner", "behindBlanks", "(I)I"⟩, 5), (⟨"PeatBog$Scanner", "scanToken", "(I)LPeatBog$Token;"⟩, 5), (⟨"PeatBog$Scanner", "isLetter", "(I)Z"⟩, 5), (⟨"PeatBog$Scanner", "behindWord", "(I)I"⟩, 5), (⟨"PeatBog$Scanner", "isDigit", "(I)Z"⟩, 5), (⟨"PeatBog$Token", "isWritten", "([BII)Z"⟩, 6), (⟨"PeatBog$Scanner", "behindDigits", "(I)I"⟩, 5), (⟨"PeatBog$Scanner", "scanSymbol", "(I)LPeatBog$Token;"⟩, 5), (⟨"PeatBog$Parser", "kind", "()LPeatBog$Token;"⟩, 7), (⟨"PeatBog$Parser", "oneGang", "()Z"⟩, 7), (⟨"PeatBog$Parser", "expect", "(LPeatBog$Token;)Z"⟩, 7), (⟨"PeatBog$Parser", "refuse", "()Z"⟩, 7), (⟨"PeatBog$Parser", "noteName", "(I)V"⟩, 7), (⟨"PeatBog$Scanner", "endOf", "(I)I"⟩, 5), (⟨"PeatBog$Parser", "note", "(II)V"⟩, 7), (⟨"PeatBog$Parser", "limitedNumber", "(I)Z"⟩, 7)]
theorem lw_r1 : ∀ q ∈ lw_privs_1, lw_okq q := List.forall_mem_cons.mpr ⟨lw_p0, List.forall_mem_cons.mpr ⟨lw_p1, List.forall_mem_cons.mpr ⟨lw_p2, List.forall_mem_cons.mpr ⟨lw_p3, List.forall_mem_cons.mpr ⟨lw_p4, List.forall_mem_cons.mpr ⟨lw_p5, List.forall_mem_cons.mpr ⟨lw_p6, List.forall_mem_cons.mpr ⟨lw_p7, List.forall_mem_cons.mpr ⟨lw_p8, List.forall_mem_cons.mpr ⟨lw_p9, List.forall_mem_cons.mpr ⟨lw_p10, List.forall_mem_cons.mpr ⟨lw_p11, List.forall_mem_cons.mpr ⟨lw_p12, List.forall_mem_cons.mpr ⟨lw_p13, List.forall_mem_cons.mpr ⟨lw_p14, List.forall_mem_cons.mpr ⟨lw_p15, fun _ h => absurd h List.not_mem_nil⟩⟩⟩⟩⟩⟩⟩⟩⟩⟩⟩⟩⟩⟩⟩⟩
theorem lw_p16 : lw_okq (⟨"PeatBog$Parser", "block", "(I)Z"⟩, 7) := ⟨⟨by decide +kernel, by decide +kernel⟩, List.mem_of_getElem? (i := 145) (by decide +kernel), List.mem_of_getElem? (i := 209) (by decide +kernel), List.mem_of_getElem? (i := 210) (by decide +kernel)⟩
theorem lw_p17 : lw_okq (⟨"PeatBog$Parser", "enter", "(LPeatBog$Token;I)Z"⟩, 7) := ⟨⟨by decide +kernel, by decide +kernel⟩, List.mem_of_getElem? (i := 145) (by decide +kernel), List.mem_of_getElem? (i := 215) (by decide +kernel), List.mem_of_getElem? (i := 216) (by decide +kernel)⟩
theorem lw_p18 : lw_okq (⟨"PeatBog$Parser", "sentence", "(I)Z"⟩, 7) := ⟨⟨by decide +kernel, by decide +kernel⟩, List.mem_of_getElem? (i := 145) (by decide +kernel), List.mem_of_getElem? (i := 221) (by decide +kernel), List.mem_of_getElem? (i := 222) (by decide +kernel)⟩
theorem lw_p19 : lw_okq (⟨"PeatBog$Parser", "sum", "(I)Z"⟩, 7) := ⟨⟨by decide +kernel, by decide +kernel⟩, List.mem_of_getElem? (i := 145) (by decide +kernel), List.mem_of_getElem? (i := 233) (by decide +kernel), List.mem_of_getElem? (i := 234) (by decide +kernel)⟩
theorem lw_p20 : lw_okq (⟨"PeatBog$Parser", "product", "(I)Z"⟩, 7) := ⟨⟨by decide +kernel, by decide +kernel⟩, List.mem_of_getElem? (i := 145) (by decide +kernel), List.mem_of_getElem? (i := 237) (by decide +kernel), List.mem_of_getElem? (i := 238) (by decide +kernel)⟩
theorem lw_p21 : lw_okq (⟨"PeatBog$Parser", "value", "(I)Z"⟩, 7) := ⟨⟨by decide +kernel, by decide +kernel⟩, List.mem_of_getElem? (i := 145) (by decide +kernel), List.mem_of_getElem? (i := 241) (by decide +kernel), List.mem_of_getElem? (i := 242) (by decide +kernel)⟩
theorem lw_p22 : lw_okq (⟨"PeatBog$Parser", "end", "(I)Z"⟩, 7) := ⟨⟨by decide +kernel, by decide +kernel⟩, List.mem_of_getElem? (i := 145) (by decide +kernel), List.mem_of_getElem? (i := 257) (by decide +kernel), List.mem_of_getElem? (i := 258) (by decide +kernel)⟩
theorem lw_p23 : lw_okq (⟨"PeatBog$Parser", "choice", "(I)Z"⟩, 7) := ⟨⟨by decide +kernel, by decide +kernel⟩, List.mem_of_getElem? (i := 145) (by decide +kernel), List.mem_of_getElem? (i := 263) (by decide +kernel), List.mem_of_getElem? (i := 264) (by decide +kernel)⟩
theorem lw_p24 : lw_okq (⟨"PeatBog$Parser", "test", "(I)Z"⟩, 7) := ⟨⟨by decide +kernel, by decide +kernel⟩, List.mem_of_getElem? (i := 145) (by decide +kernel), List.mem_of_getElem? (i := 267) (by decide +kernel), List.mem_of_getElem? (i := 268) (by decide +kernel)⟩
theorem lw_p25 : lw_okq (⟨"PeatBog$Parser", "both", "(I)Z"⟩, 7) := ⟨⟨by decide +kernel, by decide +kernel⟩, List.mem_of_getElem? (i := 145) (by decide +kernel), List.mem_of_getElem? (i := 271) (by decide +kernel), List.mem_of_getElem? (i := 272) (by decide +kernel)⟩
theorem lw_p26 : lw_okq (⟨"PeatBog$Parser", "single", "(I)Z"⟩, 7) := ⟨⟨by decide +kernel, by decide +kernel⟩, List.mem_of_getElem? (i := 145) (by decide +kernel), List.mem_of_getElem? (i := 275) (by decide +kernel), List.mem_of_getElem? (i := 276) (by decide +kernel)⟩
theorem lw_p27 : lw_okq (⟨"PeatBog$Parser", "countedLoop", "(I)Z"⟩, 7) := ⟨⟨by decide +kernel, by decide +kernel⟩, List.mem_of_getElem? (i := 145) (by decide +kernel), List.mem_of_getElem? (i := 295) (by decide +kernel), List.mem_of_getElem? (i := 296) (by decide +kernel)⟩
theorem lw_p28 : lw_okq (⟨"PeatBog$Parser", "testedLoop", "(I)Z"⟩, 7) := ⟨⟨by decide +kernel, by decide +kernel⟩, List.mem_of_getElem? (i := 145) (by decide +kernel), List.mem_of_getElem? (i := 299) (by decide +kernel), List.mem_of_getElem? (i := 300) (by decide +kernel)⟩
theorem lw_p29 : lw_okq (⟨"java/lang/Throwable", "fillInStackTrace", "(I)Ljava/lang/Throwable;"⟩, 6) := ⟨⟨by decide +kernel, by decide +kernel⟩, List.mem_of_getElem? (i := 360) (by decide +kernel), List.mem_of_getElem? (i := 358) (by decide +kernel), List.mem_of_getElem? (i := 359) (by decide +kernel)⟩
theorem lw_p30 : lw_okq (⟨"PeatBog", "counted", "(I)I"⟩, 11) := ⟨⟨by decide +kernel, by decide +kernel⟩, List.mem_of_getElem? (i := 392) (by decide +kernel), List.mem_of_getElem? (i := 390) (by decide +kernel), List.mem_of_getElem? (i := 391) (by decide +kernel)⟩
theorem lw_p31 : lw_okq (⟨"PeatBog$Worker", "reckonSums", "()I"⟩, 5) := ⟨⟨by decide +kernel, by decide +kernel⟩, List.mem_of_getElem? (i := 488) (by decide +kernel), List.mem_of_getElem? (i := 486) (by decide +kernel), List.mem_of_getElem? (i := 487) (by decide +kernel)⟩
def lw_privs_2 : List (MethodName × Nat) := [(⟨"PeatBog$Parser", "block", "(I)Z"⟩, 7), (⟨"PeatBog$Parser", "enter", "(LPeatBog$Token;I)Z"⟩, 7), (⟨"PeatBog$Parser", "sentence", "(I)Z"⟩, 7), (⟨"PeatBog$Parser", "sum", "(I)Z"⟩, 7), (⟨"PeatBog$Parser", "product", "(I)Z"⟩, 7), (⟨"PeatBog$Parser", "value", "(I)Z"⟩, 7), (⟨"PeatBog$Parser", "end", "(I)Z"⟩, 7), (⟨"PeatBog$Parser", "choice", "(I)Z"⟩, 7), (⟨"PeatBog$Parser", "test", "(I)Z"⟩, 7), (⟨"PeatBog$Parser", "both", "(I)Z"⟩, 7), (⟨"PeatBog$Parser", "single", "(I)Z"⟩, 7), (⟨"PeatBog$Parser", "countedLoop", "(I)Z"⟩, 7), (⟨"PeatBog$Parser", "testedLoop", "(I)Z"⟩, 7), (⟨"java/lang/Throwable", "fillInStackTrace", "(I)Ljava/lang/Throwable;"⟩, 6), (⟨"PeatBog", "counted", "(I)I"⟩, 11), (⟨"PeatBog$Worker", "reckonSums", "()I"⟩, 5)]
theorem lw_r2 : ∀ q ∈ lw_privs_2, lw_okq q := List.forall_mem_cons.mpr ⟨lw_p16, List.forall_mem_cons.mpr ⟨lw_p17, List.forall_mem_cons.mpr ⟨lw_p18, List.forall_mem_cons.mpr ⟨lw_p19, List.forall_mem_cons.mpr ⟨lw_p20, List.forall_mem_cons.mpr ⟨lw_p21, List.forall_mem_cons.mpr ⟨lw_p22, List.forall_mem_cons.mpr ⟨lw_p23, List.forall_mem_cons.mpr ⟨lw_p24, List.forall_mem_cons.mpr ⟨lw_p25, List.forall_mem_cons.mpr ⟨lw_p26, List.forall_mem_cons.mpr ⟨lw_p27, List.forall_mem_cons.mpr ⟨lw_p28, List.forall_mem_cons.mpr ⟨lw_p29, List.forall_mem_cons.mpr ⟨lw_p30, List.forall_mem_cons.mpr ⟨lw_p31, fun _ h => absurd h List.not_mem_nil⟩⟩⟩⟩⟩⟩⟩⟩⟩⟩⟩⟩⟩⟩⟩⟩
theorem lw_p32 : lw_okq (⟨"PeatBog$Worker", "reckon", "(II)V"⟩, 5) := ⟨⟨by decide +kernel, by decide +kernel⟩, List.mem_of_getElem? (i := 488) (by decide +kernel), List.mem_of_getElem? (i := 491) (by decide +kernel), List.mem_of_getElem? (i := 492) (by decide +kernel)⟩
theorem lw_p33 : lw_okq (⟨"PeatBog$Worker", "push", "(I)V"⟩, 5) := ⟨⟨by decide +kernel, by decide +kernel⟩, List.mem_of_getElem? (i := 488) (by decide +kernel), List.mem_of_getElem? (i := 495) (by decide +kernel), List.mem_of_getElem? (i := 496) (by decide +kernel)⟩
theorem lw_p34 : lw_okq (⟨"PeatBog$Worker", "read", "(I)I"⟩, 5) := ⟨⟨by decide +kernel, by decide +kernel⟩, List.mem_of_getElem? (i := 488) (by decide +kernel), List.mem_of_getElem? (i := 499) (by decide +kernel), List.mem_of_getElem? (i := 500) (by decide +kernel)⟩
theorem lw_p35 : lw_okq (⟨"PeatBog$Worker", "pop", "()I"⟩, 5) := ⟨⟨by decide +kernel, by decide +kernel⟩, List.mem_of_getElem? (i := 488) (by decide +kernel), List.mem_of_getElem? (i := 512) (by decide +kernel), List.mem_of_getElem? (i := 513) (by decide +kernel)⟩
theorem lw_p36 : lw_okq (⟨"PeatBog$Worker", "carryOut", "(I)Z"⟩, 5) := ⟨⟨by decide +kernel, by decide +kernel⟩, List.mem_of_getElem? (i := 488) (by decide +kernel), List.mem_of_getElem? (i := 523) (by decide +kernel), List.mem_of_getElem? (i := 524) (by decide +kernel)⟩
theorem lw_p37 : lw_okq (⟨"PeatBog$Worker", "go", "(I)Z"⟩, 5) := ⟨⟨by decide +kernel, by decide +kernel⟩, List.mem_of_getElem? (i := 488) (by decide +kernel), List.mem_of_getElem? (i := 535) (by decide +kernel), List.mem_of_getElem? (i := 536) (by decide +kernel)⟩
theorem lw_p38 : lw_okq (⟨"PeatBog$Worker", "isHourOver", "()Z"⟩, 5) := ⟨⟨by decide +kernel, by decide +kernel⟩, List.mem_of_getElem? (i := 488) (by decide +kernel), List.mem_of_getElem? (i := 540) (by decide +kernel), List.mem_of_getElem? (i := 541) (by decide +kernel)⟩
theorem lw_p39 : lw_okq (⟨"PeatBog$Worker", "cut", "(I)Z"⟩, 5) := ⟨⟨by decide +kernel, by decide +kernel⟩, List.mem_of_getElem? (i := 488) (by decide +kernel), List.mem_of_getElem? (i := 547) (by decide +kernel), List.mem_of_getElem? (i := 548) (by decide +kernel)⟩
theorem lw_p40 : lw_okq (⟨"PeatBog$Worker", "endHour", "(II)Z"⟩, 5) := ⟨⟨by decide +kernel, by decide +kernel⟩, List.mem_of_getElem? (i := 488) (by decide +kernel), List.mem_of_getElem? (i := 552) (by decide +kernel), List.mem_of_getElem? (i := 553) (by decide +kernel)⟩
theorem lw_p41 : lw_okq (⟨"PeatBog$Worker", "turn", "(I)Z"⟩, 5) := ⟨⟨by decide +kernel, by decide +kernel⟩, List.mem_of_getElem? (i := 488) (by decide +kernel), List.mem_of_getElem? (i := 556) (by decide +kernel), List.mem_of_getElem? (i := 557) (by decide +kernel)⟩
theorem lw_p42 : lw_okq (⟨"PeatBog$Worker", "load", "(I)Z"⟩, 5) := ⟨⟨by decide +kernel, by decide +kernel⟩, List.mem_of_getElem? (i := 488) (by decide +kernel), List.mem_of_getElem? (i := 560) (by decide +kernel), List.mem_of_getElem? (i := 561) (by decide +kernel)⟩
theorem lw_p43 : lw_okq (⟨"PeatBog$Worker", "unload", "(I)Z"⟩, 5) := ⟨⟨by decide +kernel, by decide +kernel⟩, List.mem_of_getElem? (i := 488) (by decide +kernel), List.mem_of_getElem? (i := 573) (by decide +kernel), List.mem_of_getElem? (i := 574) (by decide +kernel)⟩
theorem lw_p44 : lw_okq (⟨"PeatBog$Worker", "rest", "(I)Z"⟩, 5) := ⟨⟨by decide +kernel, by decide +kernel⟩, List.mem_of_getElem? (i := 488) (by decide +kernel), List.mem_of_getElem? (i := 581) (by decide +kernel), List.mem_of_getElem? (i := 582) (by decide +kernel)⟩
theorem lw_p45 : lw_okq (⟨"PeatBog$Worker", "branch", "(II)Z"⟩, 5) := ⟨⟨by decide +kernel, by decide +kernel⟩, List.mem_of_getElem? (i := 488) (by decide +kernel), List.mem_of_getElem? (i := 585) (by decide +kernel), List.mem_of_getElem? (i := 586) (by decide +kernel)⟩
theorem lw_p46 : lw_okq (⟨"PeatBog$Worker", "beginRepeat", "(II)Z"⟩, 5) := ⟨⟨by decide +kernel, by decide +kernel⟩, List.mem_of_getElem? (i := 488) (by decide +kernel), List.mem_of_getElem? (i := 589) (by decide +kernel), List.mem_of_getElem? (i := 590) (by decide +kernel)⟩
theorem lw_p47 : lw_okq (⟨"PeatBog$Worker", "repeat", "(II)Z"⟩, 5) := ⟨⟨by decide +kernel, by decide +kernel⟩, List.mem_of_getElem? (i := 488) (by decide +kernel), List.mem_of_getElem? (i := 593) (by decide +kernel), List.mem_of_getElem? (i := 594) (by decide +kernel)⟩
def lw_privs_3 : List (MethodName × Nat) := [(⟨"PeatBog$Worker", "reckon", "(II)V"⟩, 5), (⟨"PeatBog$Worker", "push", "(I)V"⟩, 5), (⟨"PeatBog$Worker", "read", "(I)I"⟩, 5), (⟨"PeatBog$Worker", "pop", "()I"⟩, 5), (⟨"PeatBog$Worker", "carryOut", "(I)Z"⟩, 5), (⟨"PeatBog$Worker", "go", "(I)Z"⟩, 5), (⟨"PeatBog$Worker", "isHourOver", "()Z"⟩, 5), (⟨"PeatBog$Worker", "cut", "(I)Z"⟩, 5), (⟨"PeatBog$Worker", "endHour", "(II)Z"⟩, 5), (⟨"PeatBog$Worker", "turn", "(I)Z"⟩, 5), (⟨"PeatBog$Worker", "load", "(I)Z"⟩, 5), (⟨"PeatBog$Worker", "unload", "(I)Z"⟩, 5), (⟨"PeatBog$Worker", "rest", "(I)Z"⟩, 5), (⟨"PeatBog$Worker", "branch", "(II)Z"⟩, 5), (⟨"PeatBog$Worker", "beginRepeat", "(II)Z"⟩, 5), (⟨"PeatBog$Worker", "repeat", "(II)Z"⟩, 5)]
theorem lw_r3 : ∀ q ∈ lw_privs_3, lw_okq q := List.forall_mem_cons.mpr ⟨lw_p32, List.forall_mem_cons.mpr ⟨lw_p33, List.forall_mem_cons.mpr ⟨lw_p34, List.forall_mem_cons.mpr ⟨lw_p35, List.forall_mem_cons.mpr ⟨lw_p36, List.forall_mem_cons.mpr ⟨lw_p37, List.forall_mem_cons.mpr ⟨lw_p38, List.forall_mem_cons.mpr ⟨lw_p39, List.forall_mem_cons.mpr ⟨lw_p40, List.forall_mem_cons.mpr ⟨lw_p41, List.forall_mem_cons.mpr ⟨lw_p42, List.forall_mem_cons.mpr ⟨lw_p43, List.forall_mem_cons.mpr ⟨lw_p44, List.forall_mem_cons.mpr ⟨lw_p45, List.forall_mem_cons.mpr ⟨lw_p46, List.forall_mem_cons.mpr ⟨lw_p47, fun _ h => absurd h List.not_mem_nil⟩⟩⟩⟩⟩⟩⟩⟩⟩⟩⟩⟩⟩⟩⟩⟩
theorem lw_p48 : lw_okq (⟨"PeatBog$Bog", "dryStacks", "()V"⟩, 17) := ⟨⟨by decide +kernel, by decide +kernel⟩, List.mem_of_getElem? (i := 603) (by decide +kernel), List.mem_of_getElem? (i := 601) (by decide +kernel), List.mem_of_getElem? (i := 602) (by decide +kernel)⟩
theorem lw_p49 : lw_okq (⟨"PeatBog$Bog", "moveWater", "()V"⟩, 17) := ⟨⟨by decide +kernel, by decide +kernel⟩, List.mem_of_getElem? (i := 603) (by decide +kernel), List.mem_of_getElem? (i := 616) (by decide +kernel), List.mem_of_getElem? (i := 617) (by decide +kernel)⟩
theorem lw_p50 : lw_okq (⟨"PeatBog$Bog", "rise", "()V"⟩, 17) := ⟨⟨by decide +kernel, by decide +kernel⟩, List.mem_of_getElem? (i := 603) (by decide +kernel), List.mem_of_getElem? (i := 621) (by decide +kernel), List.mem_of_getElem? (i := 622) (by decide +kernel)⟩
theorem lw_p51 : lw_okq (⟨"PeatBog$Bog", "neighboursWithPeat", "(I)I"⟩, 17) := ⟨⟨by decide +kernel, by decide +kernel⟩, List.mem_of_getElem? (i := 603) (by decide +kernel), List.mem_of_getElem? (i := 628) (by decide +kernel), List.mem_of_getElem? (i := 629) (by decide +kernel)⟩
theorem lw_p52 : lw_okq (⟨"PeatBog", "append", "(I)V"⟩, 11) := ⟨⟨by decide +kernel, by decide +kernel⟩, List.mem_of_getElem? (i := 392) (by decide +kernel), List.mem_of_getElem? (i := 683) (by decide +kernel), List.mem_of_getElem? (i := 684) (by decide +kernel)⟩
def lw_privs_4 : List (MethodName × Nat) := [(⟨"PeatBog$Bog", "dryStacks", "()V"⟩, 17), (⟨"PeatBog$Bog", "moveWater", "()V"⟩, 17), (⟨"PeatBog$Bog", "rise", "()V"⟩, 17), (⟨"PeatBog$Bog", "neighboursWithPeat", "(I)I"⟩, 17), (⟨"PeatBog", "append", "(I)V"⟩, 11)]
theorem lw_r4 : ∀ q ∈ lw_privs_4, lw_okq q := List.forall_mem_cons.mpr ⟨lw_p48, List.forall_mem_cons.mpr ⟨lw_p49, List.forall_mem_cons.mpr ⟨lw_p50, List.forall_mem_cons.mpr ⟨lw_p51, List.forall_mem_cons.mpr ⟨lw_p52, fun _ h => absurd h List.not_mem_nil⟩⟩⟩⟩⟩
def lw_privs : List (MethodName × Nat) := lw_privs_1 ++ (lw_privs_2 ++ (lw_privs_3 ++ (lw_privs_4)))
def lw_tbl : List Cond := k2_sels lw_privs ++ tables_1
theorem lw_privs_ok : ∀ q ∈ lw_privs, lw_okq q := by
  show ∀ q ∈ lw_privs_1 ++ (lw_privs_2 ++ (lw_privs_3 ++ (lw_privs_4))), lw_okq q
  exact List.forall_mem_append.mpr ⟨lw_r1, List.forall_mem_append.mpr ⟨lw_r2, List.forall_mem_append.mpr ⟨lw_r3, lw_r4⟩⟩⟩
-- ===== end of PART A; then your names; then what follows =====
def RX0 : String := "PeatBog$1"
def TX0 : u_T := fun k => match k with
  | _ => ("", "", "", false)
def tyX0 : Nat → FieldType := fun k => match k with
  | _ => .int
theorem nmX0 : ∀ a, a < 0 → ∀ b, b < 0 → a ≠ b → (TX0 a).2.1 ≠ (TX0 b).2.1 := by decide +kernel
theorem tyX0_ok : ∀ k, k < 0 → parseFieldDescriptor (TX0 k).2.2.1 = some (tyX0 k) := by decide +kernel
def RX1 : String := "PeatBog$Bog"
def TX1 : u_T := fun k => match k with
  | 0 => ("PeatBog$Bog", "peat", "[I", true)
  | 1 => ("PeatBog$Bog", "peatBefore", "[I", true)
  | 2 => ("PeatBog$Bog", "water", "[I", true)
  | 3 => ("PeatBog$Bog", "bricks", "[I", true)
  | 4 => ("PeatBog$Bog", "wetness", "[I", true)
  | 5 => ("PeatBog$Bog", "turned", "[I", true)
  | 6 => ("PeatBog$Bog", "rain", "[I", true)
  | 7 => ("PeatBog$Bog", "sun", "[I", true)
  | 8 => ("PeatBog$Bog", "day", "I", false)
  | 9 => ("PeatBog$Bog", "hour", "I", false)
  | 10 => ("PeatBog$Bog", "dryBricks", "I", false)
  | 11 => ("PeatBog$Bog", "wetBricks", "I", false)
  | 12 => ("PeatBog$Bog", "crumbled", "I", false)
  | 13 => ("PeatBog$Bog", "cutBricks", "I", false)
  | 14 => ("PeatBog$Bog", "gangs", "[LPeatBog$Gang;", true)
  | 15 => ("PeatBog$Bog", "gangCount", "I", false)
  | _ => ("PeatBog$Bog", "program", "LPeatBog$Program;", false)
def tyX1 : Nat → FieldType := fun k => match k with
  | 0 => .array .int
  | 1 => .array .int
  | 2 => .array .int
  | 3 => .array .int
  | 4 => .array .int
  | 5 => .array .int
  | 6 => .array .int
  | 7 => .array .int
  | 8 => .int
  | 9 => .int
  | 10 => .int
  | 11 => .int
  | 12 => .int
  | 13 => .int
  | 14 => .array (.object "PeatBog$Gang")
  | 15 => .int
  | _ => .object "PeatBog$Program"
theorem nmX1 : ∀ a, a < 17 → ∀ b, b < 17 → a ≠ b → (TX1 a).2.1 ≠ (TX1 b).2.1 := by decide +kernel
theorem tyX1_ok : ∀ k, k < 17 → parseFieldDescriptor (TX1 k).2.2.1 = some (tyX1 k) := by decide +kernel
abbrev cX1_init : ByteArray := prog_3_method_1_code
def yX1_init : MethodName := ⟨RX1, "<init>", "(LPeatBog$Program;)V"⟩
abbrev cX1_copy : ByteArray := prog_3_method_2_code
def yX1_copy : MethodName := ⟨RX1, "copy", "(LPeatBog$Bog;)V"⟩
abbrev cX1_employ : ByteArray := prog_3_method_3_code
def yX1_employ : MethodName := ⟨RX1, "employ", "(LPeatBog$Program;)V"⟩
abbrev cX1_rainOfDay : ByteArray := prog_3_method_4_code
def yX1_rainOfDay : MethodName := ⟨RX1, "rainOfDay", "()I"⟩
abbrev cX1_sunOfDay : ByteArray := prog_3_method_5_code
def yX1_sunOfDay : MethodName := ⟨RX1, "sunOfDay", "()I"⟩
abbrev cX1_bricksInCarts : ByteArray := prog_3_method_6_code
def yX1_bricksInCarts : MethodName := ⟨RX1, "bricksInCarts", "()I"⟩
abbrev cX1_floodedCells : ByteArray := prog_3_method_7_code
def yX1_floodedCells : MethodName := ⟨RX1, "floodedCells", "()I"⟩
abbrev cX1_tellCell : ByteArray := prog_3_method_9_code
def yX1_tellCell : MethodName := ⟨RX1, "tellCell", "(II)I"⟩
abbrev cX1_addToStack : ByteArray := prog_3_method_10_code
def yX1_addToStack : MethodName := ⟨RX1, "addToStack", "(III)V"⟩
abbrev cX1_takeFromStack : ByteArray := prog_3_method_11_code
def yX1_takeFromStack : MethodName := ⟨RX1, "takeFromStack", "(II)V"⟩
abbrev cX1_endHour : ByteArray := prog_3_method_12_code
def yX1_endHour : MethodName := ⟨RX1, "endHour", "()V"⟩
abbrev cX1_dryStacks : ByteArray := prog_3_method_13_code
def yX1_dryStacks : MethodName := ⟨RX1, "dryStacks", "()V"⟩
abbrev cX1_moveWater : ByteArray := prog_3_method_14_code
def yX1_moveWater : MethodName := ⟨RX1, "moveWater", "()V"⟩
abbrev cX1_rise : ByteArray := prog_3_method_15_code
def yX1_rise : MethodName := ⟨RX1, "rise", "()V"⟩
abbrev cX1_neighboursWithPeat : ByteArray := prog_3_method_16_code
def yX1_neighboursWithPeat : MethodName := ⟨RX1, "neighboursWithPeat", "(I)I"⟩
def RX2 : String := "PeatBog$Gang"
def TX2 : u_T := fun k => match k with
  | 0 => ("PeatBog$Gang", "x", "I", false)
  | 1 => ("PeatBog$Gang", "y", "I", false)
  | 2 => ("PeatBog$Gang", "cart", "I", false)
  | 3 => ("PeatBog$Gang", "damp", "I", false)
  | 4 => ("PeatBog$Gang", "isDone", "Z", false)
  | 5 => ("PeatBog$Gang", "idleHours", "I", false)
  | 6 => ("PeatBog$Gang", "missedHours", "I", false)
  | 7 => ("PeatBog$Gang", "allHours", "I", false)
  | 8 => ("PeatBog$Gang", "waitingHours", "I", false)
  | 9 => ("PeatBog$Gang", "next", "I", false)
  | _ => ("PeatBog$Gang", "repeats", "[I", true)
def tyX2 : Nat → FieldType := fun k => match k with
  | 0 => .int
  | 1 => .int
  | 2 => .int
  | 3 => .int
  | 4 => .boolean
  | 5 => .int
  | 6 => .int
  | 7 => .int
  | 8 => .int
  | 9 => .int
  | _ => .array .int
theorem nmX2 : ∀ a, a < 11 → ∀ b, b < 11 → a ≠ b → (TX2 a).2.1 ≠ (TX2 b).2.1 := by decide +kernel
theorem tyX2_ok : ∀ k, k < 11 → parseFieldDescriptor (TX2 k).2.2.1 = some (tyX2 k) := by decide +kernel
abbrev cX2_init : ByteArray := prog_4_method_1_code
def yX2_init : MethodName := ⟨RX2, "<init>", "()V"⟩
abbrev cX2_begin : ByteArray := prog_4_method_2_code
def yX2_begin : MethodName := ⟨RX2, "begin", "(III)V"⟩
abbrev cX2_copy : ByteArray := prog_4_method_3_code
def yX2_copy : MethodName := ⟨RX2, "copy", "(LPeatBog$Gang;)V"⟩
abbrev cX2_addToCart : ByteArray := prog_4_method_4_code
def yX2_addToCart : MethodName := ⟨RX2, "addToCart", "(II)V"⟩
abbrev cX2_takeFromCart : ByteArray := prog_4_method_5_code
def yX2_takeFromCart : MethodName := ⟨RX2, "takeFromCart", "(I)V"⟩
abbrev cX2_tell : ByteArray := prog_4_method_6_code
def yX2_tell : MethodName := ⟨RX2, "tell", "(I)I"⟩
def RX3 : String := "PeatBog$Op"
def TX3 : u_T := fun k => match k with
  | _ => ("", "", "", false)
def tyX3 : Nat → FieldType := fun k => match k with
  | _ => .int
theorem nmX3 : ∀ a, a < 0 → ∀ b, b < 0 → a ≠ b → (TX3 a).2.1 ≠ (TX3 b).2.1 := by decide +kernel
theorem tyX3_ok : ∀ k, k < 0 → parseFieldDescriptor (TX3 k).2.2.1 = some (tyX3 k) := by decide +kernel
def RX4 : String := "PeatBog$Parser"
def TX4 : u_T := fun k => match k with
  | 0 => ("PeatBog$Parser", "scanner", "LPeatBog$Scanner;", true)
  | 1 => ("PeatBog$Parser", "names", "[I", true)
  | 2 => ("PeatBog$Parser", "nameCount", "I", false)
  | 3 => ("PeatBog$Parser", "program", "LPeatBog$Program;", false)
  | 4 => ("PeatBog$Parser", "at", "I", false)
  | 5 => ("PeatBog$Parser", "error", "I", false)
  | _ => ("PeatBog$Parser", "errorPosition", "I", false)
def tyX4 : Nat → FieldType := fun k => match k with
  | 0 => .object "PeatBog$Scanner"
  | 1 => .array .int
  | 2 => .int
  | 3 => .object "PeatBog$Program"
  | 4 => .int
  | 5 => .int
  | _ => .int
theorem nmX4 : ∀ a, a < 7 → ∀ b, b < 7 → a ≠ b → (TX4 a).2.1 ≠ (TX4 b).2.1 := by decide +kernel
theorem tyX4_ok : ∀ k, k < 7 → parseFieldDescriptor (TX4 k).2.2.1 = some (tyX4 k) := by decide +kernel
abbrev cX4_init : ByteArray := prog_6_method_1_code
def yX4_init : MethodName := ⟨RX4, "<init>", "()V"⟩
abbrev cX4_parse : ByteArray := prog_6_method_2_code
def yX4_parse : MethodName := ⟨RX4, "parse", "([BILPeatBog$Program;)V"⟩
abbrev cX4_kind : ByteArray := prog_6_method_3_code
def yX4_kind : MethodName := ⟨RX4, "kind", "()LPeatBog$Token;"⟩
abbrev cX4_refuse : ByteArray := prog_6_method_4_code
def yX4_refuse : MethodName := ⟨RX4, "refuse", "()Z"⟩
abbrev cX4_note : ByteArray := prog_6_method_5_code
def yX4_note : MethodName := ⟨RX4, "note", "(II)V"⟩
abbrev cX4_expect : ByteArray := prog_6_method_6_code
def yX4_expect : MethodName := ⟨RX4, "expect", "(LPeatBog$Token;)Z"⟩
abbrev cX4_enter : ByteArray := prog_6_method_7_code
def yX4_enter : MethodName := ⟨RX4, "enter", "(LPeatBog$Token;I)Z"⟩
abbrev cX4_oneGang : ByteArray := prog_6_method_8_code
def yX4_oneGang : MethodName := ⟨RX4, "oneGang", "()Z"⟩
abbrev cX4_noteName : ByteArray := prog_6_method_9_code
def yX4_noteName : MethodName := ⟨RX4, "noteName", "(I)V"⟩
abbrev cX4_limitedNumber : ByteArray := prog_6_method_10_code
def yX4_limitedNumber : MethodName := ⟨RX4, "limitedNumber", "(I)Z"⟩
abbrev cX4_block : ByteArray := prog_6_method_11_code
def yX4_block : MethodName := ⟨RX4, "block", "(I)Z"⟩
abbrev cX4_sentence : ByteArray := prog_6_method_12_code
def yX4_sentence : MethodName := ⟨RX4, "sentence", "(I)Z"⟩
abbrev cX4_end : ByteArray := prog_6_method_13_code
def yX4_end : MethodName := ⟨RX4, "end", "(I)Z"⟩
abbrev cX4_choice : ByteArray := prog_6_method_14_code
def yX4_choice : MethodName := ⟨RX4, "choice", "(I)Z"⟩
abbrev cX4_testedLoop : ByteArray := prog_6_method_15_code
def yX4_testedLoop : MethodName := ⟨RX4, "testedLoop", "(I)Z"⟩
abbrev cX4_countedLoop : ByteArray := prog_6_method_16_code
def yX4_countedLoop : MethodName := ⟨RX4, "countedLoop", "(I)Z"⟩
abbrev cX4_test : ByteArray := prog_6_method_17_code
def yX4_test : MethodName := ⟨RX4, "test", "(I)Z"⟩
abbrev cX4_both : ByteArray := prog_6_method_18_code
def yX4_both : MethodName := ⟨RX4, "both", "(I)Z"⟩
abbrev cX4_single : ByteArray := prog_6_method_19_code
def yX4_single : MethodName := ⟨RX4, "single", "(I)Z"⟩
abbrev cX4_sum : ByteArray := prog_6_method_20_code
def yX4_sum : MethodName := ⟨RX4, "sum", "(I)Z"⟩
abbrev cX4_product : ByteArray := prog_6_method_21_code
def yX4_product : MethodName := ⟨RX4, "product", "(I)Z"⟩
abbrev cX4_value : ByteArray := prog_6_method_22_code
def yX4_value : MethodName := ⟨RX4, "value", "(I)Z"⟩
def RX5 : String := "PeatBog$Program"
def TX5 : u_T := fun k => match k with
  | 0 => ("PeatBog$Program", "ops", "[I", true)
  | 1 => ("PeatBog$Program", "arguments", "[I", true)
  | 2 => ("PeatBog$Program", "length", "I", false)
  | 3 => ("PeatBog$Program", "entries", "[I", true)
  | 4 => ("PeatBog$Program", "xs", "[I", true)
  | 5 => ("PeatBog$Program", "ys", "[I", true)
  | _ => ("PeatBog$Program", "gangCount", "I", false)
def tyX5 : Nat → FieldType := fun k => match k with
  | 0 => .array .int
  | 1 => .array .int
  | 2 => .int
  | 3 => .array .int
  | 4 => .array .int
  | 5 => .array .int
  | _ => .int
theorem nmX5 : ∀ a, a < 7 → ∀ b, b < 7 → a ≠ b → (TX5 a).2.1 ≠ (TX5 b).2.1 := by decide +kernel
theorem tyX5_ok : ∀ k, k < 7 → parseFieldDescriptor (TX5 k).2.2.1 = some (tyX5 k) := by decide +kernel
abbrev cX5_init : ByteArray := prog_7_method_1_code
def yX5_init : MethodName := ⟨RX5, "<init>", "()V"⟩
abbrev cX5_clear : ByteArray := prog_7_method_2_code
def yX5_clear : MethodName := ⟨RX5, "clear", "()V"⟩
abbrev cX5_addGang : ByteArray := prog_7_method_3_code
def yX5_addGang : MethodName := ⟨RX5, "addGang", "(II)V"⟩
abbrev cX5_emit : ByteArray := prog_7_method_4_code
def yX5_emit : MethodName := ⟨RX5, "emit", "(II)Z"⟩
abbrev cX5_leadHere : ByteArray := prog_7_method_5_code
def yX5_leadHere : MethodName := ⟨RX5, "leadHere", "(I)V"⟩
abbrev cX5_opAt : ByteArray := prog_7_method_6_code
def yX5_opAt : MethodName := ⟨RX5, "opAt", "(I)I"⟩
abbrev cX5_argumentAt : ByteArray := prog_7_method_7_code
def yX5_argumentAt : MethodName := ⟨RX5, "argumentAt", "(I)I"⟩
def RX6 : String := "PeatBog$Scanner"
def TX6 : u_T := fun k => match k with
  | 0 => ("PeatBog$Scanner", "kinds", "[LPeatBog$Token;", true)
  | 1 => ("PeatBog$Scanner", "starts", "[I", true)
  | 2 => ("PeatBog$Scanner", "ends", "[I", true)
  | 3 => ("PeatBog$Scanner", "tape", "[B", false)
  | _ => ("PeatBog$Scanner", "length", "I", false)
def tyX6 : Nat → FieldType := fun k => match k with
  | 0 => .array (.object "PeatBog$Token")
  | 1 => .array .int
  | 2 => .array .int
  | 3 => .array .byte
  | _ => .int
theorem nmX6 : ∀ a, a < 5 → ∀ b, b < 5 → a ≠ b → (TX6 a).2.1 ≠ (TX6 b).2.1 := by decide +kernel
theorem tyX6_ok : ∀ k, k < 5 → parseFieldDescriptor (TX6 k).2.2.1 = some (tyX6 k) := by decide +kernel
abbrev cX6_init : ByteArray := prog_8_method_1_code
def yX6_init : MethodName := ⟨RX6, "<init>", "()V"⟩
abbrev cX6_scan : ByteArray := prog_8_method_2_code
def yX6_scan : MethodName := ⟨RX6, "scan", "([BI)V"⟩
abbrev cX6_behindBlanks : ByteArray := prog_8_method_3_code
def yX6_behindBlanks : MethodName := ⟨RX6, "behindBlanks", "(I)I"⟩
abbrev cX6_scanToken : ByteArray := prog_8_method_4_code
def yX6_scanToken : MethodName := ⟨RX6, "scanToken", "(I)LPeatBog$Token;"⟩
abbrev cX6_scanSymbol : ByteArray := prog_8_method_5_code
def yX6_scanSymbol : MethodName := ⟨RX6, "scanSymbol", "(I)LPeatBog$Token;"⟩
abbrev cX6_behindWord : ByteArray := prog_8_method_6_code
def yX6_behindWord : MethodName := ⟨RX6, "behindWord", "(I)I"⟩
abbrev cX6_behindDigits : ByteArray := prog_8_method_7_code
def yX6_behindDigits : MethodName := ⟨RX6, "behindDigits", "(I)I"⟩
abbrev cX6_isLetter : ByteArray := prog_8_method_8_code
def yX6_isLetter : MethodName := ⟨RX6, "isLetter", "(I)Z"⟩
abbrev cX6_isDigit : ByteArray := prog_8_method_9_code
def yX6_isDigit : MethodName := ⟨RX6, "isDigit", "(I)Z"⟩
abbrev cX6_kindOf : ByteArray := prog_8_method_10_code
def yX6_kindOf : MethodName := ⟨RX6, "kindOf", "(I)LPeatBog$Token;"⟩
abbrev cX6_startOf : ByteArray := prog_8_method_11_code
def yX6_startOf : MethodName := ⟨RX6, "startOf", "(I)I"⟩
abbrev cX6_endOf : ByteArray := prog_8_method_12_code
def yX6_endOf : MethodName := ⟨RX6, "endOf", "(I)I"⟩
abbrev cX6_numberAt : ByteArray := prog_8_method_13_code
def yX6_numberAt : MethodName := ⟨RX6, "numberAt", "(I)I"⟩
abbrev cX6_isSameText : ByteArray := prog_8_method_14_code
def yX6_isSameText : MethodName := ⟨RX6, "isSameText", "(II)Z"⟩
def RX7 : String := "PeatBog$Token"
def TX7 : u_T := fun k => match k with
  | _ => ("", "", "", false)
def tyX7 : Nat → FieldType := fun k => match k with
  | _ => .int
theorem nmX7 : ∀ a, a < 0 → ∀ b, b < 0 → a ≠ b → (TX7 a).2.1 ≠ (TX7 b).2.1 := by decide +kernel
theorem tyX7_ok : ∀ k, k < 0 → parseFieldDescriptor (TX7 k).2.2.1 = some (tyX7 k) := by decide +kernel
abbrev cX7_find : ByteArray := prog_9_method_5_code
def yX7_find : MethodName := ⟨RX7, "find", "([BIILPeatBog$Token;)LPeatBog$Token;"⟩
abbrev cX7_isWritten : ByteArray := prog_9_method_6_code
def yX7_isWritten : MethodName := ⟨RX7, "isWritten", "([BII)Z"⟩
def RX8 : String := "PeatBog$Worker"
def TX8 : u_T := fun k => match k with
  | 0 => ("PeatBog$Worker", "bog", "LPeatBog$Bog;", true)
  | 1 => ("PeatBog$Worker", "gang", "LPeatBog$Gang;", false)
  | 2 => ("PeatBog$Worker", "values", "[I", true)
  | 3 => ("PeatBog$Worker", "valueCount", "I", false)
  | _ => ("PeatBog$Worker", "counted", "I", false)
def tyX8 : Nat → FieldType := fun k => match k with
  | 0 => .object "PeatBog$Bog"
  | 1 => .object "PeatBog$Gang"
  | 2 => .array .int
  | 3 => .int
  | _ => .int
theorem nmX8 : ∀ a, a < 5 → ∀ b, b < 5 → a ≠ b → (TX8 a).2.1 ≠ (TX8 b).2.1 := by decide +kernel
theorem tyX8_ok : ∀ k, k < 5 → parseFieldDescriptor (TX8 k).2.2.1 = some (tyX8 k) := by decide +kernel
abbrev cX8_init : ByteArray := prog_10_method_1_code
def yX8_init : MethodName := ⟨RX8, "<init>", "(LPeatBog$Bog;)V"⟩
abbrev cX8_workHour : ByteArray := prog_10_method_2_code
def yX8_workHour : MethodName := ⟨RX8, "workHour", "(LPeatBog$Gang;)V"⟩
abbrev cX8_reckonSums : ByteArray := prog_10_method_3_code
def yX8_reckonSums : MethodName := ⟨RX8, "reckonSums", "()I"⟩
abbrev cX8_push : ByteArray := prog_10_method_4_code
def yX8_push : MethodName := ⟨RX8, "push", "(I)V"⟩
abbrev cX8_pop : ByteArray := prog_10_method_5_code
def yX8_pop : MethodName := ⟨RX8, "pop", "()I"⟩
abbrev cX8_reckon : ByteArray := prog_10_method_6_code
def yX8_reckon : MethodName := ⟨RX8, "reckon", "(II)V"⟩
abbrev cX8_read : ByteArray := prog_10_method_7_code
def yX8_read : MethodName := ⟨RX8, "read", "(I)I"⟩
abbrev cX8_join : ByteArray := prog_10_method_8_code
def yX8_join : MethodName := ⟨RX8, "join", "(III)I"⟩
abbrev cX8_carryOut : ByteArray := prog_10_method_9_code
def yX8_carryOut : MethodName := ⟨RX8, "carryOut", "(I)Z"⟩
abbrev cX8_isHourOver : ByteArray := prog_10_method_10_code
def yX8_isHourOver : MethodName := ⟨RX8, "isHourOver", "()Z"⟩
abbrev cX8_branch : ByteArray := prog_10_method_11_code
def yX8_branch : MethodName := ⟨RX8, "branch", "(II)Z"⟩
abbrev cX8_beginRepeat : ByteArray := prog_10_method_12_code
def yX8_beginRepeat : MethodName := ⟨RX8, "beginRepeat", "(II)Z"⟩
abbrev cX8_repeat : ByteArray := prog_10_method_13_code
def yX8_repeat : MethodName := ⟨RX8, "repeat", "(II)Z"⟩
abbrev cX8_go : ByteArray := prog_10_method_14_code
def yX8_go : MethodName := ⟨RX8, "go", "(I)Z"⟩
abbrev cX8_endHour : ByteArray := prog_10_method_15_code
def yX8_endHour : MethodName := ⟨RX8, "endHour", "(II)Z"⟩
abbrev cX8_cut : ByteArray := prog_10_method_16_code
def yX8_cut : MethodName := ⟨RX8, "cut", "(I)Z"⟩
abbrev cX8_turn : ByteArray := prog_10_method_17_code
def yX8_turn : MethodName := ⟨RX8, "turn", "(I)Z"⟩
abbrev cX8_load : ByteArray := prog_10_method_18_code
def yX8_load : MethodName := ⟨RX8, "load", "(I)Z"⟩
abbrev cX8_unload : ByteArray := prog_10_method_19_code
def yX8_unload : MethodName := ⟨RX8, "unload", "(I)Z"⟩
abbrev cX8_rest : ByteArray := prog_10_method_20_code
def yX8_rest : MethodName := ⟨RX8, "rest", "(I)Z"⟩
def RX9 : String := "PeatBog"
def TX9 : u_T := fun k => match k with
  | 0 => ("PeatBog", "tape", "[B", true)
  | 1 => ("PeatBog", "tapeLength", "I", false)
  | 2 => ("PeatBog", "paper", "[B", true)
  | 3 => ("PeatBog", "paperLength", "I", false)
  | 4 => ("PeatBog", "errorPosition", "I", false)
  | 5 => ("PeatBog", "parser", "LPeatBog$Parser;", true)
  | 6 => ("PeatBog", "spare", "LPeatBog$Program;", false)
  | 7 => ("PeatBog", "bog", "LPeatBog$Bog;", true)
  | 8 => ("PeatBog", "worker", "LPeatBog$Worker;", true)
  | 9 => ("PeatBog", "trial", "LPeatBog$Bog;", true)
  | _ => ("PeatBog", "trialWorker", "LPeatBog$Worker;", true)
def tyX9 : Nat → FieldType := fun k => match k with
  | 0 => .array .byte
  | 1 => .int
  | 2 => .array .byte
  | 3 => .int
  | 4 => .int
  | 5 => .object "PeatBog$Parser"
  | 6 => .object "PeatBog$Program"
  | 7 => .object "PeatBog$Bog"
  | 8 => .object "PeatBog$Worker"
  | 9 => .object "PeatBog$Bog"
  | _ => .object "PeatBog$Worker"
theorem nmX9 : ∀ a, a < 11 → ∀ b, b < 11 → a ≠ b → (TX9 a).2.1 ≠ (TX9 b).2.1 := by decide +kernel
theorem tyX9_ok : ∀ k, k < 11 → parseFieldDescriptor (TX9 k).2.2.1 = some (tyX9 k) := by decide +kernel
abbrev cX9_init : ByteArray := prog_1_method_1_code
def yX9_init : MethodName := ⟨RX9, "<init>", "()V"⟩
abbrev cX9_feed : ByteArray := prog_1_method_2_code
def yX9_feed : MethodName := ⟨RX9, "feed", "(IIIII)I"⟩
abbrev cX9_append : ByteArray := prog_1_method_3_code
def yX9_append : MethodName := ⟨RX9, "append", "(I)V"⟩
abbrev cX9_trim : ByteArray := prog_1_method_4_code
def yX9_trim : MethodName := ⟨RX9, "trim", "(I)I"⟩
abbrev cX9_teach : ByteArray := prog_1_method_5_code
def yX9_teach : MethodName := ⟨RX9, "teach", "()I"⟩
abbrev cX9_errorAt : ByteArray := prog_1_method_6_code
def yX9_errorAt : MethodName := ⟨RX9, "errorAt", "()I"⟩
abbrev cX9_count : ByteArray := prog_1_method_7_code
def yX9_count : MethodName := ⟨RX9, "count", "(I)I"⟩
abbrev cX9_counted : ByteArray := prog_1_method_8_code
def yX9_counted : MethodName := ⟨RX9, "counted", "(I)I"⟩
abbrev cX9_sumOf : ByteArray := prog_1_method_9_code
def yX9_sumOf : MethodName := ⟨RX9, "sumOf", "([I)I"⟩
abbrev cX9_setWeather : ByteArray := prog_1_method_10_code
def yX9_setWeather : MethodName := ⟨RX9, "setWeather", "(III)I"⟩
abbrev cX9_set : ByteArray := prog_1_method_11_code
def yX9_set : MethodName := ⟨RX9, "set", "(IIII)I"⟩
abbrev cX9_stack : ByteArray := prog_1_method_12_code
def yX9_stack : MethodName := ⟨RX9, "stack", "(IIII)I"⟩
abbrev cX9_cell : ByteArray := prog_1_method_13_code
def yX9_cell : MethodName := ⟨RX9, "cell", "(III)I"⟩
abbrev cX9_gang : ByteArray := prog_1_method_14_code
def yX9_gang : MethodName := ⟨RX9, "gang", "(II)I"⟩
abbrev cX9_isWithin : ByteArray := prog_1_method_15_code
def yX9_isWithin : MethodName := ⟨RX9, "isWithin", "(III)Z"⟩
abbrev cX9_isCell : ByteArray := prog_1_method_16_code
def yX9_isCell : MethodName := ⟨RX9, "isCell", "(II)Z"⟩
abbrev cX9_cellAt : ByteArray := prog_1_method_17_code
def yX9_cellAt : MethodName := ⟨RX9, "cellAt", "(II)I"⟩
abbrev cX9_pass : ByteArray := prog_1_method_18_code
def yX9_pass : MethodName := ⟨RX9, "pass", "(I)I"⟩
abbrev cX9_letPass : ByteArray := prog_1_method_19_code
def yX9_letPass : MethodName := ⟨RX9, "letPass", "(LPeatBog$Worker;I)V"⟩
abbrev cX9_foresee : ByteArray := prog_1_method_20_code
def yX9_foresee : MethodName := ⟨RX9, "foresee", "(II)I"⟩
abbrev cX9_dries : ByteArray := prog_1_method_21_code
def yX9_dries : MethodName := ⟨RX9, "dries", "(II)I"⟩
abbrev cX9_wetnessBehindNight : ByteArray := prog_1_method_22_code
def yX9_wetnessBehindNight : MethodName := ⟨RX9, "wetnessBehindNight", "(IZII)I"⟩
abbrev cX9_held : ByteArray := prog_1_method_23_code
def yX9_held : MethodName := ⟨RX9, "held", "(II)I"⟩
abbrev cX9_done : ByteArray := prog_1_method_24_code
def yX9_done : MethodName := ⟨RX9, "done", "(I)I"⟩
abbrev cX9_digest : ByteArray := prog_1_method_30_code
def yX9_digest : MethodName := ⟨RX9, "digest", "()J"⟩
abbrev cX9_mixed : ByteArray := prog_1_method_31_code
def yX9_mixed : MethodName := ⟨RX9, "mixed", "(IIII)I"⟩
def RX10 : String := "PeatBogModel$State"
def TX10 : u_T := fun k => match k with
  | _ => ("", "", "", false)
def tyX10 : Nat → FieldType := fun k => match k with
  | _ => .int
theorem nmX10 : ∀ a, a < 0 → ∀ b, b < 0 → a ≠ b → (TX10 a).2.1 ≠ (TX10 b).2.1 := by decide +kernel
theorem tyX10_ok : ∀ k, k < 0 → parseFieldDescriptor (TX10 k).2.2.1 = some (tyX10 k) := by decide +kernel
def RX11 : String := "PeatBogModel"
def TX11 : u_T := fun k => match k with
  | _ => ("", "", "", false)
def tyX11 : Nat → FieldType := fun k => match k with
  | _ => .int
theorem nmX11 : ∀ a, a < 0 → ∀ b, b < 0 → a ≠ b → (TX11 a).2.1 ≠ (TX11 b).2.1 := by decide +kernel
theorem tyX11_ok : ∀ k, k < 0 → parseFieldDescriptor (TX11 k).2.2.1 = some (tyX11 k) := by decide +kernel
def RJ5 : String := "java/lang/AbstractStringBuilder"
def TJ5 : u_T := fun k => match k with
  | _ => ("", "", "", false)
def tyJ5 : Nat → FieldType := fun k => match k with
  | _ => .int
theorem nmJ5 : ∀ a, a < 0 → ∀ b, b < 0 → a ≠ b → (TJ5 a).2.1 ≠ (TJ5 b).2.1 := by decide +kernel
theorem tyJ5_ok : ∀ k, k < 0 → parseFieldDescriptor (TJ5 k).2.2.1 = some (tyJ5 k) := by decide +kernel
abbrev cJ5_init_d00df : ByteArray := prog_14_method_2_code
def yJ5_init_d00df : MethodName := ⟨RJ5, "<init>", "(I)V"⟩
abbrev cJ5_length_8abf5 : ByteArray := prog_14_method_6_code
def yJ5_length_8abf5 : MethodName := ⟨RJ5, "length", "()I"⟩
abbrev cJ5_ensureCapacityInternal_d00df : ByteArray := prog_14_method_9_code
def yJ5_ensureCapacityInternal_d00df : MethodName := ⟨RJ5, "ensureCapacityInternal", "(I)V"⟩
abbrev cJ5_newCapacity_0f7a4 : ByteArray := prog_14_method_10_code
def yJ5_newCapacity_0f7a4 : MethodName := ⟨RJ5, "newCapacity", "(I)I"⟩
abbrev cJ5_inflate_da8c8 : ByteArray := prog_14_method_11_code
def yJ5_inflate_da8c8 : MethodName := ⟨RJ5, "inflate", "()V"⟩
abbrev cJ5_append_cf1ce : ByteArray := prog_14_method_22_code
def yJ5_append_cf1ce : MethodName := ⟨RJ5, "append", "(Ljava/lang/String;)Ljava/lang/AbstractStringBuilder;"⟩
abbrev cJ5_appendNull_278bc : ByteArray := prog_14_method_26_code
def yJ5_appendNull_278bc : MethodName := ⟨RJ5, "appendNull", "()Ljava/lang/AbstractStringBuilder;"⟩
abbrev cJ5_append_c97b9 : ByteArray := prog_14_method_32_code
def yJ5_append_c97b9 : MethodName := ⟨RJ5, "append", "(I)Ljava/lang/AbstractStringBuilder;"⟩
abbrev cJ5_getValue_6d5f1 : ByteArray := prog_14_method_64_code
def yJ5_getValue_6d5f1 : MethodName := ⟨RJ5, "getValue", "()[B"⟩
abbrev cJ5_isLatin1_aae02 : ByteArray := prog_14_method_68_code
def yJ5_isLatin1_aae02 : MethodName := ⟨RJ5, "isLatin1", "()Z"⟩
abbrev cJ5_inflateIfNeededFor_a7421 : ByteArray := prog_14_method_71_code
def yJ5_inflateIfNeededFor_a7421 : MethodName := ⟨RJ5, "inflateIfNeededFor", "(Ljava/lang/String;)V"⟩
abbrev cJ5_putStringAt_47b60 : ByteArray := prog_14_method_73_code
def yJ5_putStringAt_47b60 : MethodName := ⟨RJ5, "putStringAt", "(ILjava/lang/String;)V"⟩
def RJx8e188 : String := "java/lang/Cloneable"
def TJx8e188 : u_T := fun k => match k with
  | _ => ("", "", "", false)
def tyJx8e188 : Nat → FieldType := fun k => match k with
  | _ => .int
theorem nmJx8e188 : ∀ a, a < 0 → ∀ b, b < 0 → a ≠ b → (TJx8e188 a).2.1 ≠ (TJx8e188 b).2.1 := by decide +kernel
theorem tyJx8e188_ok : ∀ k, k < 0 → parseFieldDescriptor (TJx8e188 k).2.2.1 = some (tyJx8e188 k) := by decide +kernel
def RJx29ce0 : String := "java/lang/Enum"
def TJx29ce0 : u_T := fun k => match k with
  | _ => ("", "", "", false)
def tyJx29ce0 : Nat → FieldType := fun k => match k with
  | _ => .int
theorem nmJx29ce0 : ∀ a, a < 0 → ∀ b, b < 0 → a ≠ b → (TJx29ce0 a).2.1 ≠ (TJx29ce0 b).2.1 := by decide +kernel
theorem tyJx29ce0_ok : ∀ k, k < 0 → parseFieldDescriptor (TJx29ce0 k).2.2.1 = some (tyJx29ce0 k) := by decide +kernel
abbrev cJx29ce0_ordinal_8abf5 : ByteArray := prog_16_method_2_code
def yJx29ce0_ordinal_8abf5 : MethodName := ⟨RJx29ce0, "ordinal", "()I"⟩
def RJ6 : String := "java/lang/Integer"
def TJ6 : u_T := fun k => match k with
  | _ => ("", "", "", false)
def tyJ6 : Nat → FieldType := fun k => match k with
  | _ => .int
theorem nmJ6 : ∀ a, a < 0 → ∀ b, b < 0 → a ≠ b → (TJ6 a).2.1 ≠ (TJ6 b).2.1 := by decide +kernel
theorem tyJ6_ok : ∀ k, k < 0 → parseFieldDescriptor (TJ6 k).2.2.1 = some (tyJ6 k) := by decide +kernel
abbrev cJ6_getChars_ba4f3 : ByteArray := prog_21_method_12_code
def yJ6_getChars_ba4f3 : MethodName := ⟨RJ6, "getChars", "(II[B)I"⟩
abbrev cJ6_stringSize_0f7a4 : ByteArray := prog_21_method_13_code
def yJ6_stringSize_0f7a4 : MethodName := ⟨RJ6, "stringSize", "(I)I"⟩
abbrev cJ6_compare_7cf53 : ByteArray := prog_21_method_40_code
def yJ6_compare_7cf53 : MethodName := ⟨RJ6, "compare", "(II)I"⟩
def RJ9 : String := "java/lang/Math"
def TJ9 : u_T := fun k => match k with
  | _ => ("", "", "", false)
def tyJ9 : Nat → FieldType := fun k => match k with
  | _ => .int
theorem nmJ9 : ∀ a, a < 0 → ∀ b, b < 0 → a ≠ b → (TJ9 a).2.1 ≠ (TJ9 b).2.1 := by decide +kernel
theorem tyJ9_ok : ∀ k, k < 0 → parseFieldDescriptor (TJ9 k).2.2.1 = some (tyJ9 k) := by decide +kernel
abbrev cJ9_max_7cf53 : ByteArray := prog_22_method_65_code
def yJ9_max_7cf53 : MethodName := ⟨RJ9, "max", "(II)I"⟩
abbrev cJ9_min_7cf53 : ByteArray := prog_22_method_69_code
def yJ9_min_7cf53 : MethodName := ⟨RJ9, "min", "(II)I"⟩
def RJ0 : String := "java/lang/String"
def TJ0 : u_T := fun k => match k with
  | 0 => ("java/lang/String", "value", "[B", true)
  | 1 => ("java/lang/String", "coder", "B", true)
  | 2 => ("java/lang/String", "hash", "I", false)
  | _ => ("java/lang/String", "hashIsZero", "Z", false)
def tyJ0 : Nat → FieldType := fun k => match k with
  | 0 => .array .byte
  | 1 => .byte
  | 2 => .int
  | _ => .boolean
theorem nmJ0 : ∀ a, a < 4 → ∀ b, b < 4 → a ≠ b → (TJ0 a).2.1 ≠ (TJ0 b).2.1 := by decide +kernel
theorem tyJ0_ok : ∀ k, k < 4 → parseFieldDescriptor (TJ0 k).2.2.1 = some (tyJ0 k) := by decide +kernel
abbrev cJ0_init_81219 : ByteArray := prog_24_method_53_code
def yJ0_init_81219 : MethodName := ⟨RJ0, "<init>", "(Ljava/lang/StringBuilder;)V"⟩
abbrev cJ0_length_8abf5 : ByteArray := prog_24_method_54_code
def yJ0_length_8abf5 : MethodName := ⟨RJ0, "length", "()I"⟩
abbrev cJ0_charAt_5068e : ByteArray := prog_24_method_56_code
def yJ0_charAt_5068e : MethodName := ⟨RJ0, "charAt", "(I)C"⟩
abbrev cJ0_getBytes_840e7 : ByteArray := prog_24_method_147_code
def yJ0_getBytes_840e7 : MethodName := ⟨RJ0, "getBytes", "([BIB)V"⟩
abbrev cJ0_init_db425 : ByteArray := prog_24_method_150_code
def yJ0_init_db425 : MethodName := ⟨RJ0, "<init>", "(Ljava/lang/AbstractStringBuilder;Ljava/lang/Void;)V"⟩
abbrev cJ0_coder_7d493 : ByteArray := prog_24_method_152_code
def yJ0_coder_7d493 : MethodName := ⟨RJ0, "coder", "()B"⟩
abbrev cJ0_isLatin1_aae02 : ByteArray := prog_24_method_154_code
def yJ0_isLatin1_aae02 : MethodName := ⟨RJ0, "isLatin1", "()Z"⟩
abbrev cJ0_checkIndex_df160 : ByteArray := prog_24_method_155_code
def yJ0_checkIndex_df160 : MethodName := ⟨RJ0, "checkIndex", "(II)V"⟩
abbrev cJ0_checkBoundsOffCount_cabcc : ByteArray := prog_24_method_157_code
def yJ0_checkBoundsOffCount_cabcc : MethodName := ⟨RJ0, "checkBoundsOffCount", "(III)I"⟩
abbrev cJ0_checkBoundsBeginEnd_23922 : ByteArray := prog_24_method_158_code
def yJ0_checkBoundsBeginEnd_23922 : MethodName := ⟨RJ0, "checkBoundsBeginEnd", "(III)V"⟩
def RJ4 : String := "java/lang/StringBuilder"
def TJ4 : u_T := fun k => match k with
  | 0 => ("java/lang/AbstractStringBuilder", "value", "[B", false)
  | 1 => ("java/lang/AbstractStringBuilder", "coder", "B", false)
  | 2 => ("java/lang/AbstractStringBuilder", "maybeLatin1", "Z", false)
  | _ => ("java/lang/AbstractStringBuilder", "count", "I", false)
def tyJ4 : Nat → FieldType := fun k => match k with
  | 0 => .array .byte
  | 1 => .byte
  | 2 => .boolean
  | _ => .int
theorem nmJ4 : ∀ a, a < 4 → ∀ b, b < 4 → a ≠ b → (TJ4 a).2.1 ≠ (TJ4 b).2.1 := by decide +kernel
theorem tyJ4_ok : ∀ k, k < 4 → parseFieldDescriptor (TJ4 k).2.2.1 = some (tyJ4 k) := by decide +kernel
abbrev cJ4_init_da8c8 : ByteArray := prog_25_method_1_code
def yJ4_init_da8c8 : MethodName := ⟨RJ4, "<init>", "()V"⟩
abbrev cJ4_append_15ec4 : ByteArray := prog_25_method_7_code
def yJ4_append_15ec4 : MethodName := ⟨RJ4, "append", "(Ljava/lang/String;)Ljava/lang/StringBuilder;"⟩
abbrev cJ4_append_bf812 : ByteArray := prog_25_method_15_code
def yJ4_append_bf812 : MethodName := ⟨RJ4, "append", "(I)Ljava/lang/StringBuilder;"⟩
abbrev cJ4_toString_0e30d : ByteArray := prog_25_method_42_code
def yJ4_toString_0e30d : MethodName := ⟨RJ4, "toString", "()Ljava/lang/String;"⟩
abbrev cJ4_length_8abf5 : ByteArray := prog_25_method_93_code
def yJ4_length_8abf5 : MethodName := ⟨RJ4, "length", "()I"⟩
def RJ1 : String := "java/lang/StringLatin1"
def TJ1 : u_T := fun k => match k with
  | _ => ("", "", "", false)
def tyJ1 : Nat → FieldType := fun k => match k with
  | _ => .int
theorem nmJ1 : ∀ a, a < 0 → ∀ b, b < 0 → a ≠ b → (TJ1 a).2.1 ≠ (TJ1 b).2.1 := by decide +kernel
theorem tyJ1_ok : ∀ k, k < 0 → parseFieldDescriptor (TJ1 k).2.2.1 = some (tyJ1 k) := by decide +kernel
abbrev cJ1_charAt_3b067 : ByteArray := prog_26_method_2_code
def yJ1_charAt_3b067 : MethodName := ⟨RJ1, "charAt", "([BI)C"⟩
abbrev cJ1_inflate_0e8fd : ByteArray := prog_26_method_50_code
def yJ1_inflate_0e8fd : MethodName := ⟨RJ1, "inflate", "([BI[BII)V"⟩
def RJ2 : String := "java/lang/StringUTF16"
def TJ2 : u_T := fun k => match k with
  | _ => ("", "", "", false)
def tyJ2 : Nat → FieldType := fun k => match k with
  | _ => .int
theorem nmJ2 : ∀ a, a < 0 → ∀ b, b < 0 → a ≠ b → (TJ2 a).2.1 ≠ (TJ2 b).2.1 := by decide +kernel
theorem tyJ2_ok : ∀ k, k < 0 → parseFieldDescriptor (TJ2 k).2.2.1 = some (tyJ2 k) := by decide +kernel
abbrev cJ2_newBytesFor_77867 : ByteArray := prog_27_method_2_code
def yJ2_newBytesFor_77867 : MethodName := ⟨RJ2, "newBytesFor", "(I)[B"⟩
abbrev cJ2_newBytesLength_0f7a4 : ByteArray := prog_27_method_3_code
def yJ2_newBytesLength_0f7a4 : MethodName := ⟨RJ2, "newBytesLength", "(I)I"⟩
abbrev cJ2_putChar_b72d1 : ByteArray := prog_27_method_4_code
def yJ2_putChar_b72d1 : MethodName := ⟨RJ2, "putChar", "([BII)V"⟩
abbrev cJ2_getChar_3b067 : ByteArray := prog_27_method_5_code
def yJ2_getChar_3b067 : MethodName := ⟨RJ2, "getChar", "([BI)C"⟩
abbrev cJ2_length_9d52b : ByteArray := prog_27_method_6_code
def yJ2_length_9d52b : MethodName := ⟨RJ2, "length", "([B)I"⟩
abbrev cJ2_coderFromArrayLen_85cad : ByteArray := prog_27_method_15_code
def yJ2_coderFromArrayLen_85cad : MethodName := ⟨RJ2, "coderFromArrayLen", "([BI)B"⟩
abbrev cJ2_compress_39247 : ByteArray := prog_27_method_17_code
def yJ2_compress_39247 : MethodName := ⟨RJ2, "compress", "([BII)[B"⟩
abbrev cJ2_compress_5af95 : ByteArray := prog_27_method_22_code
def yJ2_compress_5af95 : MethodName := ⟨RJ2, "compress", "([BI[BII)I"⟩
abbrev cJ2_getChars_46870 : ByteArray := prog_27_method_77_code
def yJ2_getChars_46870 : MethodName := ⟨RJ2, "getChars", "(III[B)I"⟩
abbrev cJ2_putCharsAt_cd4e5 : ByteArray := prog_27_method_81_code
def yJ2_putCharsAt_cd4e5 : MethodName := ⟨RJ2, "putCharsAt", "([BICCCC)I"⟩
abbrev cJ2_charAt_3b067 : ByteArray := prog_27_method_83_code
def yJ2_charAt_3b067 : MethodName := ⟨RJ2, "charAt", "([BI)C"⟩
abbrev cJ2_inflate_0e8fd : ByteArray := prog_27_method_86_code
def yJ2_inflate_0e8fd : MethodName := ⟨RJ2, "inflate", "([BI[BII)V"⟩
abbrev cJ2_getChars_ba4f3 : ByteArray := prog_27_method_89_code
def yJ2_getChars_ba4f3 : MethodName := ⟨RJ2, "getChars", "(II[B)I"⟩
abbrev cJ2_checkIndex_2214a : ByteArray := prog_27_method_91_code
def yJ2_checkIndex_2214a : MethodName := ⟨RJ2, "checkIndex", "(I[B)V"⟩
abbrev cJ2_checkBoundsBeginEnd_d044e : ByteArray := prog_27_method_93_code
def yJ2_checkBoundsBeginEnd_d044e : MethodName := ⟨RJ2, "checkBoundsBeginEnd", "(II[B)V"⟩
abbrev cJ2_checkBoundsOffCount_d044e : ByteArray := prog_27_method_94_code
def yJ2_checkBoundsOffCount_d044e : MethodName := ⟨RJ2, "checkBoundsOffCount", "(II[B)V"⟩
def RJ10 : String := "java/lang/System"
def TJ10 : u_T := fun k => match k with
  | _ => ("", "", "", false)
def tyJ10 : Nat → FieldType := fun k => match k with
  | _ => .int
theorem nmJ10 : ∀ a, a < 0 → ∀ b, b < 0 → a ≠ b → (TJ10 a).2.1 ≠ (TJ10 b).2.1 := by decide +kernel
theorem tyJ10_ok : ∀ k, k < 0 → parseFieldDescriptor (TJ10 k).2.2.1 = some (tyJ10 k) := by decide +kernel
def RJ7 : String := "java/util/Arrays"
def TJ7 : u_T := fun k => match k with
  | _ => ("", "", "", false)
def tyJ7 : Nat → FieldType := fun k => match k with
  | _ => .int
theorem nmJ7 : ∀ a, a < 0 → ∀ b, b < 0 → a ≠ b → (TJ7 a).2.1 ≠ (TJ7 b).2.1 := by decide +kernel
theorem tyJ7_ok : ∀ k, k < 0 → parseFieldDescriptor (TJ7 k).2.2.1 = some (tyJ7 k) := by decide +kernel
abbrev cJ7_copyOf_9075b : ByteArray := prog_30_method_121_code
def yJ7_copyOf_9075b : MethodName := ⟨RJ7, "copyOf", "([BI)[B"⟩
abbrev cJ7_checkLength_df160 : ByteArray := prog_30_method_131_code
def yJ7_checkLength_df160 : MethodName := ⟨RJ7, "checkLength", "(II)V"⟩
abbrev cJ7_copyOfRange_39247 : ByteArray := prog_30_method_132_code
def yJ7_copyOfRange_39247 : MethodName := ⟨RJ7, "copyOfRange", "([BII)[B"⟩
abbrev cJ7_copyOfRangeByte_39247 : ByteArray := prog_30_method_133_code
def yJ7_copyOfRangeByte_39247 : MethodName := ⟨RJ7, "copyOfRangeByte", "([BII)[B"⟩
def RJ8 : String := "jdk/internal/util/ArraysSupport"
def TJ8 : u_T := fun k => match k with
  | _ => ("", "", "", false)
def tyJ8 : Nat → FieldType := fun k => match k with
  | _ => .int
theorem nmJ8 : ∀ a, a < 0 → ∀ b, b < 0 → a ≠ b → (TJ8 a).2.1 ≠ (TJ8 b).2.1 := by decide +kernel
theorem tyJ8_ok : ∀ k, k < 0 → parseFieldDescriptor (TJ8 k).2.2.1 = some (tyJ8 k) := by decide +kernel
abbrev cJ8_newLength_cabcc : ByteArray := prog_31_method_27_code
def yJ8_newLength_cabcc : MethodName := ⟨RJ8, "newLength", "(III)I"⟩
abbrev cJ8_hugeLength_7cf53 : ByteArray := prog_31_method_28_code
def yJ8_hugeLength_7cf53 : MethodName := ⟨RJ8, "hugeLength", "(II)I"⟩
def RJ3 : String := "jdk/internal/util/Preconditions"
def TJ3 : u_T := fun k => match k with
  | _ => ("", "", "", false)
def tyJ3 : Nat → FieldType := fun k => match k with
  | _ => .int
theorem nmJ3 : ∀ a, a < 0 → ∀ b, b < 0 → a ≠ b → (TJ3 a).2.1 ≠ (TJ3 b).2.1 := by decide +kernel
theorem tyJ3_ok : ∀ k, k < 0 → parseFieldDescriptor (TJ3 k).2.2.1 = some (tyJ3 k) := by decide +kernel
abbrev cJ3_checkIndex_8e157 : ByteArray := prog_32_method_11_code
def yJ3_checkIndex_8e157 : MethodName := ⟨RJ3, "checkIndex", "(IILjava/util/function/BiFunction;)I"⟩
abbrev cJ3_checkFromToIndex_8c36e : ByteArray := prog_32_method_12_code
def yJ3_checkFromToIndex_8c36e : MethodName := ⟨RJ3, "checkFromToIndex", "(IIILjava/util/function/BiFunction;)I"⟩
abbrev cJ3_checkFromIndexSize_8c36e : ByteArray := prog_32_method_13_code
def yJ3_checkFromIndexSize_8c36e : MethodName := ⟨RJ3, "checkFromIndexSize", "(IIILjava/util/function/BiFunction;)I"⟩
def RL : String := "PeatBogLaw"
abbrev cL_below : ByteArray := method_2_code
def yL_below : MethodName := ⟨RL, "below", "(II)I"⟩
abbrev cL_cell : ByteArray := method_3_code
def yL_cell : MethodName := ⟨RL, "cell", "([II)I"⟩
abbrev cL_word : ByteArray := method_4_code
def yL_word : MethodName := ⟨RL, "word", "(Ljava/lang/String;I)I"⟩
abbrev cL_type : ByteArray := method_5_code
def yL_type : MethodName := ⟨RL, "type", "(LPeatBog;Ljava/lang/String;)V"⟩
abbrev cL_rainOf : ByteArray := method_6_code
def yL_rainOf : MethodName := ⟨RL, "rainOf", "([II)I"⟩
abbrev cL_sunOf : ByteArray := method_7_code
def yL_sunOf : MethodName := ⟨RL, "sunOf", "([II)I"⟩
abbrev cL_bog : ByteArray := method_8_code
def yL_bog : MethodName := ⟨RL, "bog", "([I)LPeatBog;"⟩
abbrev cL_orders : ByteArray := method_9_code
def yL_orders : MethodName := ⟨RL, "orders", "([II)[I"⟩
abbrev cL_told : ByteArray := method_10_code
def yL_told : MethodName := ⟨RL, "told", "([I)Ljava/lang/String;"⟩
abbrev cL_law : ByteArray := code
def yL_law : MethodName := ⟨RL, "law", "([I)Z"⟩
