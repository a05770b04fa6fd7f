section
-- ===== PART A: goes FIRST, ahead of the names: the tables' words, and 'selects' of the private methods out of them =====
/-- a private method of a class that the tables say can be made, by its rows of tables_1 -/
def lw_okq (q : MethodName × Nat) : Prop := (q.1.cls ≠ "java/lang/invoke/MethodHandle" ∧ q.1.cls ≠ "java/lang/invoke/VarHandle") ∧ Cond.instantiable q.1.cls q.2 ∈ tables_1 ∧ Cond.privateMethod q.1 ∈ tables_1 ∧ Cond.instanceMethod q.1 ∈ tables_1
theorem lw_p0 : lw_okq (⟨"TermReader$Operators", "find", "(ZJ)I"⟩, 4) := ⟨⟨by decide +kernel, by decide +kernel⟩, List.mem_of_getElem? (i := 45) (by decide +kernel), List.mem_of_getElem? (i := 59) (by decide +kernel), List.mem_of_getElem? (i := 60) (by decide +kernel)⟩
theorem lw_p1 : lw_okq (⟨"java/lang/Throwable", "fillInStackTrace", "(I)Ljava/lang/Throwable;"⟩, 6) := ⟨⟨by decide +kernel, by decide +kernel⟩, List.mem_of_getElem? (i := 386) (by decide +kernel), List.mem_of_getElem? (i := 384) (by decide +kernel), List.mem_of_getElem? (i := 385) (by decide +kernel)⟩
theorem lw_p2 : lw_okq (⟨"TermReader$Operators", "isSlot", "(I)Z"⟩, 4) := ⟨⟨by decide +kernel, by decide +kernel⟩, List.mem_of_getElem? (i := 45) (by decide +kernel), List.mem_of_getElem? (i := 420) (by decide +kernel), List.mem_of_getElem? (i := 421) (by decide +kernel)⟩
theorem lw_p3 : lw_okq (⟨"TermReader$Tokens", "skipLayout", "()Z"⟩, 11) := ⟨⟨by decide +kernel, by decide +kernel⟩, List.mem_of_getElem? (i := 177) (by decide +kernel), List.mem_of_getElem? (i := 464) (by decide +kernel), List.mem_of_getElem? (i := 465) (by decide +kernel)⟩
theorem lw_p4 : lw_okq (⟨"TermReader$Tokens", "behindComment", "(I)I"⟩, 11) := ⟨⟨by decide +kernel, by decide +kernel⟩, List.mem_of_getElem? (i := 177) (by decide +kernel), List.mem_of_getElem? (i := 470) (by decide +kernel), List.mem_of_getElem? (i := 471) (by decide +kernel)⟩
theorem lw_p5 : lw_okq (⟨"TermReader$Tokens", "scanToken", "()Z"⟩, 11) := ⟨⟨by decide +kernel, by decide +kernel⟩, List.mem_of_getElem? (i := 177) (by decide +kernel), List.mem_of_getElem? (i := 474) (by decide +kernel), List.mem_of_getElem? (i := 475) (by decide +kernel)⟩
theorem lw_p6 : lw_okq (⟨"TermReader$Tokens", "behindRow", "(Z)I"⟩, 11) := ⟨⟨by decide +kernel, by decide +kernel⟩, List.mem_of_getElem? (i := 177) (by decide +kernel), List.mem_of_getElem? (i := 479) (by decide +kernel), List.mem_of_getElem? (i := 480) (by decide +kernel)⟩
theorem lw_p7 : lw_okq (⟨"TermReader$Tokens", "addPlainName", "(I)Z"⟩, 11) := ⟨⟨by decide +kernel, by decide +kernel⟩, List.mem_of_getElem? (i := 177) (by decide +kernel), List.mem_of_getElem? (i := 494) (by decide +kernel), List.mem_of_getElem? (i := 495) (by decide +kernel)⟩
theorem lw_p8 : lw_okq (⟨"TermReader$Tokens", "addName", "(II)Z"⟩, 11) := ⟨⟨by decide +kernel, by decide +kernel⟩, List.mem_of_getElem? (i := 177) (by decide +kernel), List.mem_of_getElem? (i := 499) (by decide +kernel), List.mem_of_getElem? (i := 500) (by decide +kernel)⟩
theorem lw_p9 : lw_okq (⟨"TermReader$Tokens", "add", "(IIIIJ)Z"⟩, 11) := ⟨⟨by decide +kernel, by decide +kernel⟩, List.mem_of_getElem? (i := 177) (by decide +kernel), List.mem_of_getElem? (i := 507) (by decide +kernel), List.mem_of_getElem? (i := 508) (by decide +kernel)⟩
theorem lw_p10 : lw_okq (⟨"TermReader$Tokens", "addVariable", "(I)Z"⟩, 11) := ⟨⟨by decide +kernel, by decide +kernel⟩, List.mem_of_getElem? (i := 177) (by decide +kernel), List.mem_of_getElem? (i := 512) (by decide +kernel), List.mem_of_getElem? (i := 513) (by decide +kernel)⟩
theorem lw_p11 : lw_okq (⟨"TermReader$Tokens", "variableNumber", "(I)I"⟩, 11) := ⟨⟨by decide +kernel, by decide +kernel⟩, List.mem_of_getElem? (i := 177) (by decide +kernel), List.mem_of_getElem? (i := 516) (by decide +kernel), List.mem_of_getElem? (i := 517) (by decide +kernel)⟩
theorem lw_p12 : lw_okq (⟨"TermReader$Tokens", "isSameText", "(II)Z"⟩, 11) := ⟨⟨by decide +kernel, by decide +kernel⟩, List.mem_of_getElem? (i := 177) (by decide +kernel), List.mem_of_getElem? (i := 520) (by decide +kernel), List.mem_of_getElem? (i := 521) (by decide +kernel)⟩
theorem lw_p13 : lw_okq (⟨"TermReader$Tokens", "addInteger", "(II)Z"⟩, 11) := ⟨⟨by decide +kernel, by decide +kernel⟩, List.mem_of_getElem? (i := 177) (by decide +kernel), List.mem_of_getElem? (i := 525) (by decide +kernel), List.mem_of_getElem? (i := 526) (by decide +kernel)⟩
theorem lw_p14 : lw_okq (⟨"TermReader$Tokens", "addDigits", "(II)Z"⟩, 11) := ⟨⟨by decide +kernel, by decide +kernel⟩, List.mem_of_getElem? (i := 177) (by decide +kernel), List.mem_of_getElem? (i := 532) (by decide +kernel), List.mem_of_getElem? (i := 533) (by decide +kernel)⟩
theorem lw_p15 : lw_okq (⟨"TermReader$Tokens", "isEnd", "(I)Z"⟩, 11) := ⟨⟨by decide +kernel, by decide +kernel⟩, List.mem_of_getElem? (i := 177) (by decide +kernel), List.mem_of_getElem? (i := 537) (by decide +kernel), List.mem_of_getElem? (i := 538) (by decide +kernel)⟩
def lw_privs_1 : List (MethodName × Nat) := [(⟨"TermReader$Operators", "find", "(ZJ)I"⟩, 4), (⟨"java/lang/Throwable", "fillInStackTrace", "(I)Ljava/lang/Throwable;"⟩, 6), (⟨"TermReader$Operators", "isSlot", "(I)Z"⟩, 4), (⟨"TermReader$Tokens", "skipLayout", "()Z"⟩, 11), (⟨"TermReader$Tokens", "behindComment", "(I)I"⟩, 11), (⟨"TermReader$Tokens", "scanToken", "()Z"⟩, 11), (⟨"TermReader$Tokens", "behindRow", "(Z)I"⟩, 11), (⟨"TermReader$Tokens", "addPlainName", "(I)Z"⟩, 11), (⟨"TermReader$Tokens", "addName", "(II)Z"⟩, 11), (⟨"TermReader$Tokens", "add", "(IIIIJ)Z"⟩, 11), (⟨"TermReader$Tokens", "addVariable", "(I)Z"⟩, 11), (⟨"TermReader$Tokens", "variableNumber", "(I)I"⟩, 11), (⟨"TermReader$Tokens", "isSameText", "(II)Z"⟩, 11), (⟨"TermReader$Tokens", "addInteger", "(II)Z"⟩, 11), (⟨"TermReader$Tokens", "addDigits", "(II)Z"⟩, 11), (⟨"TermReader$Tokens", "isEnd", "(I)Z"⟩, 11)]
theorem lw_r1 : ∀ q ∈ lw_privs_1, lw_okq q := List.forall_mem_cons.mpr ⟨lw_p0, List.forall_mem_cons.mpr ⟨lw_p1, List.forall_mem_cons.mpr ⟨lw_p2, List.forall_mem_cons.mpr ⟨lw_p3, List.forall_mem_cons.mpr ⟨lw_p4, List.forall_mem_cons.mpr ⟨lw_p5, List.forall_mem_cons.mpr ⟨lw_p6, List.forall_mem_cons.mpr ⟨lw_p7, List.forall_mem_cons.mpr ⟨lw_p8, List.forall_mem_cons.mpr ⟨lw_p9, List.forall_mem_cons.mpr ⟨lw_p10, List.forall_mem_cons.mpr ⟨lw_p11, List.forall_mem_cons.mpr ⟨lw_p12, List.forall_mem_cons.mpr ⟨lw_p13, List.forall_mem_cons.mpr ⟨lw_p14, List.forall_mem_cons.mpr ⟨lw_p15, fun _ h => absurd h List.not_mem_nil⟩⟩⟩⟩⟩⟩⟩⟩⟩⟩⟩⟩⟩⟩⟩⟩
theorem lw_p16 : lw_okq (⟨"TermReader$Tokens", "addQuotedName", "()Z"⟩, 11) := ⟨⟨by decide +kernel, by decide +kernel⟩, List.mem_of_getElem? (i := 177) (by decide +kernel), List.mem_of_getElem? (i := 541) (by decide +kernel), List.mem_of_getElem? (i := 542) (by decide +kernel)⟩
theorem lw_p17 : lw_okq (⟨"TermReader$Tokens", "addString", "()Z"⟩, 11) := ⟨⟨by decide +kernel, by decide +kernel⟩, List.mem_of_getElem? (i := 177) (by decide +kernel), List.mem_of_getElem? (i := 548) (by decide +kernel), List.mem_of_getElem? (i := 549) (by decide +kernel)⟩
theorem lw_p18 : lw_okq (⟨"TermReader$Tokens", "isToken", "(I)Z"⟩, 11) := ⟨⟨by decide +kernel, by decide +kernel⟩, List.mem_of_getElem? (i := 177) (by decide +kernel), List.mem_of_getElem? (i := 560) (by decide +kernel), List.mem_of_getElem? (i := 561) (by decide +kernel)⟩
theorem lw_p19 : lw_okq (⟨"TermReader$Parser", "term", "(II)I"⟩, 5) := ⟨⟨by decide +kernel, by decide +kernel⟩, List.mem_of_getElem? (i := 217) (by decide +kernel), List.mem_of_getElem? (i := 568) (by decide +kernel), List.mem_of_getElem? (i := 569) (by decide +kernel)⟩
theorem lw_p20 : lw_okq (⟨"TermReader$Parser", "isPrefixed", "(I)Z"⟩, 5) := ⟨⟨by decide +kernel, by decide +kernel⟩, List.mem_of_getElem? (i := 217) (by decide +kernel), List.mem_of_getElem? (i := 572) (by decide +kernel), List.mem_of_getElem? (i := 573) (by decide +kernel)⟩
theorem lw_p21 : lw_okq (⟨"TermReader$Tokens", "isNextTo", "(I)Z"⟩, 11) := ⟨⟨by decide +kernel, by decide +kernel⟩, List.mem_of_getElem? (i := 177) (by decide +kernel), List.mem_of_getElem? (i := 581) (by decide +kernel), List.mem_of_getElem? (i := 582) (by decide +kernel)⟩
theorem lw_p22 : lw_okq (⟨"TermReader$Tokens", "isQuoted", "(I)Z"⟩, 11) := ⟨⟨by decide +kernel, by decide +kernel⟩, List.mem_of_getElem? (i := 177) (by decide +kernel), List.mem_of_getElem? (i := 602) (by decide +kernel), List.mem_of_getElem? (i := 603) (by decide +kernel)⟩
theorem lw_p23 : lw_okq (⟨"TermReader$Parser", "isBareBehind", "(I)Z"⟩, 5) := ⟨⟨by decide +kernel, by decide +kernel⟩, List.mem_of_getElem? (i := 217) (by decide +kernel), List.mem_of_getElem? (i := 619) (by decide +kernel), List.mem_of_getElem? (i := 620) (by decide +kernel)⟩
theorem lw_p24 : lw_okq (⟨"TermReader$Parser", "prefixed", "(I)I"⟩, 5) := ⟨⟨by decide +kernel, by decide +kernel⟩, List.mem_of_getElem? (i := 217) (by decide +kernel), List.mem_of_getElem? (i := 627) (by decide +kernel), List.mem_of_getElem? (i := 628) (by decide +kernel)⟩
theorem lw_p25 : lw_okq (⟨"TermReader$Operators", "type", "(I)I"⟩, 4) := ⟨⟨by decide +kernel, by decide +kernel⟩, List.mem_of_getElem? (i := 45) (by decide +kernel), List.mem_of_getElem? (i := 639) (by decide +kernel), List.mem_of_getElem? (i := 640) (by decide +kernel)⟩
theorem lw_p26 : lw_okq (⟨"TermReader$Parts", "isPart", "(I)Z"⟩, 8) := ⟨⟨by decide +kernel, by decide +kernel⟩, List.mem_of_getElem? (i := 142) (by decide +kernel), List.mem_of_getElem? (i := 657) (by decide +kernel), List.mem_of_getElem? (i := 658) (by decide +kernel)⟩
theorem lw_p27 : lw_okq (⟨"TermReader$Parts", "add", "(IIIII)I"⟩, 8) := ⟨⟨by decide +kernel, by decide +kernel⟩, List.mem_of_getElem? (i := 142) (by decide +kernel), List.mem_of_getElem? (i := 668) (by decide +kernel), List.mem_of_getElem? (i := 669) (by decide +kernel)⟩
theorem lw_p28 : lw_okq (⟨"TermReader$Parser", "rest", "(III)I"⟩, 5) := ⟨⟨by decide +kernel, by decide +kernel⟩, List.mem_of_getElem? (i := 217) (by decide +kernel), List.mem_of_getElem? (i := 672) (by decide +kernel), List.mem_of_getElem? (i := 673) (by decide +kernel)⟩
theorem lw_p29 : lw_okq (⟨"TermReader$Parser", "infixed", "(III)I"⟩, 5) := ⟨⟨by decide +kernel, by decide +kernel⟩, List.mem_of_getElem? (i := 217) (by decide +kernel), List.mem_of_getElem? (i := 684) (by decide +kernel), List.mem_of_getElem? (i := 685) (by decide +kernel)⟩
theorem lw_p30 : lw_okq (⟨"TermReader$Parser", "named", "(III)I"⟩, 5) := ⟨⟨by decide +kernel, by decide +kernel⟩, List.mem_of_getElem? (i := 217) (by decide +kernel), List.mem_of_getElem? (i := 688) (by decide +kernel), List.mem_of_getElem? (i := 689) (by decide +kernel)⟩
theorem lw_p31 : lw_okq (⟨"TermReader$Parser", "postfixed", "(I)I"⟩, 5) := ⟨⟨by decide +kernel, by decide +kernel⟩, List.mem_of_getElem? (i := 217) (by decide +kernel), List.mem_of_getElem? (i := 701) (by decide +kernel), List.mem_of_getElem? (i := 702) (by decide +kernel)⟩
def lw_privs_2 : List (MethodName × Nat) := [(⟨"TermReader$Tokens", "addQuotedName", "()Z"⟩, 11), (⟨"TermReader$Tokens", "addString", "()Z"⟩, 11), (⟨"TermReader$Tokens", "isToken", "(I)Z"⟩, 11), (⟨"TermReader$Parser", "term", "(II)I"⟩, 5), (⟨"TermReader$Parser", "isPrefixed", "(I)Z"⟩, 5), (⟨"TermReader$Tokens", "isNextTo", "(I)Z"⟩, 11), (⟨"TermReader$Tokens", "isQuoted", "(I)Z"⟩, 11), (⟨"TermReader$Parser", "isBareBehind", "(I)Z"⟩, 5), (⟨"TermReader$Parser", "prefixed", "(I)I"⟩, 5), (⟨"TermReader$Operators", "type", "(I)I"⟩, 4), (⟨"TermReader$Parts", "isPart", "(I)Z"⟩, 8), (⟨"TermReader$Parts", "add", "(IIIII)I"⟩, 8), (⟨"TermReader$Parser", "rest", "(III)I"⟩, 5), (⟨"TermReader$Parser", "infixed", "(III)I"⟩, 5), (⟨"TermReader$Parser", "named", "(III)I"⟩, 5), (⟨"TermReader$Parser", "postfixed", "(I)I"⟩, 5)]
theorem lw_r2 : ∀ q ∈ lw_privs_2, lw_okq q := List.forall_mem_cons.mpr ⟨lw_p16, List.forall_mem_cons.mpr ⟨lw_p17, List.forall_mem_cons.mpr ⟨lw_p18, List.forall_mem_cons.mpr ⟨lw_p19, List.forall_mem_cons.mpr ⟨lw_p20, List.forall_mem_cons.mpr ⟨lw_p21, List.forall_mem_cons.mpr ⟨lw_p22, List.forall_mem_cons.mpr ⟨lw_p23, List.forall_mem_cons.mpr ⟨lw_p24, List.forall_mem_cons.mpr ⟨lw_p25, List.forall_mem_cons.mpr ⟨lw_p26, List.forall_mem_cons.mpr ⟨lw_p27, List.forall_mem_cons.mpr ⟨lw_p28, List.forall_mem_cons.mpr ⟨lw_p29, List.forall_mem_cons.mpr ⟨lw_p30, List.forall_mem_cons.mpr ⟨lw_p31, fun _ h => absurd h List.not_mem_nil⟩⟩⟩⟩⟩⟩⟩⟩⟩⟩⟩⟩⟩⟩⟩⟩
theorem lw_p32 : lw_okq (⟨"TermReader$Parser", "unit", "(I)I"⟩, 5) := ⟨⟨by decide +kernel, by decide +kernel⟩, List.mem_of_getElem? (i := 217) (by decide +kernel), List.mem_of_getElem? (i := 705) (by decide +kernel), List.mem_of_getElem? (i := 706) (by decide +kernel)⟩
theorem lw_p33 : lw_okq (⟨"TermReader$Parser", "string", "(I)I"⟩, 5) := ⟨⟨by decide +kernel, by decide +kernel⟩, List.mem_of_getElem? (i := 217) (by decide +kernel), List.mem_of_getElem? (i := 717) (by decide +kernel), List.mem_of_getElem? (i := 718) (by decide +kernel)⟩
theorem lw_p34 : lw_okq (⟨"TermReader$Parser", "name", "(I)I"⟩, 5) := ⟨⟨by decide +kernel, by decide +kernel⟩, List.mem_of_getElem? (i := 217) (by decide +kernel), List.mem_of_getElem? (i := 729) (by decide +kernel), List.mem_of_getElem? (i := 730) (by decide +kernel)⟩
theorem lw_p35 : lw_okq (⟨"TermReader$Parser", "arguments", "(I)I"⟩, 5) := ⟨⟨by decide +kernel, by decide +kernel⟩, List.mem_of_getElem? (i := 217) (by decide +kernel), List.mem_of_getElem? (i := 733) (by decide +kernel), List.mem_of_getElem? (i := 734) (by decide +kernel)⟩
theorem lw_p36 : lw_okq (⟨"TermReader$Parser", "take", "(I)Z"⟩, 5) := ⟨⟨by decide +kernel, by decide +kernel⟩, List.mem_of_getElem? (i := 217) (by decide +kernel), List.mem_of_getElem? (i := 738) (by decide +kernel), List.mem_of_getElem? (i := 739) (by decide +kernel)⟩
theorem lw_p37 : lw_okq (⟨"TermReader$Parser", "enclosed", "(I)I"⟩, 5) := ⟨⟨by decide +kernel, by decide +kernel⟩, List.mem_of_getElem? (i := 217) (by decide +kernel), List.mem_of_getElem? (i := 743) (by decide +kernel), List.mem_of_getElem? (i := 744) (by decide +kernel)⟩
theorem lw_p38 : lw_okq (⟨"TermReader$Parser", "list", "(I)I"⟩, 5) := ⟨⟨by decide +kernel, by decide +kernel⟩, List.mem_of_getElem? (i := 217) (by decide +kernel), List.mem_of_getElem? (i := 747) (by decide +kernel), List.mem_of_getElem? (i := 748) (by decide +kernel)⟩
theorem lw_p39 : lw_okq (⟨"TermReader$Parser", "listed", "(II)I"⟩, 5) := ⟨⟨by decide +kernel, by decide +kernel⟩, List.mem_of_getElem? (i := 217) (by decide +kernel), List.mem_of_getElem? (i := 751) (by decide +kernel), List.mem_of_getElem? (i := 752) (by decide +kernel)⟩
theorem lw_p40 : lw_okq (⟨"TermReader", "isTerm", "(I)Z"⟩, 10) := ⟨⟨by decide +kernel, by decide +kernel⟩, List.mem_of_getElem? (i := 23) (by decide +kernel), List.mem_of_getElem? (i := 796) (by decide +kernel), List.mem_of_getElem? (i := 797) (by decide +kernel)⟩
theorem lw_p41 : lw_okq (⟨"TermReader$Writer", "part", "(III)V"⟩, 4) := ⟨⟨by decide +kernel, by decide +kernel⟩, List.mem_of_getElem? (i := 239) (by decide +kernel), List.mem_of_getElem? (i := 806) (by decide +kernel), List.mem_of_getElem? (i := 807) (by decide +kernel)⟩
theorem lw_p42 : lw_okq (⟨"TermReader$Writer", "integer", "(I)V"⟩, 4) := ⟨⟨by decide +kernel, by decide +kernel⟩, List.mem_of_getElem? (i := 239) (by decide +kernel), List.mem_of_getElem? (i := 819) (by decide +kernel), List.mem_of_getElem? (i := 820) (by decide +kernel)⟩
theorem lw_p43 : lw_okq (⟨"TermReader$Writer", "name", "(I)V"⟩, 4) := ⟨⟨by decide +kernel, by decide +kernel⟩, List.mem_of_getElem? (i := 239) (by decide +kernel), List.mem_of_getElem? (i := 824) (by decide +kernel), List.mem_of_getElem? (i := 825) (by decide +kernel)⟩
theorem lw_p44 : lw_okq (⟨"TermReader$Writer", "isPlain", "(II)Z"⟩, 4) := ⟨⟨by decide +kernel, by decide +kernel⟩, List.mem_of_getElem? (i := 239) (by decide +kernel), List.mem_of_getElem? (i := 832) (by decide +kernel), List.mem_of_getElem? (i := 833) (by decide +kernel)⟩
theorem lw_p45 : lw_okq (⟨"TermReader$Writer", "isRow", "(IIZ)Z"⟩, 4) := ⟨⟨by decide +kernel, by decide +kernel⟩, List.mem_of_getElem? (i := 239) (by decide +kernel), List.mem_of_getElem? (i := 838) (by decide +kernel), List.mem_of_getElem? (i := 839) (by decide +kernel)⟩
theorem lw_p46 : lw_okq (⟨"TermReader$Writer", "compound", "(III)V"⟩, 4) := ⟨⟨by decide +kernel, by decide +kernel⟩, List.mem_of_getElem? (i := 239) (by decide +kernel), List.mem_of_getElem? (i := 847) (by decide +kernel), List.mem_of_getElem? (i := 848) (by decide +kernel)⟩
theorem lw_p47 : lw_okq (⟨"TermReader$Writer", "slotOf", "(I)I"⟩, 4) := ⟨⟨by decide +kernel, by decide +kernel⟩, List.mem_of_getElem? (i := 239) (by decide +kernel), List.mem_of_getElem? (i := 851) (by decide +kernel), List.mem_of_getElem? (i := 852) (by decide +kernel)⟩
def lw_privs_3 : List (MethodName × Nat) := [(⟨"TermReader$Parser", "unit", "(I)I"⟩, 5), (⟨"TermReader$Parser", "string", "(I)I"⟩, 5), (⟨"TermReader$Parser", "name", "(I)I"⟩, 5), (⟨"TermReader$Parser", "arguments", "(I)I"⟩, 5), (⟨"TermReader$Parser", "take", "(I)Z"⟩, 5), (⟨"TermReader$Parser", "enclosed", "(I)I"⟩, 5), (⟨"TermReader$Parser", "list", "(I)I"⟩, 5), (⟨"TermReader$Parser", "listed", "(II)I"⟩, 5), (⟨"TermReader", "isTerm", "(I)Z"⟩, 10), (⟨"TermReader$Writer", "part", "(III)V"⟩, 4), (⟨"TermReader$Writer", "integer", "(I)V"⟩, 4), (⟨"TermReader$Writer", "name", "(I)V"⟩, 4), (⟨"TermReader$Writer", "isPlain", "(II)Z"⟩, 4), (⟨"TermReader$Writer", "isRow", "(IIZ)Z"⟩, 4), (⟨"TermReader$Writer", "compound", "(III)V"⟩, 4), (⟨"TermReader$Writer", "slotOf", "(I)I"⟩, 4)]
theorem lw_r3 : ∀ q ∈ lw_privs_3, lw_okq q := List.forall_mem_cons.mpr ⟨lw_p32, List.forall_mem_cons.mpr ⟨lw_p33, List.forall_mem_cons.mpr ⟨lw_p34, List.forall_mem_cons.mpr ⟨lw_p35, List.forall_mem_cons.mpr ⟨lw_p36, List.forall_mem_cons.mpr ⟨lw_p37, List.forall_mem_cons.mpr ⟨lw_p38, List.forall_mem_cons.mpr ⟨lw_p39, List.forall_mem_cons.mpr ⟨lw_p40, List.forall_mem_cons.mpr ⟨lw_p41, List.forall_mem_cons.mpr ⟨lw_p42, List.forall_mem_cons.mpr ⟨lw_p43, List.forall_mem_cons.mpr ⟨lw_p44, List.forall_mem_cons.mpr ⟨lw_p45, List.forall_mem_cons.mpr ⟨lw_p46, List.forall_mem_cons.mpr ⟨lw_p47, fun _ h => absurd h List.not_mem_nil⟩⟩⟩⟩⟩⟩⟩⟩⟩⟩⟩⟩⟩⟩⟩⟩
theorem lw_p48 : lw_okq (⟨"TermReader$Writer", "bracketed", "(IIII)V"⟩, 4) := ⟨⟨by decide +kernel, by decide +kernel⟩, List.mem_of_getElem? (i := 239) (by decide +kernel), List.mem_of_getElem? (i := 878) (by decide +kernel), List.mem_of_getElem? (i := 879) (by decide +kernel)⟩
theorem lw_p49 : lw_okq (⟨"TermReader$Writer", "operated", "(III)V"⟩, 4) := ⟨⟨by decide +kernel, by decide +kernel⟩, List.mem_of_getElem? (i := 239) (by decide +kernel), List.mem_of_getElem? (i := 883) (by decide +kernel), List.mem_of_getElem? (i := 884) (by decide +kernel)⟩
theorem lw_p50 : lw_okq (⟨"TermReader$Writer", "operand", "(III)V"⟩, 4) := ⟨⟨by decide +kernel, by decide +kernel⟩, List.mem_of_getElem? (i := 239) (by decide +kernel), List.mem_of_getElem? (i := 893) (by decide +kernel), List.mem_of_getElem? (i := 894) (by decide +kernel)⟩
theorem lw_p51 : lw_okq (⟨"TermReader$Writer", "leftMost", "(II)I"⟩, 4) := ⟨⟨by decide +kernel, by decide +kernel⟩, List.mem_of_getElem? (i := 239) (by decide +kernel), List.mem_of_getElem? (i := 903) (by decide +kernel), List.mem_of_getElem? (i := 904) (by decide +kernel)⟩
theorem lw_p52 : lw_okq (⟨"TermReader$Writer", "infixName", "(I)V"⟩, 4) := ⟨⟨by decide +kernel, by decide +kernel⟩, List.mem_of_getElem? (i := 239) (by decide +kernel), List.mem_of_getElem? (i := 909) (by decide +kernel), List.mem_of_getElem? (i := 910) (by decide +kernel)⟩
theorem lw_p53 : lw_okq (⟨"TermReader$Writer", "list", "(II)V"⟩, 4) := ⟨⟨by decide +kernel, by decide +kernel⟩, List.mem_of_getElem? (i := 239) (by decide +kernel), List.mem_of_getElem? (i := 925) (by decide +kernel), List.mem_of_getElem? (i := 926) (by decide +kernel)⟩
theorem lw_p54 : lw_okq (⟨"TermReader$Writer", "arguments", "(II)V"⟩, 4) := ⟨⟨by decide +kernel, by decide +kernel⟩, List.mem_of_getElem? (i := 239) (by decide +kernel), List.mem_of_getElem? (i := 939) (by decide +kernel), List.mem_of_getElem? (i := 940) (by decide +kernel)⟩
theorem lw_p55 : lw_okq (⟨"TermReader$Parts", "same", "(III)Z"⟩, 8) := ⟨⟨by decide +kernel, by decide +kernel⟩, List.mem_of_getElem? (i := 142) (by decide +kernel), List.mem_of_getElem? (i := 951) (by decide +kernel), List.mem_of_getElem? (i := 952) (by decide +kernel)⟩
theorem lw_p56 : lw_okq (⟨"TermReader$Parts", "isSameName", "(II)Z"⟩, 8) := ⟨⟨by decide +kernel, by decide +kernel⟩, List.mem_of_getElem? (i := 142) (by decide +kernel), List.mem_of_getElem? (i := 959) (by decide +kernel), List.mem_of_getElem? (i := 960) (by decide +kernel)⟩
theorem lw_p57 : lw_okq (⟨"TermReaderModel", "tell", "(JII)V"⟩, 44) := ⟨⟨by decide +kernel, by decide +kernel⟩, List.mem_of_getElem? (i := 991) (by decide +kernel), List.mem_of_getElem? (i := 1000) (by decide +kernel), List.mem_of_getElem? (i := 1001) (by decide +kernel)⟩
theorem lw_p58 : lw_okq (⟨"TermReaderModel", "opAt", "(J)I"⟩, 44) := ⟨⟨by decide +kernel, by decide +kernel⟩, List.mem_of_getElem? (i := 991) (by decide +kernel), List.mem_of_getElem? (i := 1004) (by decide +kernel), List.mem_of_getElem? (i := 1005) (by decide +kernel)⟩
theorem lw_p59 : lw_okq (⟨"TermReaderModel", "operators", "()I"⟩, 44) := ⟨⟨by decide +kernel, by decide +kernel⟩, List.mem_of_getElem? (i := 991) (by decide +kernel), List.mem_of_getElem? (i := 1168) (by decide +kernel), List.mem_of_getElem? (i := 1169) (by decide +kernel)⟩
theorem lw_p60 : lw_okq (⟨"TermReaderModel", "enter", "(III)V"⟩, 44) := ⟨⟨by decide +kernel, by decide +kernel⟩, List.mem_of_getElem? (i := 991) (by decide +kernel), List.mem_of_getElem? (i := 1182) (by decide +kernel), List.mem_of_getElem? (i := 1183) (by decide +kernel)⟩
theorem lw_p61 : lw_okq (⟨"TermReaderModel", "begin", "()V"⟩, 44) := ⟨⟨by decide +kernel, by decide +kernel⟩, List.mem_of_getElem? (i := 991) (by decide +kernel), List.mem_of_getElem? (i := 1186) (by decide +kernel), List.mem_of_getElem? (i := 1187) (by decide +kernel)⟩
theorem lw_p62 : lw_okq (⟨"TermReaderModel", "scan", "(I)V"⟩, 44) := ⟨⟨by decide +kernel, by decide +kernel⟩, List.mem_of_getElem? (i := 991) (by decide +kernel), List.mem_of_getElem? (i := 1190) (by decide +kernel), List.mem_of_getElem? (i := 1191) (by decide +kernel)⟩
theorem lw_p63 : lw_okq (⟨"TermReaderModel", "behindLayout", "(I)I"⟩, 44) := ⟨⟨by decide +kernel, by decide +kernel⟩, List.mem_of_getElem? (i := 991) (by decide +kernel), List.mem_of_getElem? (i := 1194) (by decide +kernel), List.mem_of_getElem? (i := 1195) (by decide +kernel)⟩
def lw_privs_4 : List (MethodName × Nat) := [(⟨"TermReader$Writer", "bracketed", "(IIII)V"⟩, 4), (⟨"TermReader$Writer", "operated", "(III)V"⟩, 4), (⟨"TermReader$Writer", "operand", "(III)V"⟩, 4), (⟨"TermReader$Writer", "leftMost", "(II)I"⟩, 4), (⟨"TermReader$Writer", "infixName", "(I)V"⟩, 4), (⟨"TermReader$Writer", "list", "(II)V"⟩, 4), (⟨"TermReader$Writer", "arguments", "(II)V"⟩, 4), (⟨"TermReader$Parts", "same", "(III)Z"⟩, 8), (⟨"TermReader$Parts", "isSameName", "(II)Z"⟩, 8), (⟨"TermReaderModel", "tell", "(JII)V"⟩, 44), (⟨"TermReaderModel", "opAt", "(J)I"⟩, 44), (⟨"TermReaderModel", "operators", "()I"⟩, 44), (⟨"TermReaderModel", "enter", "(III)V"⟩, 44), (⟨"TermReaderModel", "begin", "()V"⟩, 44), (⟨"TermReaderModel", "scan", "(I)V"⟩, 44), (⟨"TermReaderModel", "behindLayout", "(I)I"⟩, 44)]
theorem lw_r4 : ∀ q ∈ lw_privs_4, lw_okq q := List.forall_mem_cons.mpr ⟨lw_p48, List.forall_mem_cons.mpr ⟨lw_p49, List.forall_mem_cons.mpr ⟨lw_p50, List.forall_mem_cons.mpr ⟨lw_p51, List.forall_mem_cons.mpr ⟨lw_p52, List.forall_mem_cons.mpr ⟨lw_p53, List.forall_mem_cons.mpr ⟨lw_p54, List.forall_mem_cons.mpr ⟨lw_p55, List.forall_mem_cons.mpr ⟨lw_p56, List.forall_mem_cons.mpr ⟨lw_p57, List.forall_mem_cons.mpr ⟨lw_p58, List.forall_mem_cons.mpr ⟨lw_p59, List.forall_mem_cons.mpr ⟨lw_p60, List.forall_mem_cons.mpr ⟨lw_p61, List.forall_mem_cons.mpr ⟨lw_p62, List.forall_mem_cons.mpr ⟨lw_p63, fun _ h => absurd h List.not_mem_nil⟩⟩⟩⟩⟩⟩⟩⟩⟩⟩⟩⟩⟩⟩⟩⟩
theorem lw_p64 : lw_okq (⟨"TermReaderModel", "charAt", "(I)I"⟩, 44) := ⟨⟨by decide +kernel, by decide +kernel⟩, List.mem_of_getElem? (i := 991) (by decide +kernel), List.mem_of_getElem? (i := 1198) (by decide +kernel), List.mem_of_getElem? (i := 1199) (by decide +kernel)⟩
theorem lw_p65 : lw_okq (⟨"TermReaderModel", "word", "(I)I"⟩, 44) := ⟨⟨by decide +kernel, by decide +kernel⟩, List.mem_of_getElem? (i := 991) (by decide +kernel), List.mem_of_getElem? (i := 1205) (by decide +kernel), List.mem_of_getElem? (i := 1206) (by decide +kernel)⟩
theorem lw_p66 : lw_okq (⟨"TermReaderModel", "keep", "(I)V"⟩, 44) := ⟨⟨by decide +kernel, by decide +kernel⟩, List.mem_of_getElem? (i := 991) (by decide +kernel), List.mem_of_getElem? (i := 1212) (by decide +kernel), List.mem_of_getElem? (i := 1213) (by decide +kernel)⟩
theorem lw_p67 : lw_okq (⟨"TermReaderModel", "number", "(I)V"⟩, 44) := ⟨⟨by decide +kernel, by decide +kernel⟩, List.mem_of_getElem? (i := 991) (by decide +kernel), List.mem_of_getElem? (i := 1216) (by decide +kernel), List.mem_of_getElem? (i := 1217) (by decide +kernel)⟩
theorem lw_p68 : lw_okq (⟨"TermReaderModel", "signs", "(I)V"⟩, 44) := ⟨⟨by decide +kernel, by decide +kernel⟩, List.mem_of_getElem? (i := 991) (by decide +kernel), List.mem_of_getElem? (i := 1224) (by decide +kernel), List.mem_of_getElem? (i := 1225) (by decide +kernel)⟩
theorem lw_p69 : lw_okq (⟨"TermReaderModel", "quotes", "(II)V"⟩, 44) := ⟨⟨by decide +kernel, by decide +kernel⟩, List.mem_of_getElem? (i := 991) (by decide +kernel), List.mem_of_getElem? (i := 1228) (by decide +kernel), List.mem_of_getElem? (i := 1229) (by decide +kernel)⟩
theorem lw_p70 : lw_okq (⟨"TermReaderModel", "single", "(II)V"⟩, 44) := ⟨⟨by decide +kernel, by decide +kernel⟩, List.mem_of_getElem? (i := 991) (by decide +kernel), List.mem_of_getElem? (i := 1232) (by decide +kernel), List.mem_of_getElem? (i := 1233) (by decide +kernel)⟩
theorem lw_p71 : lw_okq (⟨"TermReaderModel", "add", "(III)I"⟩, 44) := ⟨⟨by decide +kernel, by decide +kernel⟩, List.mem_of_getElem? (i := 991) (by decide +kernel), List.mem_of_getElem? (i := 1236) (by decide +kernel), List.mem_of_getElem? (i := 1237) (by decide +kernel)⟩
theorem lw_p72 : lw_okq (⟨"TermReaderModel", "variable", "()I"⟩, 44) := ⟨⟨by decide +kernel, by decide +kernel⟩, List.mem_of_getElem? (i := 991) (by decide +kernel), List.mem_of_getElem? (i := 1240) (by decide +kernel), List.mem_of_getElem? (i := 1241) (by decide +kernel)⟩
theorem lw_p73 : lw_okq (⟨"TermReaderModel", "intern", "()I"⟩, 44) := ⟨⟨by decide +kernel, by decide +kernel⟩, List.mem_of_getElem? (i := 991) (by decide +kernel), List.mem_of_getElem? (i := 1244) (by decide +kernel), List.mem_of_getElem? (i := 1245) (by decide +kernel)⟩
theorem lw_p74 : lw_okq (⟨"TermReaderModel", "string", "()V"⟩, 44) := ⟨⟨by decide +kernel, by decide +kernel⟩, List.mem_of_getElem? (i := 991) (by decide +kernel), List.mem_of_getElem? (i := 1248) (by decide +kernel), List.mem_of_getElem? (i := 1249) (by decide +kernel)⟩
theorem lw_p75 : lw_okq (⟨"TermReaderModel", "named", "(II)I"⟩, 44) := ⟨⟨by decide +kernel, by decide +kernel⟩, List.mem_of_getElem? (i := 991) (by decide +kernel), List.mem_of_getElem? (i := 1252) (by decide +kernel), List.mem_of_getElem? (i := 1253) (by decide +kernel)⟩
theorem lw_p76 : lw_okq (⟨"TermReaderModel", "nameBegins", "(I)V"⟩, 44) := ⟨⟨by decide +kernel, by decide +kernel⟩, List.mem_of_getElem? (i := 991) (by decide +kernel), List.mem_of_getElem? (i := 1256) (by decide +kernel), List.mem_of_getElem? (i := 1257) (by decide +kernel)⟩
theorem lw_p77 : lw_okq (⟨"TermReaderModel", "key", "()J"⟩, 44) := ⟨⟨by decide +kernel, by decide +kernel⟩, List.mem_of_getElem? (i := 991) (by decide +kernel), List.mem_of_getElem? (i := 1260) (by decide +kernel), List.mem_of_getElem? (i := 1261) (by decide +kernel)⟩
theorem lw_p78 : lw_okq (⟨"TermReaderModel", "prefixOf", "(J)I"⟩, 44) := ⟨⟨by decide +kernel, by decide +kernel⟩, List.mem_of_getElem? (i := 991) (by decide +kernel), List.mem_of_getElem? (i := 1265) (by decide +kernel), List.mem_of_getElem? (i := 1266) (by decide +kernel)⟩
theorem lw_p79 : lw_okq (⟨"TermReaderModel", "infixOf", "(J)I"⟩, 44) := ⟨⟨by decide +kernel, by decide +kernel⟩, List.mem_of_getElem? (i := 991) (by decide +kernel), List.mem_of_getElem? (i := 1269) (by decide +kernel), List.mem_of_getElem? (i := 1270) (by decide +kernel)⟩
def lw_privs_5 : List (MethodName × Nat) := [(⟨"TermReaderModel", "charAt", "(I)I"⟩, 44), (⟨"TermReaderModel", "word", "(I)I"⟩, 44), (⟨"TermReaderModel", "keep", "(I)V"⟩, 44), (⟨"TermReaderModel", "number", "(I)V"⟩, 44), (⟨"TermReaderModel", "signs", "(I)V"⟩, 44), (⟨"TermReaderModel", "quotes", "(II)V"⟩, 44), (⟨"TermReaderModel", "single", "(II)V"⟩, 44), (⟨"TermReaderModel", "add", "(III)I"⟩, 44), (⟨"TermReaderModel", "variable", "()I"⟩, 44), (⟨"TermReaderModel", "intern", "()I"⟩, 44), (⟨"TermReaderModel", "string", "()V"⟩, 44), (⟨"TermReaderModel", "named", "(II)I"⟩, 44), (⟨"TermReaderModel", "nameBegins", "(I)V"⟩, 44), (⟨"TermReaderModel", "key", "()J"⟩, 44), (⟨"TermReaderModel", "prefixOf", "(J)I"⟩, 44), (⟨"TermReaderModel", "infixOf", "(J)I"⟩, 44)]
theorem lw_r5 : ∀ q ∈ lw_privs_5, lw_okq q := List.forall_mem_cons.mpr ⟨lw_p64, List.forall_mem_cons.mpr ⟨lw_p65, List.forall_mem_cons.mpr ⟨lw_p66, List.forall_mem_cons.mpr ⟨lw_p67, List.forall_mem_cons.mpr ⟨lw_p68, List.forall_mem_cons.mpr ⟨lw_p69, List.forall_mem_cons.mpr ⟨lw_p70, List.forall_mem_cons.mpr ⟨lw_p71, List.forall_mem_cons.mpr ⟨lw_p72, List.forall_mem_cons.mpr ⟨lw_p73, List.forall_mem_cons.mpr ⟨lw_p74, List.forall_mem_cons.mpr ⟨lw_p75, List.forall_mem_cons.mpr ⟨lw_p76, List.forall_mem_cons.mpr ⟨lw_p77, List.forall_mem_cons.mpr ⟨lw_p78, List.forall_mem_cons.mpr ⟨lw_p79, fun _ h => absurd h List.not_mem_nil⟩⟩⟩⟩⟩⟩⟩⟩⟩⟩⟩⟩⟩⟩⟩⟩
theorem lw_p80 : lw_okq (⟨"TermReaderModel", "postfixOf", "(J)I"⟩, 44) := ⟨⟨by decide +kernel, by decide +kernel⟩, List.mem_of_getElem? (i := 991) (by decide +kernel), List.mem_of_getElem? (i := 1274) (by decide +kernel), List.mem_of_getElem? (i := 1275) (by decide +kernel)⟩
theorem lw_p81 : lw_okq (⟨"TermReaderModel", "canBegin", "()Z"⟩, 44) := ⟨⟨by decide +kernel, by decide +kernel⟩, List.mem_of_getElem? (i := 991) (by decide +kernel), List.mem_of_getElem? (i := 1278) (by decide +kernel), List.mem_of_getElem? (i := 1279) (by decide +kernel)⟩
theorem lw_p82 : lw_okq (⟨"TermReaderModel", "operandOf", "(J)I"⟩, 44) := ⟨⟨by decide +kernel, by decide +kernel⟩, List.mem_of_getElem? (i := 991) (by decide +kernel), List.mem_of_getElem? (i := 1282) (by decide +kernel), List.mem_of_getElem? (i := 1283) (by decide +kernel)⟩
theorem lw_p83 : lw_okq (⟨"TermReaderModel", "goOn", "()V"⟩, 44) := ⟨⟨by decide +kernel, by decide +kernel⟩, List.mem_of_getElem? (i := 991) (by decide +kernel), List.mem_of_getElem? (i := 1286) (by decide +kernel), List.mem_of_getElem? (i := 1287) (by decide +kernel)⟩
theorem lw_p84 : lw_okq (⟨"TermReaderModel", "leftOf", "(J)I"⟩, 44) := ⟨⟨by decide +kernel, by decide +kernel⟩, List.mem_of_getElem? (i := 991) (by decide +kernel), List.mem_of_getElem? (i := 1290) (by decide +kernel), List.mem_of_getElem? (i := 1291) (by decide +kernel)⟩
theorem lw_p85 : lw_okq (⟨"TermReaderModel", "ahead", "(III)V"⟩, 44) := ⟨⟨by decide +kernel, by decide +kernel⟩, List.mem_of_getElem? (i := 991) (by decide +kernel), List.mem_of_getElem? (i := 1294) (by decide +kernel), List.mem_of_getElem? (i := 1295) (by decide +kernel)⟩
theorem lw_p86 : lw_okq (⟨"TermReaderModel", "rightOf", "(J)I"⟩, 44) := ⟨⟨by decide +kernel, by decide +kernel⟩, List.mem_of_getElem? (i := 991) (by decide +kernel), List.mem_of_getElem? (i := 1298) (by decide +kernel), List.mem_of_getElem? (i := 1299) (by decide +kernel)⟩
theorem lw_p87 : lw_okq (⟨"TermReaderModel", "whole", "(II)V"⟩, 44) := ⟨⟨by decide +kernel, by decide +kernel⟩, List.mem_of_getElem? (i := 991) (by decide +kernel), List.mem_of_getElem? (i := 1302) (by decide +kernel), List.mem_of_getElem? (i := 1303) (by decide +kernel)⟩
theorem lw_p88 : lw_okq (⟨"TermReaderModel", "depthIn", "(II)I"⟩, 44) := ⟨⟨by decide +kernel, by decide +kernel⟩, List.mem_of_getElem? (i := 991) (by decide +kernel), List.mem_of_getElem? (i := 1306) (by decide +kernel), List.mem_of_getElem? (i := 1307) (by decide +kernel)⟩
theorem lw_p89 : lw_okq (⟨"TermReaderModel", "later", "(II)V"⟩, 44) := ⟨⟨by decide +kernel, by decide +kernel⟩, List.mem_of_getElem? (i := 991) (by decide +kernel), List.mem_of_getElem? (i := 1310) (by decide +kernel), List.mem_of_getElem? (i := 1311) (by decide +kernel)⟩
theorem lw_p90 : lw_okq (⟨"TermReaderModel", "refuse", "(I)I"⟩, 44) := ⟨⟨by decide +kernel, by decide +kernel⟩, List.mem_of_getElem? (i := 991) (by decide +kernel), List.mem_of_getElem? (i := 1314) (by decide +kernel), List.mem_of_getElem? (i := 1315) (by decide +kernel)⟩
theorem lw_p91 : lw_okq (⟨"TermReaderModel", "isTerm", "(I)Z"⟩, 44) := ⟨⟨by decide +kernel, by decide +kernel⟩, List.mem_of_getElem? (i := 991) (by decide +kernel), List.mem_of_getElem? (i := 1322) (by decide +kernel), List.mem_of_getElem? (i := 1323) (by decide +kernel)⟩
theorem lw_p92 : lw_okq (⟨"TermReaderModel", "out", "(I)V"⟩, 44) := ⟨⟨by decide +kernel, by decide +kernel⟩, List.mem_of_getElem? (i := 991) (by decide +kernel), List.mem_of_getElem? (i := 1326) (by decide +kernel), List.mem_of_getElem? (i := 1327) (by decide +kernel)⟩
theorem lw_p93 : lw_okq (⟨"TermReaderModel", "name", "(I)V"⟩, 44) := ⟨⟨by decide +kernel, by decide +kernel⟩, List.mem_of_getElem? (i := 991) (by decide +kernel), List.mem_of_getElem? (i := 1330) (by decide +kernel), List.mem_of_getElem? (i := 1331) (by decide +kernel)⟩
theorem lw_p94 : lw_okq (⟨"TermReaderModel", "isPlain", "(I)Z"⟩, 44) := ⟨⟨by decide +kernel, by decide +kernel⟩, List.mem_of_getElem? (i := 991) (by decide +kernel), List.mem_of_getElem? (i := 1334) (by decide +kernel), List.mem_of_getElem? (i := 1335) (by decide +kernel)⟩
theorem lw_p95 : lw_okq (⟨"TermReaderModel", "list", "(I)V"⟩, 44) := ⟨⟨by decide +kernel, by decide +kernel⟩, List.mem_of_getElem? (i := 991) (by decide +kernel), List.mem_of_getElem? (i := 1338) (by decide +kernel), List.mem_of_getElem? (i := 1339) (by decide +kernel)⟩
def lw_privs_6 : List (MethodName × Nat) := [(⟨"TermReaderModel", "postfixOf", "(J)I"⟩, 44), (⟨"TermReaderModel", "canBegin", "()Z"⟩, 44), (⟨"TermReaderModel", "operandOf", "(J)I"⟩, 44), (⟨"TermReaderModel", "goOn", "()V"⟩, 44), (⟨"TermReaderModel", "leftOf", "(J)I"⟩, 44), (⟨"TermReaderModel", "ahead", "(III)V"⟩, 44), (⟨"TermReaderModel", "rightOf", "(J)I"⟩, 44), (⟨"TermReaderModel", "whole", "(II)V"⟩, 44), (⟨"TermReaderModel", "depthIn", "(II)I"⟩, 44), (⟨"TermReaderModel", "later", "(II)V"⟩, 44), (⟨"TermReaderModel", "refuse", "(I)I"⟩, 44), (⟨"TermReaderModel", "isTerm", "(I)Z"⟩, 44), (⟨"TermReaderModel", "out", "(I)V"⟩, 44), (⟨"TermReaderModel", "name", "(I)V"⟩, 44), (⟨"TermReaderModel", "isPlain", "(I)Z"⟩, 44), (⟨"TermReaderModel", "list", "(I)V"⟩, 44)]
theorem lw_r6 : ∀ q ∈ lw_privs_6, lw_okq q := List.forall_mem_cons.mpr ⟨lw_p80, List.forall_mem_cons.mpr ⟨lw_p81, List.forall_mem_cons.mpr ⟨lw_p82, List.forall_mem_cons.mpr ⟨lw_p83, List.forall_mem_cons.mpr ⟨lw_p84, List.forall_mem_cons.mpr ⟨lw_p85, List.forall_mem_cons.mpr ⟨lw_p86, List.forall_mem_cons.mpr ⟨lw_p87, List.forall_mem_cons.mpr ⟨lw_p88, List.forall_mem_cons.mpr ⟨lw_p89, List.forall_mem_cons.mpr ⟨lw_p90, List.forall_mem_cons.mpr ⟨lw_p91, List.forall_mem_cons.mpr ⟨lw_p92, List.forall_mem_cons.mpr ⟨lw_p93, List.forall_mem_cons.mpr ⟨lw_p94, List.forall_mem_cons.mpr ⟨lw_p95, fun _ h => absurd h List.not_mem_nil⟩⟩⟩⟩⟩⟩⟩⟩⟩⟩⟩⟩⟩⟩⟩⟩
theorem lw_p96 : lw_okq (⟨"TermReaderModel", "skip", "(I)I"⟩, 44) := ⟨⟨by decide +kernel, by decide +kernel⟩, List.mem_of_getElem? (i := 991) (by decide +kernel), List.mem_of_getElem? (i := 1342) (by decide +kernel), List.mem_of_getElem? (i := 1343) (by decide +kernel)⟩
theorem lw_p97 : lw_okq (⟨"TermReaderModel", "isNamed", "(IIII)Z"⟩, 44) := ⟨⟨by decide +kernel, by decide +kernel⟩, List.mem_of_getElem? (i := 991) (by decide +kernel), List.mem_of_getElem? (i := 1346) (by decide +kernel), List.mem_of_getElem? (i := 1347) (by decide +kernel)⟩
theorem lw_p98 : lw_okq (⟨"TermReaderModel", "part", "(II)V"⟩, 44) := ⟨⟨by decide +kernel, by decide +kernel⟩, List.mem_of_getElem? (i := 991) (by decide +kernel), List.mem_of_getElem? (i := 1350) (by decide +kernel), List.mem_of_getElem? (i := 1351) (by decide +kernel)⟩
theorem lw_p99 : lw_okq (⟨"TermReaderModel", "priorityOf", "(I)I"⟩, 44) := ⟨⟨by decide +kernel, by decide +kernel⟩, List.mem_of_getElem? (i := 991) (by decide +kernel), List.mem_of_getElem? (i := 1354) (by decide +kernel), List.mem_of_getElem? (i := 1355) (by decide +kernel)⟩
theorem lw_p100 : lw_okq (⟨"TermReaderModel", "keyOf", "(I)J"⟩, 44) := ⟨⟨by decide +kernel, by decide +kernel⟩, List.mem_of_getElem? (i := 991) (by decide +kernel), List.mem_of_getElem? (i := 1358) (by decide +kernel), List.mem_of_getElem? (i := 1359) (by decide +kernel)⟩
theorem lw_p101 : lw_okq (⟨"TermReaderModel", "isOperator", "(I)Z"⟩, 44) := ⟨⟨by decide +kernel, by decide +kernel⟩, List.mem_of_getElem? (i := 991) (by decide +kernel), List.mem_of_getElem? (i := 1362) (by decide +kernel), List.mem_of_getElem? (i := 1363) (by decide +kernel)⟩
theorem lw_p102 : lw_okq (⟨"TermReaderModel", "digits", "(J)V"⟩, 44) := ⟨⟨by decide +kernel, by decide +kernel⟩, List.mem_of_getElem? (i := 991) (by decide +kernel), List.mem_of_getElem? (i := 1366) (by decide +kernel), List.mem_of_getElem? (i := 1367) (by decide +kernel)⟩
theorem lw_p103 : lw_okq (⟨"TermReaderModel", "operated", "(I)V"⟩, 44) := ⟨⟨by decide +kernel, by decide +kernel⟩, List.mem_of_getElem? (i := 991) (by decide +kernel), List.mem_of_getElem? (i := 1372) (by decide +kernel), List.mem_of_getElem? (i := 1373) (by decide +kernel)⟩
theorem lw_p104 : lw_okq (⟨"TermReaderModel", "takesOn", "(II)Z"⟩, 44) := ⟨⟨by decide +kernel, by decide +kernel⟩, List.mem_of_getElem? (i := 991) (by decide +kernel), List.mem_of_getElem? (i := 1376) (by decide +kernel), List.mem_of_getElem? (i := 1377) (by decide +kernel)⟩
theorem lw_p105 : lw_okq (⟨"TermReaderModel", "leftUpTo", "(J)I"⟩, 44) := ⟨⟨by decide +kernel, by decide +kernel⟩, List.mem_of_getElem? (i := 991) (by decide +kernel), List.mem_of_getElem? (i := 1380) (by decide +kernel), List.mem_of_getElem? (i := 1381) (by decide +kernel)⟩
theorem lw_p106 : lw_okq (⟨"TermReaderModel", "plainly", "(I)V"⟩, 44) := ⟨⟨by decide +kernel, by decide +kernel⟩, List.mem_of_getElem? (i := 991) (by decide +kernel), List.mem_of_getElem? (i := 1384) (by decide +kernel), List.mem_of_getElem? (i := 1385) (by decide +kernel)⟩
def lw_privs_7 : List (MethodName × Nat) := [(⟨"TermReaderModel", "skip", "(I)I"⟩, 44), (⟨"TermReaderModel", "isNamed", "(IIII)Z"⟩, 44), (⟨"TermReaderModel", "part", "(II)V"⟩, 44), (⟨"TermReaderModel", "priorityOf", "(I)I"⟩, 44), (⟨"TermReaderModel", "keyOf", "(I)J"⟩, 44), (⟨"TermReaderModel", "isOperator", "(I)Z"⟩, 44), (⟨"TermReaderModel", "digits", "(J)V"⟩, 44), (⟨"TermReaderModel", "operated", "(I)V"⟩, 44), (⟨"TermReaderModel", "takesOn", "(II)Z"⟩, 44), (⟨"TermReaderModel", "leftUpTo", "(J)I"⟩, 44), (⟨"TermReaderModel", "plainly", "(I)V"⟩, 44)]
theorem lw_r7 : ∀ q ∈ lw_privs_7, lw_okq q := List.forall_mem_cons.mpr ⟨lw_p96, List.forall_mem_cons.mpr ⟨lw_p97, List.forall_mem_cons.mpr ⟨lw_p98, List.forall_mem_cons.mpr ⟨lw_p99, List.forall_mem_cons.mpr ⟨lw_p100, List.forall_mem_cons.mpr ⟨lw_p101, List.forall_mem_cons.mpr ⟨lw_p102, List.forall_mem_cons.mpr ⟨lw_p103, List.forall_mem_cons.mpr ⟨lw_p104, List.forall_mem_cons.mpr ⟨lw_p105, List.forall_mem_cons.mpr ⟨lw_p106, fun _ h => absurd h List.not_mem_nil⟩⟩⟩⟩⟩⟩⟩⟩⟩⟩⟩
def lw_privs : List (MethodName × Nat) := lw_privs_1 ++ (lw_privs_2 ++ (lw_privs_3 ++ (lw_privs_4 ++ (lw_privs_5 ++ (lw_privs_6 ++ (lw_privs_7))))))
def lw_tbl : List Cond := k2_sels lw_privs ++ tables_1
theorem lw_privs_ok : ∀ q ∈ lw_privs, lw_okq q := by
  show ∀ q ∈ lw_privs_1 ++ (lw_privs_2 ++ (lw_privs_3 ++ (lw_privs_4 ++ (lw_privs_5 ++ (lw_privs_6 ++ (lw_privs_7)))))), lw_okq q
  exact List.forall_mem_append.mpr ⟨lw_r1, List.forall_mem_append.mpr ⟨lw_r2, List.forall_mem_append.mpr ⟨lw_r3, List.forall_mem_append.mpr ⟨lw_r4, List.forall_mem_append.mpr ⟨lw_r5, List.forall_mem_append.mpr ⟨lw_r6, lw_r7⟩⟩⟩⟩⟩⟩
end
section
-- printed by wip/gen.py: classes, methods, rows of code
abbrev xRow : Type := Instr × Nat × Nat × Nat × Nat × Int32 × Int64 × List (Int32 × Nat)
abbrev xz : Option xRow := none
abbrev xq (i : Instr) (n : Nat) : Option xRow := some (i, n, 0, 0, 0, 0, 0, [])
abbrev xqv (i : Instr) (n : Nat) (v : Int32) : Option xRow := some (i, n, 0, 0, 0, v, 0, [])
abbrev xqa (i : Instr) (n a : Nat) : Option xRow := some (i, n, a, 0, 0, 0, 0, [])
abbrev xqc (i : Instr) (n a b c : Nat) : Option xRow := some (i, n, a, b, c, 0, 0, [])
abbrev xqk (i : Instr) (n a b c : Nat) (k : Int64) : Option xRow := some (i, n, a, b, c, 0, k, [])
abbrev xqs (i : Instr) (n a : Nat) (s : List (Int32 × Nat)) : Option xRow := some (i, n, a, 0, 0, 0, 0, s)
def xT_0 : u_T := fun k => match k with
  | 0 => ("TermReader", "source", "LTermReader$CharRow;", true)
  | 1 => ("TermReader", "output", "LTermReader$CharRow;", true)
  | 2 => ("TermReader", "names", "LTermReader$CharRow;", true)
  | 3 => ("TermReader", "operators", "LTermReader$Operators;", true)
  | 4 => ("TermReader", "parts", "LTermReader$Parts;", true)
  | 5 => ("TermReader", "tokens", "LTermReader$Tokens;", true)
  | 6 => ("TermReader", "parser", "LTermReader$Parser;", true)
  | 7 => ("TermReader", "writer", "LTermReader$Writer;", true)
  | 8 => ("TermReader", "roots", "[I", true)
  | _ => ("TermReader", "rootsUsed", "I", false)
def xT_1 : u_T := fun k => match k with
  | 0 => ("TermReader$CharRow", "row", "[C", true)
  | _ => ("TermReader$CharRow", "length", "I", false)
def xT_2 : u_T := fun k => match k with
  | 0 => ("TermReader$Operators", "keys", "[J", true)
  | 1 => ("TermReader$Operators", "priorities", "[I", true)
  | 2 => ("TermReader$Operators", "types", "[I", true)
  | _ => ("TermReader$Operators", "used", "I", false)
def xT_3 : u_T := fun k => match k with
  | 0 => ("TermReader$Parser", "tokens", "LTermReader$Tokens;", true)
  | 1 => ("TermReader$Parser", "operators", "LTermReader$Operators;", true)
  | 2 => ("TermReader$Parser", "parts", "LTermReader$Parts;", true)
  | 3 => ("TermReader$Parser", "at", "I", false)
  | _ => ("TermReader$Parser", "priority", "I", false)
def xT_4 : u_T := fun k => match k with
  | 0 => ("TermReader$Parts", "names", "LTermReader$CharRow;", true)
  | 1 => ("TermReader$Parts", "kinds", "[I", true)
  | 2 => ("TermReader$Parts", "values", "[I", true)
  | 3 => ("TermReader$Parts", "nameSizes", "[I", true)
  | 4 => ("TermReader$Parts", "firsts", "[I", true)
  | 5 => ("TermReader$Parts", "nexts", "[I", true)
  | 6 => ("TermReader$Parts", "depths", "[I", true)
  | _ => ("TermReader$Parts", "used", "I", false)
def xT_5 : u_T := fun k => match k with
  | 0 => ("TermReader$Tokens", "source", "LTermReader$CharRow;", true)
  | 1 => ("TermReader$Tokens", "names", "LTermReader$CharRow;", true)
  | 2 => ("TermReader$Tokens", "kinds", "[I", true)
  | 3 => ("TermReader$Tokens", "starts", "[I", true)
  | 4 => ("TermReader$Tokens", "ends", "[I", true)
  | 5 => ("TermReader$Tokens", "values", "[I", true)
  | 6 => ("TermReader$Tokens", "sizes", "[I", true)
  | 7 => ("TermReader$Tokens", "keys", "[J", true)
  | 8 => ("TermReader$Tokens", "used", "I", false)
  | 9 => ("TermReader$Tokens", "position", "I", false)
  | _ => ("TermReader$Tokens", "variables", "I", false)
def xT_6 : u_T := fun k => match k with
  | 0 => ("TermReader$Writer", "output", "LTermReader$CharRow;", true)
  | 1 => ("TermReader$Writer", "names", "LTermReader$CharRow;", true)
  | 2 => ("TermReader$Writer", "operators", "LTermReader$Operators;", true)
  | _ => ("TermReader$Writer", "parts", "LTermReader$Parts;", true)
def xT_7 : u_T := fun k => match k with
  | 0 => ("TermReaderModel", "code", "I", false)
  | 1 => ("TermReaderModel", "length", "I", false)
  | 2 => ("TermReaderModel", "text", "[I", true)
  | 3 => ("TermReaderModel", "named", "I", false)
  | 4 => ("TermReaderModel", "opName", "[J", true)
  | 5 => ("TermReaderModel", "prefix", "[I", true)
  | 6 => ("TermReaderModel", "prefixType", "[I", true)
  | 7 => ("TermReaderModel", "other", "[I", true)
  | 8 => ("TermReaderModel", "otherType", "[I", true)
  | 9 => ("TermReaderModel", "names", "I", false)
  | 10 => ("TermReaderModel", "nameStart", "[I", true)
  | 11 => ("TermReaderModel", "nameLength", "[I", true)
  | 12 => ("TermReaderModel", "used", "I", false)
  | 13 => ("TermReaderModel", "letters", "[I", true)
  | 14 => ("TermReaderModel", "terms", "I", false)
  | 15 => ("TermReaderModel", "start", "[I", true)
  | 16 => ("TermReaderModel", "parts", "I", false)
  | 17 => ("TermReaderModel", "kind", "[I", true)
  | 18 => ("TermReaderModel", "value", "[I", true)
  | 19 => ("TermReaderModel", "many", "[I", true)
  | 20 => ("TermReaderModel", "token", "I", false)
  | 21 => ("TermReaderModel", "begins", "I", false)
  | 22 => ("TermReaderModel", "ends", "I", false)
  | 23 => ("TermReaderModel", "worth", "I", false)
  | 24 => ("TermReaderModel", "quoted", "Z", false)
  | 25 => ("TermReaderModel", "held", "I", false)
  | 26 => ("TermReaderModel", "hold", "[I", true)
  | 27 => ("TermReaderModel", "at", "I", false)
  | 28 => ("TermReaderModel", "bad", "Z", false)
  | 29 => ("TermReaderModel", "open", "I", false)
  | 30 => ("TermReaderModel", "most", "[I", true)
  | 31 => ("TermReaderModel", "row", "[I", true)
  | 32 => ("TermReaderModel", "left", "[I", true)
  | 33 => ("TermReaderModel", "purpose", "[I", true)
  | 34 => ("TermReaderModel", "owner", "[I", true)
  | 35 => ("TermReaderModel", "variables", "I", false)
  | 36 => ("TermReaderModel", "variableName", "[I", true)
  | 37 => ("TermReaderModel", "pile", "I", false)
  | 38 => ("TermReaderModel", "item", "[I", true)
  | 39 => ("TermReaderModel", "place", "[I", true)
  | 40 => ("TermReaderModel", "shown", "I", false)
  | 41 => ("TermReaderModel", "show", "[I", true)
  | 42 => ("TermReaderModel", "wrote", "I", false)
  | _ => ("TermReaderModel", "written", "[I", true)
abbrev xCl : List vw_C := [("TermReader", xT_0, 10), ("TermReader$CharRow", xT_1, 2), ("TermReader$Operators", xT_2, 4), ("TermReader$Parser", xT_3, 5), ("TermReader$Parts", xT_4, 8), ("TermReader$Tokens", xT_5, 11), ("TermReader$Writer", xT_6, 4), ("TermReaderModel", xT_7, 44)]
def xty_0 : List FieldType := [.object "TermReader$CharRow", .object "TermReader$CharRow", .object "TermReader$CharRow", .object "TermReader$Operators", .object "TermReader$Parts", .object "TermReader$Tokens", .object "TermReader$Parser", .object "TermReader$Writer", .array .int, .int]
def xdf_0 : List Value := [.null, .null, .null, .null, .null, .null, .null, .null, .null, .int 0]
def xty_1 : List FieldType := [.array .char, .int]
def xdf_1 : List Value := [.null, .int 0]
def xty_2 : List FieldType := [.array .long, .array .int, .array .int, .int]
def xdf_2 : List Value := [.null, .null, .null, .int 0]
def xty_3 : List FieldType := [.object "TermReader$Tokens", .object "TermReader$Operators", .object "TermReader$Parts", .int, .int]
def xdf_3 : List Value := [.null, .null, .null, .int 0, .int 0]
def xty_4 : List FieldType := [.object "TermReader$CharRow", .array .int, .array .int, .array .int, .array .int, .array .int, .array .int, .int]
def xdf_4 : List Value := [.null, .null, .null, .null, .null, .null, .null, .int 0]
def xty_5 : List FieldType := [.object "TermReader$CharRow", .object "TermReader$CharRow", .array .int, .array .int, .array .int, .array .int, .array .int, .array .long, .int, .int, .int]
def xdf_5 : List Value := [.null, .null, .null, .null, .null, .null, .null, .null, .int 0, .int 0, .int 0]
def xty_6 : List FieldType := [.object "TermReader$CharRow", .object "TermReader$CharRow", .object "TermReader$Operators", .object "TermReader$Parts"]
def xdf_6 : List Value := [.null, .null, .null, .null]
def xty_7 : List FieldType := [.int, .int, .array .int, .int, .array .long, .array .int, .array .int, .array .int, .array .int, .int, .array .int, .array .int, .int, .array .int, .int, .array .int, .int, .array .int, .array .int, .array .int, .int, .int, .int, .int, .boolean, .int, .array .int, .int, .boolean, .int, .array .int, .array .int, .array .int, .array .int, .array .int, .int, .array .int, .int, .array .int, .array .int, .int, .array .int, .int, .array .int]
def xdf_7 : List Value := [.int 0, .int 0, .null, .int 0, .null, .null, .null, .null, .null, .int 0, .null, .null, .int 0, .null, .int 0, .null, .int 0, .null, .null, .null, .int 0, .int 0, .int 0, .int 0, .int 0, .int 0, .null, .int 0, .int 0, .int 0, .null, .null, .null, .null, .null, .int 0, .null, .int 0, .null, .null, .int 0, .null, .int 0, .null]
def xtys : List (List FieldType) := [xty_0, xty_1, xty_2, xty_3, xty_4, xty_5, xty_6, xty_7]
def xdfs : List (List Value) := [xdf_0, xdf_1, xdf_2, xdf_3, xdf_4, xdf_5, xdf_6, xdf_7]
abbrev xM : Type := MethodName × ByteArray × Nat × Option FieldType × Nat × Nat × Nat × Nat × Nat
def xm_0 : xM := (⟨"TermReader", "<init>", "()V"⟩, prog_1_method_1_code, 1, (Option.none : Option FieldType), 0, 133, 132, 0, 108)
def xm_1 : xM := (⟨"TermReader", "text", "(J)Z"⟩, prog_1_method_2_code, 5, (Option.some FieldType.boolean), 0, 398, 396, 397, 108)
def xm_2 : xM := (⟨"TermReader", "op", "(IIJ)V"⟩, prog_1_method_3_code, 7, (Option.none : Option FieldType), 0, 439, 437, 438, 108)
def xm_3 : xM := (⟨"TermReader", "read", "()I"⟩, prog_1_method_4_code, 4, (Option.some FieldType.int), 0, 561, 559, 560, 108)
def xm_4 : xM := (⟨"TermReader", "write", "(I)I"⟩, prog_1_method_5_code, 2, (Option.some FieldType.int), 0, 901, 899, 900, 108)
def xm_5 : xM := (⟨"TermReader", "written", "(I)I"⟩, prog_1_method_6_code, 2, (Option.some FieldType.int), 0, 418, 416, 417, 108)
def xm_6 : xM := (⟨"TermReader", "again", "()Z"⟩, prog_1_method_7_code, 3, (Option.some FieldType.boolean), 0, 426, 424, 425, 108)
def xm_7 : xM := (⟨"TermReader", "alike", "(II)Z"⟩, prog_1_method_8_code, 3, (Option.some FieldType.boolean), 0, 1056, 1054, 1055, 108)
def xm_8 : xM := (⟨"TermReader", "look", "(II)I"⟩, prog_1_method_9_code, 4, (Option.some FieldType.int), 0, 1077, 1075, 1076, 108)
def xm_9 : xM := (⟨"TermReader", "count", "(I)I"⟩, prog_1_method_10_code, 2, (Option.some FieldType.int), 0, 1091, 1089, 1090, 108)
def xm_10 : xM := (⟨"TermReader", "isTerm", "(I)Z"⟩, prog_1_method_11_code, 2, (Option.some FieldType.boolean), 0, 905, 904, 40, 108)
def xm_11 : xM := (⟨"TermReader$CharRow", "<init>", "(I)V"⟩, prog_2_method_1_code, 2, (Option.none : Option FieldType), 1, 141, 140, 0, 109)
def xm_12 : xM := (⟨"TermReader$CharRow", "length", "()I"⟩, prog_2_method_2_code, 1, (Option.some FieldType.int), 1, 409, 407, 408, 109)
def xm_13 : xM := (⟨"TermReader$CharRow", "at", "(I)I"⟩, prog_2_method_3_code, 2, (Option.some FieldType.int), 1, 422, 420, 421, 109)
def xm_14 : xM := (⟨"TermReader$CharRow", "add", "(I)V"⟩, prog_2_method_4_code, 2, (Option.none : Option FieldType), 1, 257, 255, 256, 109)
def xm_15 : xM := (⟨"TermReader$CharRow", "cut", "(I)V"⟩, prog_2_method_5_code, 2, (Option.none : Option FieldType), 1, 430, 428, 429, 109)
def xm_16 : xM := (⟨"TermReader$CharRow", "dropFirst", "(I)V"⟩, prog_2_method_6_code, 4, (Option.none : Option FieldType), 1, 894, 892, 893, 109)
def xm_17 : xM := (⟨"TermReader$Operators", "<init>", "()V"⟩, prog_4_method_1_code, 1, (Option.none : Option FieldType), 2, 155, 154, 0, 110)
def xm_18 : xM := (⟨"TermReader$Operators", "told", "()I"⟩, prog_4_method_2_code, 1, (Option.some FieldType.int), 2, 1095, 1093, 1094, 110)
def xm_19 : xM := (⟨"TermReader$Operators", "isPrefixType", "(I)Z"⟩, prog_4_method_3_code, 1, (Option.some FieldType.boolean), 99, 164, 163, 0, 110)
def xm_20 : xM := (⟨"TermReader$Operators", "isPostfixType", "(I)Z"⟩, prog_4_method_4_code, 1, (Option.some FieldType.boolean), 99, 536, 535, 0, 110)
def xm_21 : xM := (⟨"TermReader$Operators", "isSlot", "(I)Z"⟩, prog_4_method_5_code, 2, (Option.some FieldType.boolean), 2, 529, 528, 2, 110)
def xm_22 : xM := (⟨"TermReader$Operators", "find", "(ZJ)I"⟩, prog_4_method_6_code, 5, (Option.some FieldType.int), 2, 168, 167, 0, 110)
def xm_23 : xM := (⟨"TermReader$Operators", "prefix", "(J)I"⟩, prog_4_method_7_code, 3, (Option.some FieldType.int), 2, 716, 714, 715, 110)
def xm_24 : xM := (⟨"TermReader$Operators", "behind", "(J)I"⟩, prog_4_method_8_code, 3, (Option.some FieldType.int), 2, 732, 730, 731, 110)
def xm_25 : xM := (⟨"TermReader$Operators", "isOperator", "(J)Z"⟩, prog_4_method_9_code, 3, (Option.some FieldType.boolean), 2, 1006, 1004, 1005, 110)
def xm_26 : xM := (⟨"TermReader$Operators", "canTell", "(IJ)Z"⟩, prog_4_method_10_code, 5, (Option.some FieldType.boolean), 2, 533, 531, 532, 110)
def xm_27 : xM := (⟨"TermReader$Operators", "tell", "(IIJ)V"⟩, prog_4_method_11_code, 7, (Option.none : Option FieldType), 2, 161, 159, 160, 110)
def xm_28 : xM := (⟨"TermReader$Operators", "takeBack", "(IJ)V"⟩, prog_4_method_12_code, 6, (Option.none : Option FieldType), 2, 525, 523, 524, 110)
def xm_29 : xM := (⟨"TermReader$Operators", "priority", "(I)I"⟩, prog_4_method_13_code, 2, (Option.some FieldType.int), 2, 720, 718, 719, 110)
def xm_30 : xM := (⟨"TermReader$Operators", "type", "(I)I"⟩, prog_4_method_14_code, 2, (Option.some FieldType.int), 2, 748, 747, 25, 110)
def xm_31 : xM := (⟨"TermReader$Operators", "isPrefix", "(I)Z"⟩, prog_4_method_15_code, 2, (Option.some FieldType.boolean), 2, 997, 995, 996, 110)
def xm_32 : xM := (⟨"TermReader$Operators", "isPostfix", "(I)Z"⟩, prog_4_method_16_code, 2, (Option.some FieldType.boolean), 2, 982, 980, 981, 110)
def xm_33 : xM := (⟨"TermReader$Operators", "isInfix", "(I)Z"⟩, prog_4_method_17_code, 3, (Option.some FieldType.boolean), 2, 789, 787, 788, 110)
def xm_34 : xM := (⟨"TermReader$Operators", "isOpenBehind", "(I)Z"⟩, prog_4_method_18_code, 2, (Option.some FieldType.boolean), 2, 744, 742, 743, 110)
def xm_35 : xM := (⟨"TermReader$Operators", "leftMost", "(I)I"⟩, prog_4_method_19_code, 2, (Option.some FieldType.int), 2, 785, 783, 784, 110)
def xm_36 : xM := (⟨"TermReader$Operators", "rightMost", "(I)I"⟩, prog_4_method_20_code, 2, (Option.some FieldType.int), 2, 740, 738, 739, 110)
def xm_37 : xM := (⟨"TermReader$Parser", "<init>", "(LTermReader$Tokens;LTermReader$Operators;LTermReader$Parts;)V"⟩, prog_6_method_1_code, 4, (Option.none : Option FieldType), 3, 327, 326, 0, 118)
def xm_38 : xM := (⟨"TermReader$Parser", "whole", "()I"⟩, prog_6_method_2_code, 2, (Option.some FieldType.int), 3, 673, 671, 672, 118)
def xm_39 : xM := (⟨"TermReader$Parser", "end", "()I"⟩, prog_6_method_3_code, 1, (Option.some FieldType.int), 3, 886, 884, 885, 118)
def xm_40 : xM := (⟨"TermReader$Parser", "term", "(II)I"⟩, prog_6_method_4_code, 4, (Option.some FieldType.int), 3, 677, 676, 19, 118)
def xm_41 : xM := (⟨"TermReader$Parser", "isPrefixed", "(I)Z"⟩, prog_6_method_5_code, 3, (Option.some FieldType.boolean), 3, 681, 680, 20, 118)
def xm_42 : xM := (⟨"TermReader$Parser", "isBareBehind", "(I)Z"⟩, prog_6_method_6_code, 4, (Option.some FieldType.boolean), 3, 728, 727, 23, 118)
def xm_43 : xM := (⟨"TermReader$Parser", "prefixed", "(I)I"⟩, prog_6_method_7_code, 5, (Option.some FieldType.int), 3, 736, 735, 24, 118)
def xm_44 : xM := (⟨"TermReader$Parser", "rest", "(III)I"⟩, prog_6_method_8_code, 8, (Option.some FieldType.int), 3, 781, 780, 28, 118)
def xm_45 : xM := (⟨"TermReader$Parser", "infixed", "(III)I"⟩, prog_6_method_9_code, 6, (Option.some FieldType.int), 3, 793, 792, 29, 118)
def xm_46 : xM := (⟨"TermReader$Parser", "named", "(III)I"⟩, prog_6_method_10_code, 4, (Option.some FieldType.int), 3, 797, 796, 30, 118)
def xm_47 : xM := (⟨"TermReader$Parser", "postfixed", "(I)I"⟩, prog_6_method_11_code, 3, (Option.some FieldType.int), 3, 810, 809, 31, 118)
def xm_48 : xM := (⟨"TermReader$Parser", "unit", "(I)I"⟩, prog_6_method_12_code, 3, (Option.some FieldType.int), 3, 814, 813, 32, 118)
def xm_49 : xM := (⟨"TermReader$Parser", "string", "(I)I"⟩, prog_6_method_13_code, 5, (Option.some FieldType.int), 3, 826, 825, 33, 118)
def xm_50 : xM := (⟨"TermReader$Parser", "name", "(I)I"⟩, prog_6_method_14_code, 3, (Option.some FieldType.int), 3, 838, 837, 34, 118)
def xm_51 : xM := (⟨"TermReader$Parser", "arguments", "(I)I"⟩, prog_6_method_15_code, 6, (Option.some FieldType.int), 3, 842, 841, 35, 118)
def xm_52 : xM := (⟨"TermReader$Parser", "take", "(I)Z"⟩, prog_6_method_16_code, 2, (Option.some FieldType.boolean), 3, 847, 846, 36, 118)
def xm_53 : xM := (⟨"TermReader$Parser", "enclosed", "(I)I"⟩, prog_6_method_17_code, 3, (Option.some FieldType.int), 3, 852, 851, 37, 118)
def xm_54 : xM := (⟨"TermReader$Parser", "list", "(I)I"⟩, prog_6_method_18_code, 5, (Option.some FieldType.int), 3, 856, 855, 38, 118)
def xm_55 : xM := (⟨"TermReader$Parser", "listed", "(II)I"⟩, prog_6_method_19_code, 7, (Option.some FieldType.int), 3, 860, 859, 39, 118)
def xm_56 : xM := (⟨"TermReader$Parts", "<init>", "(LTermReader$CharRow;)V"⟩, prog_7_method_1_code, 2, (Option.none : Option FieldType), 4, 252, 251, 0, 116)
def xm_57 : xM := (⟨"TermReader$Parts", "used", "()I"⟩, prog_7_method_2_code, 1, (Option.some FieldType.int), 4, 565, 563, 564, 116)
def xm_58 : xM := (⟨"TermReader$Parts", "cut", "(I)V"⟩, prog_7_method_3_code, 2, (Option.none : Option FieldType), 4, 865, 863, 864, 116)
def xm_59 : xM := (⟨"TermReader$Parts", "isPart", "(I)Z"⟩, prog_7_method_4_code, 2, (Option.some FieldType.boolean), 4, 766, 765, 26, 116)
def xm_60 : xM := (⟨"TermReader$Parts", "kind", "(I)I"⟩, prog_7_method_5_code, 2, (Option.some FieldType.int), 4, 919, 917, 918, 116)
def xm_61 : xM := (⟨"TermReader$Parts", "value", "(I)I"⟩, prog_7_method_6_code, 2, (Option.some FieldType.int), 4, 924, 922, 923, 116)
def xm_62 : xM := (⟨"TermReader$Parts", "nameSize", "(I)I"⟩, prog_7_method_7_code, 2, (Option.some FieldType.int), 4, 937, 935, 936, 116)
def xm_63 : xM := (⟨"TermReader$Parts", "first", "(I)I"⟩, prog_7_method_8_code, 2, (Option.some FieldType.int), 4, 968, 966, 967, 116)
def xm_64 : xM := (⟨"TermReader$Parts", "next", "(I)I"⟩, prog_7_method_9_code, 2, (Option.some FieldType.int), 4, 773, 771, 772, 116)
def xm_65 : xM := (⟨"TermReader$Parts", "second", "(I)I"⟩, prog_7_method_10_code, 2, (Option.some FieldType.int), 4, 1023, 1021, 1022, 116)
def xm_66 : xM := (⟨"TermReader$Parts", "depth", "(I)I"⟩, prog_7_method_11_code, 2, (Option.some FieldType.int), 4, 762, 760, 761, 116)
def xm_67 : xM := (⟨"TermReader$Parts", "link", "(II)V"⟩, prog_7_method_12_code, 3, (Option.none : Option FieldType), 4, 805, 803, 804, 116)
def xm_68 : xM := (⟨"TermReader$Parts", "isNamed", "(I)Z"⟩, prog_7_method_13_code, 3, (Option.some FieldType.boolean), 4, 1064, 1062, 1063, 116)
def xm_69 : xM := (⟨"TermReader$Parts", "key", "(I)J"⟩, prog_7_method_14_code, 3, (Option.some FieldType.long), 4, 972, 970, 971, 116)
def xm_70 : xM := (⟨"TermReader$Parts", "arity", "(I)I"⟩, prog_7_method_15_code, 5, (Option.some FieldType.int), 4, 964, 962, 963, 116)
def xm_71 : xM := (⟨"TermReader$Parts", "isNil", "(I)Z"⟩, prog_7_method_16_code, 2, (Option.some FieldType.boolean), 4, 1038, 1036, 1037, 116)
def xm_72 : xM := (⟨"TermReader$Parts", "isList", "(I)Z"⟩, prog_7_method_17_code, 2, (Option.some FieldType.boolean), 4, 1027, 1025, 1026, 116)
def xm_73 : xM := (⟨"TermReader$Parts", "isBraces", "(I)Z"⟩, prog_7_method_18_code, 2, (Option.some FieldType.boolean), 4, 1043, 1041, 1042, 116)
def xm_74 : xM := (⟨"TermReader$Parts", "add", "(IIIII)I"⟩, prog_7_method_19_code, 6, (Option.some FieldType.int), 4, 777, 776, 27, 116)
def xm_75 : xM := (⟨"TermReader$Parts", "addVariable", "(I)I"⟩, prog_7_method_20_code, 2, (Option.some FieldType.int), 4, 822, 820, 821, 116)
def xm_76 : xM := (⟨"TermReader$Parts", "addInteger", "(I)I"⟩, prog_7_method_21_code, 2, (Option.some FieldType.int), 4, 818, 816, 817, 116)
def xm_77 : xM := (⟨"TermReader$Parts", "addAtom", "(II)I"⟩, prog_7_method_22_code, 3, (Option.some FieldType.int), 4, 830, 828, 829, 116)
def xm_78 : xM := (⟨"TermReader$Parts", "addCompound", "(III)I"⟩, prog_7_method_23_code, 7, (Option.some FieldType.int), 4, 758, 756, 757, 116)
def xm_79 : xM := (⟨"TermReader$Parts", "addPair", "(IIII)I"⟩, prog_7_method_24_code, 5, (Option.some FieldType.int), 4, 801, 799, 800, 116)
def xm_80 : xM := (⟨"TermReader$Parts", "same", "(III)Z"⟩, prog_7_method_25_code, 7, (Option.some FieldType.boolean), 4, 1060, 1059, 55, 116)
def xm_81 : xM := (⟨"TermReader$Parts", "isSameName", "(II)Z"⟩, prog_7_method_26_code, 5, (Option.some FieldType.boolean), 4, 1068, 1067, 56, 116)
def xm_82 : xM := (⟨"TermReader$Tokens", "<init>", "(LTermReader$CharRow;LTermReader$CharRow;)V"⟩, prog_8_method_1_code, 3, (Option.none : Option FieldType), 5, 287, 286, 0, 117)
def xm_83 : xM := (⟨"TermReader$Tokens", "scan", "()Z"⟩, prog_8_method_2_code, 2, (Option.some FieldType.boolean), 5, 569, 567, 568, 117)
def xm_84 : xM := (⟨"TermReader$Tokens", "isToken", "(I)Z"⟩, prog_8_method_3_code, 2, (Option.some FieldType.boolean), 5, 669, 668, 18, 117)
def xm_85 : xM := (⟨"TermReader$Tokens", "kind", "(I)I"⟩, prog_8_method_4_code, 2, (Option.some FieldType.int), 5, 665, 663, 664, 117)
def xm_86 : xM := (⟨"TermReader$Tokens", "end", "(I)I"⟩, prog_8_method_5_code, 2, (Option.some FieldType.int), 5, 890, 888, 889, 117)
def xm_87 : xM := (⟨"TermReader$Tokens", "value", "(I)I"⟩, prog_8_method_6_code, 2, (Option.some FieldType.int), 5, 698, 696, 697, 117)
def xm_88 : xM := (⟨"TermReader$Tokens", "size", "(I)I"⟩, prog_8_method_7_code, 2, (Option.some FieldType.int), 5, 754, 752, 753, 117)
def xm_89 : xM := (⟨"TermReader$Tokens", "key", "(I)J"⟩, prog_8_method_8_code, 2, (Option.some FieldType.long), 5, 706, 704, 705, 117)
def xm_90 : xM := (⟨"TermReader$Tokens", "stringCharacter", "(II)I"⟩, prog_8_method_9_code, 3, (Option.some FieldType.int), 5, 834, 832, 833, 117)
def xm_91 : xM := (⟨"TermReader$Tokens", "isMark", "(II)Z"⟩, prog_8_method_10_code, 3, (Option.some FieldType.boolean), 5, 694, 692, 693, 117)
def xm_92 : xM := (⟨"TermReader$Tokens", "isNextTo", "(I)Z"⟩, prog_8_method_11_code, 2, (Option.some FieldType.boolean), 5, 690, 689, 21, 117)
def xm_93 : xM := (⟨"TermReader$Tokens", "isCall", "(I)Z"⟩, prog_8_method_12_code, 2, (Option.some FieldType.boolean), 5, 686, 684, 685, 117)
def xm_94 : xM := (⟨"TermReader$Tokens", "isMinusOfInteger", "(I)Z"⟩, prog_8_method_13_code, 2, (Option.some FieldType.boolean), 5, 702, 700, 701, 117)
def xm_95 : xM := (⟨"TermReader$Tokens", "isQuoted", "(I)Z"⟩, prog_8_method_14_code, 2, (Option.some FieldType.boolean), 5, 711, 710, 22, 117)
def xm_96 : xM := (⟨"TermReader$Tokens", "beginsTerm", "(I)Z"⟩, prog_8_method_15_code, 2, (Option.some FieldType.boolean), 5, 724, 722, 723, 117)
def xm_97 : xM := (⟨"TermReader$Tokens", "skipLayout", "()Z"⟩, prog_8_method_16_code, 4, (Option.some FieldType.boolean), 5, 573, 572, 3, 117)
def xm_98 : xM := (⟨"TermReader$Tokens", "behindComment", "(I)I"⟩, prog_8_method_17_code, 3, (Option.some FieldType.int), 5, 579, 578, 4, 117)
def xm_99 : xM := (⟨"TermReader$Tokens", "scanToken", "()Z"⟩, prog_8_method_18_code, 4, (Option.some FieldType.boolean), 5, 583, 582, 5, 117)
def xm_100 : xM := (⟨"TermReader$Tokens", "add", "(IIIIJ)Z"⟩, prog_8_method_19_code, 7, (Option.some FieldType.boolean), 5, 616, 615, 9, 117)
def xm_101 : xM := (⟨"TermReader$Tokens", "behindRow", "(Z)I"⟩, prog_8_method_20_code, 4, (Option.some FieldType.int), 5, 588, 587, 6, 117)
def xm_102 : xM := (⟨"TermReader$Tokens", "isEnd", "(I)Z"⟩, prog_8_method_21_code, 3, (Option.some FieldType.boolean), 5, 646, 645, 15, 117)
def xm_103 : xM := (⟨"TermReader$Tokens", "addPlainName", "(I)Z"⟩, prog_8_method_22_code, 4, (Option.some FieldType.boolean), 5, 603, 602, 7, 117)
def xm_104 : xM := (⟨"TermReader$Tokens", "addName", "(II)Z"⟩, prog_8_method_23_code, 4, (Option.some FieldType.boolean), 5, 608, 607, 8, 117)
def xm_105 : xM := (⟨"TermReader$Tokens", "addQuotedName", "()Z"⟩, prog_8_method_24_code, 7, (Option.some FieldType.boolean), 5, 650, 649, 16, 117)
def xm_106 : xM := (⟨"TermReader$Tokens", "escaped", "(I)I"⟩, prog_8_method_25_code, 1, (Option.some FieldType.int), 99, 653, 652, 0, 117)
def xm_107 : xM := (⟨"TermReader$Tokens", "addVariable", "(I)Z"⟩, prog_8_method_26_code, 3, (Option.some FieldType.boolean), 5, 621, 620, 10, 117)
def xm_108 : xM := (⟨"TermReader$Tokens", "variableNumber", "(I)I"⟩, prog_8_method_27_code, 4, (Option.some FieldType.int), 5, 625, 624, 11, 117)
def xm_109 : xM := (⟨"TermReader$Tokens", "isSameText", "(II)Z"⟩, prog_8_method_28_code, 4, (Option.some FieldType.boolean), 5, 629, 628, 12, 117)
def xm_110 : xM := (⟨"TermReader$Tokens", "addInteger", "(II)Z"⟩, prog_8_method_29_code, 4, (Option.some FieldType.boolean), 5, 634, 633, 13, 117)
def xm_111 : xM := (⟨"TermReader$Tokens", "addDigits", "(II)Z"⟩, prog_8_method_30_code, 8, (Option.some FieldType.boolean), 5, 641, 640, 14, 117)
def xm_112 : xM := (⟨"TermReader$Tokens", "addString", "()Z"⟩, prog_8_method_31_code, 5, (Option.some FieldType.boolean), 5, 657, 656, 17, 117)
def xm_113 : xM := (⟨"TermReader$Writer", "<init>", "(LTermReader$CharRow;LTermReader$CharRow;LTermReader$Operators;LTermReader$Parts;)V"⟩, prog_9_method_1_code, 5, (Option.none : Option FieldType), 6, 349, 348, 0, 119)
def xm_114 : xM := (⟨"TermReader$Writer", "whole", "(I)V"⟩, prog_9_method_2_code, 2, (Option.none : Option FieldType), 6, 910, 908, 909, 119)
def xm_115 : xM := (⟨"TermReader$Writer", "part", "(III)V"⟩, prog_9_method_3_code, 4, (Option.none : Option FieldType), 6, 915, 914, 41, 119)
def xm_116 : xM := (⟨"TermReader$Writer", "compound", "(III)V"⟩, prog_9_method_4_code, 5, (Option.none : Option FieldType), 6, 956, 955, 46, 119)
def xm_117 : xM := (⟨"TermReader$Writer", "slotOf", "(I)I"⟩, prog_9_method_5_code, 8, (Option.some FieldType.int), 6, 960, 959, 47, 119)
def xm_118 : xM := (⟨"TermReader$Writer", "bracketed", "(IIII)V"⟩, prog_9_method_6_code, 6, (Option.none : Option FieldType), 6, 987, 986, 48, 119)
def xm_119 : xM := (⟨"TermReader$Writer", "operated", "(III)V"⟩, prog_9_method_7_code, 5, (Option.none : Option FieldType), 6, 992, 991, 49, 119)
def xm_120 : xM := (⟨"TermReader$Writer", "infixName", "(I)V"⟩, prog_9_method_8_code, 2, (Option.none : Option FieldType), 6, 1018, 1017, 52, 119)
def xm_121 : xM := (⟨"TermReader$Writer", "leftMost", "(II)I"⟩, prog_9_method_9_code, 3, (Option.some FieldType.int), 6, 1012, 1011, 51, 119)
def xm_122 : xM := (⟨"TermReader$Writer", "operand", "(III)V"⟩, prog_9_method_10_code, 5, (Option.none : Option FieldType), 6, 1002, 1001, 50, 119)
def xm_123 : xM := (⟨"TermReader$Writer", "list", "(II)V"⟩, prog_9_method_11_code, 6, (Option.none : Option FieldType), 6, 1034, 1033, 53, 119)
def xm_124 : xM := (⟨"TermReader$Writer", "arguments", "(II)V"⟩, prog_9_method_12_code, 5, (Option.none : Option FieldType), 6, 1048, 1047, 54, 119)
def xm_125 : xM := (⟨"TermReader$Writer", "integer", "(I)V"⟩, prog_9_method_13_code, 7, (Option.none : Option FieldType), 6, 928, 927, 42, 119)
def xm_126 : xM := (⟨"TermReader$Writer", "name", "(I)V"⟩, prog_9_method_14_code, 8, (Option.none : Option FieldType), 6, 933, 932, 43, 119)
def xm_127 : xM := (⟨"TermReader$Writer", "escapeOf", "(I)I"⟩, prog_9_method_15_code, 1, (Option.some FieldType.int), 99, 952, 951, 0, 119)
def xm_128 : xM := (⟨"TermReader$Writer", "isPlain", "(II)Z"⟩, prog_9_method_16_code, 6, (Option.some FieldType.boolean), 6, 941, 940, 44, 119)
def xm_129 : xM := (⟨"TermReader$Writer", "isRow", "(IIZ)Z"⟩, prog_9_method_17_code, 6, (Option.some FieldType.boolean), 6, 947, 946, 45, 119)
def xm_130 : xM := (⟨"TermReaderModel", "<init>", "()V"⟩, prog_11_method_1_code, 1, (Option.none : Option FieldType), 7, 1101, 1100, 0, 120)
def xm_131 : xM := (⟨"TermReaderModel", "thrown", "()I"⟩, prog_11_method_2_code, 1, (Option.some FieldType.int), 7, 1250, 1248, 1249, 120)
def xm_132 : xM := (⟨"TermReaderModel", "refuse", "(I)I"⟩, prog_11_method_3_code, 2, (Option.some FieldType.int), 7, 1423, 1422, 90, 120)
def xm_133 : xM := (⟨"TermReaderModel", "pack", "(III)J"⟩, prog_11_method_4_code, 3, (Option.some FieldType.long), 99, 1105, 1104, 0, 120)
def xm_134 : xM := (⟨"TermReaderModel", "opAt", "(J)I"⟩, prog_11_method_5_code, 4, (Option.some FieldType.int), 7, 1113, 1112, 58, 120)
def xm_135 : xM := (⟨"TermReaderModel", "tell", "(JII)V"⟩, prog_11_method_6_code, 6, (Option.none : Option FieldType), 7, 1109, 1108, 57, 120)
def xm_136 : xM := (⟨"TermReaderModel", "operators", "()I"⟩, prog_11_method_7_code, 3, (Option.some FieldType.int), 7, 1277, 1276, 59, 120)
def xm_137 : xM := (⟨"TermReaderModel", "prefixOf", "(J)I"⟩, prog_11_method_8_code, 4, (Option.some FieldType.int), 7, 1374, 1373, 78, 120)
def xm_138 : xM := (⟨"TermReaderModel", "isInfixType", "(I)Z"⟩, prog_11_method_9_code, 1, (Option.some FieldType.boolean), 99, 1273, 1272, 0, 120)
def xm_139 : xM := (⟨"TermReaderModel", "infixOf", "(J)I"⟩, prog_11_method_10_code, 4, (Option.some FieldType.int), 7, 1378, 1377, 79, 120)
def xm_140 : xM := (⟨"TermReaderModel", "postfixOf", "(J)I"⟩, prog_11_method_11_code, 4, (Option.some FieldType.int), 7, 1383, 1382, 80, 120)
def xm_141 : xM := (⟨"TermReaderModel", "leftOf", "(J)I"⟩, prog_11_method_12_code, 4, (Option.some FieldType.int), 7, 1399, 1398, 84, 120)
def xm_142 : xM := (⟨"TermReaderModel", "rightOf", "(J)I"⟩, prog_11_method_13_code, 4, (Option.some FieldType.int), 7, 1407, 1406, 86, 120)
def xm_143 : xM := (⟨"TermReaderModel", "leftUpTo", "(J)I"⟩, prog_11_method_14_code, 3, (Option.some FieldType.int), 7, 1489, 1488, 105, 120)
def xm_144 : xM := (⟨"TermReaderModel", "operandOf", "(J)I"⟩, prog_11_method_15_code, 4, (Option.some FieldType.int), 7, 1391, 1390, 82, 120)
def xm_145 : xM := (⟨"TermReaderModel", "isSign", "(I)Z"⟩, prog_11_method_16_code, 1, (Option.some FieldType.boolean), 99, 1267, 1266, 0, 120)
def xm_146 : xM := (⟨"TermReaderModel", "isSmall", "(I)Z"⟩, prog_11_method_17_code, 1, (Option.some FieldType.boolean), 99, 1264, 1263, 0, 120)
def xm_147 : xM := (⟨"TermReaderModel", "isGreat", "(I)Z"⟩, prog_11_method_18_code, 1, (Option.some FieldType.boolean), 99, 1310, 1309, 0, 120)
def xm_148 : xM := (⟨"TermReaderModel", "isDigit", "(I)Z"⟩, prog_11_method_19_code, 1, (Option.some FieldType.boolean), 99, 1317, 1316, 0, 120)
def xm_149 : xM := (⟨"TermReaderModel", "characters", "(J)I"⟩, prog_11_method_20_code, 3, (Option.some FieldType.int), 99, 1257, 1256, 0, 120)
def xm_150 : xM := (⟨"TermReaderModel", "canBe", "(JI)Z"⟩, prog_11_method_21_code, 7, (Option.some FieldType.boolean), 99, 1261, 1260, 0, 120)
def xm_151 : xM := (⟨"TermReaderModel", "op", "(IIJ)V"⟩, prog_11_method_22_code, 12, (Option.none : Option FieldType), 7, 1254, 1252, 1253, 120)
def xm_152 : xM := (⟨"TermReaderModel", "text", "(J)Z"⟩, prog_11_method_23_code, 6, (Option.some FieldType.boolean), 7, 1281, 1279, 1280, 120)
def xm_153 : xM := (⟨"TermReaderModel", "charAt", "(I)I"⟩, prog_11_method_24_code, 2, (Option.some FieldType.int), 7, 1307, 1306, 64, 120)
def xm_154 : xM := (⟨"TermReaderModel", "behindLayout", "(I)I"⟩, prog_11_method_25_code, 4, (Option.some FieldType.int), 7, 1303, 1302, 63, 120)
def xm_155 : xM := (⟨"TermReaderModel", "keep", "(I)V"⟩, prog_11_method_26_code, 2, (Option.none : Option FieldType), 7, 1321, 1320, 66, 120)
def xm_156 : xM := (⟨"TermReaderModel", "word", "(I)I"⟩, prog_11_method_27_code, 3, (Option.some FieldType.int), 7, 1314, 1313, 65, 120)
def xm_157 : xM := (⟨"TermReaderModel", "scan", "(I)V"⟩, prog_11_method_28_code, 4, (Option.none : Option FieldType), 7, 1299, 1298, 62, 120)
def xm_158 : xM := (⟨"TermReaderModel", "signs", "(I)V"⟩, prog_11_method_29_code, 4, (Option.none : Option FieldType), 7, 1333, 1332, 68, 120)
def xm_159 : xM := (⟨"TermReaderModel", "single", "(II)V"⟩, prog_11_method_30_code, 6, (Option.none : Option FieldType), 7, 1341, 1340, 70, 120)
def xm_160 : xM := (⟨"TermReaderModel", "hex", "(I)I"⟩, prog_11_method_31_code, 1, (Option.some FieldType.int), 99, 1328, 1327, 0, 120)
def xm_161 : xM := (⟨"TermReaderModel", "number", "(I)V"⟩, prog_11_method_32_code, 7, (Option.none : Option FieldType), 7, 1325, 1324, 67, 120)
def xm_162 : xM := (⟨"TermReaderModel", "quotes", "(II)V"⟩, prog_11_method_33_code, 8, (Option.none : Option FieldType), 7, 1337, 1336, 69, 120)
def xm_163 : xM := (⟨"TermReaderModel", "key", "()J"⟩, prog_11_method_34_code, 4, (Option.some FieldType.long), 7, 1369, 1368, 77, 120)
def xm_164 : xM := (⟨"TermReaderModel", "keyOf", "(I)J"⟩, prog_11_method_35_code, 6, (Option.some FieldType.long), 7, 1467, 1466, 100, 120)
def xm_165 : xM := (⟨"TermReaderModel", "intern", "()I"⟩, prog_11_method_36_code, 4, (Option.some FieldType.int), 7, 1353, 1352, 73, 120)
def xm_166 : xM := (⟨"TermReaderModel", "named", "(II)I"⟩, prog_11_method_37_code, 3, (Option.some FieldType.int), 7, 1361, 1360, 75, 120)
def xm_167 : xM := (⟨"TermReaderModel", "add", "(III)I"⟩, prog_11_method_38_code, 4, (Option.some FieldType.int), 7, 1345, 1344, 71, 120)
def xm_168 : xM := (⟨"TermReaderModel", "ahead", "(III)V"⟩, prog_11_method_39_code, 5, (Option.none : Option FieldType), 7, 1403, 1402, 85, 120)
def xm_169 : xM := (⟨"TermReaderModel", "enter", "(III)V"⟩, prog_11_method_40_code, 4, (Option.none : Option FieldType), 7, 1291, 1290, 60, 120)
def xm_170 : xM := (⟨"TermReaderModel", "canBegin", "()Z"⟩, prog_11_method_41_code, 1, (Option.some FieldType.boolean), 7, 1387, 1386, 81, 120)
def xm_171 : xM := (⟨"TermReaderModel", "variable", "()I"⟩, prog_11_method_42_code, 4, (Option.some FieldType.int), 7, 1349, 1348, 72, 120)
def xm_172 : xM := (⟨"TermReaderModel", "string", "()V"⟩, prog_11_method_43_code, 6, (Option.none : Option FieldType), 7, 1357, 1356, 74, 120)
def xm_173 : xM := (⟨"TermReaderModel", "begin", "()V"⟩, prog_11_method_44_code, 3, (Option.none : Option FieldType), 7, 1295, 1294, 61, 120)
def xm_174 : xM := (⟨"TermReaderModel", "nameBegins", "(I)V"⟩, prog_11_method_45_code, 10, (Option.none : Option FieldType), 7, 1365, 1364, 76, 120)
def xm_175 : xM := (⟨"TermReaderModel", "goOn", "()V"⟩, prog_11_method_46_code, 8, (Option.none : Option FieldType), 7, 1395, 1394, 83, 120)
def xm_176 : xM := (⟨"TermReaderModel", "whole", "(II)V"⟩, prog_11_method_47_code, 6, (Option.none : Option FieldType), 7, 1411, 1410, 87, 120)
def xm_177 : xM := (⟨"TermReaderModel", "read", "()I"⟩, prog_11_method_48_code, 6, (Option.some FieldType.int), 7, 1287, 1285, 1286, 120)
def xm_178 : xM := (⟨"TermReaderModel", "isTerm", "(I)Z"⟩, prog_11_method_49_code, 2, (Option.some FieldType.boolean), 7, 1431, 1430, 91, 120)
def xm_179 : xM := (⟨"TermReaderModel", "skip", "(I)I"⟩, prog_11_method_50_code, 4, (Option.some FieldType.int), 7, 1451, 1450, 96, 120)
def xm_180 : xM := (⟨"TermReaderModel", "out", "(I)V"⟩, prog_11_method_51_code, 2, (Option.none : Option FieldType), 7, 1435, 1434, 92, 120)
def xm_181 : xM := (⟨"TermReaderModel", "later", "(II)V"⟩, prog_11_method_52_code, 3, (Option.none : Option FieldType), 7, 1419, 1418, 89, 120)
def xm_182 : xM := (⟨"TermReaderModel", "digits", "(J)V"⟩, prog_11_method_53_code, 5, (Option.none : Option FieldType), 7, 1475, 1474, 102, 120)
def xm_183 : xM := (⟨"TermReaderModel", "isPlain", "(I)Z"⟩, prog_11_method_54_code, 10, (Option.some FieldType.boolean), 7, 1443, 1442, 94, 120)
def xm_184 : xM := (⟨"TermReaderModel", "name", "(I)V"⟩, prog_11_method_55_code, 6, (Option.none : Option FieldType), 7, 1439, 1438, 93, 120)
def xm_185 : xM := (⟨"TermReaderModel", "isNamed", "(IIII)Z"⟩, prog_11_method_56_code, 6, (Option.some FieldType.boolean), 7, 1455, 1454, 97, 120)
def xm_186 : xM := (⟨"TermReaderModel", "priorityOf", "(I)I"⟩, prog_11_method_57_code, 4, (Option.some FieldType.int), 7, 1463, 1462, 99, 120)
def xm_187 : xM := (⟨"TermReaderModel", "isOperator", "(I)Z"⟩, prog_11_method_58_code, 4, (Option.some FieldType.boolean), 7, 1471, 1470, 101, 120)
def xm_188 : xM := (⟨"TermReaderModel", "part", "(II)V"⟩, prog_11_method_59_code, 6, (Option.none : Option FieldType), 7, 1459, 1458, 98, 120)
def xm_189 : xM := (⟨"TermReaderModel", "list", "(I)V"⟩, prog_11_method_60_code, 3, (Option.none : Option FieldType), 7, 1447, 1446, 95, 120)
def xm_190 : xM := (⟨"TermReaderModel", "takesOn", "(II)Z"⟩, prog_11_method_61_code, 5, (Option.some FieldType.boolean), 7, 1485, 1484, 104, 120)
def xm_191 : xM := (⟨"TermReaderModel", "operated", "(I)V"⟩, prog_11_method_62_code, 9, (Option.none : Option FieldType), 7, 1481, 1480, 103, 120)
def xm_192 : xM := (⟨"TermReaderModel", "plainly", "(I)V"⟩, prog_11_method_63_code, 6, (Option.none : Option FieldType), 7, 1493, 1492, 106, 120)
def xm_193 : xM := (⟨"TermReaderModel", "write", "(I)I"⟩, prog_11_method_64_code, 4, (Option.some FieldType.int), 7, 1427, 1425, 1426, 120)
def xm_194 : xM := (⟨"TermReaderModel", "written", "(I)I"⟩, prog_11_method_65_code, 2, (Option.some FieldType.int), 7, 1497, 1495, 1496, 120)
def xm_195 : xM := (⟨"TermReaderModel", "again", "()Z"⟩, prog_11_method_66_code, 2, (Option.some FieldType.boolean), 7, 1501, 1499, 1500, 120)
def xm_196 : xM := (⟨"TermReaderModel", "alike", "(II)Z"⟩, prog_11_method_67_code, 8, (Option.some FieldType.boolean), 7, 1505, 1503, 1504, 120)
def xm_197 : xM := (⟨"TermReaderModel", "depthIn", "(II)I"⟩, prog_11_method_68_code, 5, (Option.some FieldType.int), 7, 1415, 1414, 88, 120)
def xm_198 : xM := (⟨"TermReaderModel", "look", "(II)I"⟩, prog_11_method_69_code, 4, (Option.some FieldType.int), 7, 1509, 1507, 1508, 120)
def xm_199 : xM := (⟨"TermReaderModel", "count", "(I)I"⟩, prog_11_method_70_code, 2, (Option.some FieldType.int), 7, 1513, 1511, 1512, 120)
def xm_200 : xM := (⟨"TermReader$Chars", "isPrintable", "(I)Z"⟩, prog_3_method_2_code, 1, (Option.some FieldType.boolean), 99, 413, 412, 0, 121)
def xm_201 : xM := (⟨"TermReader$Chars", "isSmall", "(I)Z"⟩, prog_3_method_3_code, 1, (Option.some FieldType.boolean), 99, 446, 445, 0, 121)
def xm_202 : xM := (⟨"TermReader$Chars", "isLarge", "(I)Z"⟩, prog_3_method_4_code, 1, (Option.some FieldType.boolean), 99, 596, 595, 0, 121)
def xm_203 : xM := (⟨"TermReader$Chars", "isDigit", "(I)Z"⟩, prog_3_method_5_code, 1, (Option.some FieldType.boolean), 99, 599, 598, 0, 121)
def xm_204 : xM := (⟨"TermReader$Chars", "isWord", "(I)Z"⟩, prog_3_method_6_code, 1, (Option.some FieldType.boolean), 99, 592, 591, 0, 121)
def xm_205 : xM := (⟨"TermReader$Chars", "isSign", "(I)Z"⟩, prog_3_method_7_code, 1, (Option.some FieldType.boolean), 99, 449, 448, 0, 121)
def xm_206 : xM := (⟨"TermReader$Chars", "isPunctuation", "(I)Z"⟩, prog_3_method_8_code, 1, (Option.some FieldType.boolean), 99, 660, 659, 0, 121)
def xm_207 : xM := (⟨"TermReader$Chars", "digit", "(II)I"⟩, prog_3_method_9_code, 2, (Option.some FieldType.int), 99, 637, 636, 0, 121)
def xm_208 : xM := (⟨"TermReader$Packed", "at", "(JI)I"⟩, prog_5_method_2_code, 3, (Option.some FieldType.int), 99, 404, 403, 0, 111)
def xm_209 : xM := (⟨"TermReader$Packed", "size", "(J)I"⟩, prog_5_method_3_code, 3, (Option.some FieldType.int), 99, 401, 400, 0, 111)
def xm_210 : xM := (⟨"TermReader$Packed", "trimmed", "(J)J"⟩, prog_5_method_4_code, 3, (Option.some FieldType.long), 99, 452, 451, 0, 111)
def xm_211 : xM := (⟨"TermReader$Packed", "ofText", "(Ljava/lang/String;)J"⟩, prog_5_method_5_code, 4, (Option.some FieldType.long), 99, 172, 171, 0, 111)
def xm_212 : xM := (⟨"TermReader$Packed", "ofRow", "(LTermReader$CharRow;II)J"⟩, prog_5_method_6_code, 6, (Option.some FieldType.long), 99, 611, 610, 0, 111)
def xm_213 : xM := (⟨"TermReader$Packed", "isOperatorName", "(J)Z"⟩, prog_5_method_7_code, 6, (Option.some FieldType.boolean), 99, 442, 441, 0, 111)
def xm_214 : xM := (⟨"TermReaderLaw", "op", "(LTermReader;IIJ)I"⟩, method_3_code, 6, (Option.some FieldType.int), 99, 433, 432, 0, 107)
def xm_215 : xM := (⟨"TermReaderLaw", "read", "(LTermReader;[J)I"⟩, method_4_code, 3, (Option.some FieldType.int), 99, 556, 555, 0, 107)
def xm_216 : xM := (⟨"TermReaderLaw", "write", "(LTermReader;I[J)I"⟩, method_5_code, 4, (Option.some FieldType.int), 99, 897, 896, 0, 107)
def xm_217 : xM := (⟨"TermReaderLaw", "alike", "(LTermReader;II[J)I"⟩, method_6_code, 5, (Option.some FieldType.int), 99, 1052, 1051, 0, 107)
def xm_218 : xM := (⟨"TermReaderLaw", "look", "(LTermReader;II[J)I"⟩, method_7_code, 5, (Option.some FieldType.int), 99, 1073, 1072, 0, 107)
def xm_219 : xM := (⟨"TermReaderLaw", "count", "(LTermReader;I[J)I"⟩, method_8_code, 4, (Option.some FieldType.int), 99, 1087, 1086, 0, 107)
def xm_220 : xM := (⟨"TermReaderLaw", "law", "([I)Z"⟩, code, 7, (Option.some FieldType.boolean), 99, 0, 0, 0, 107)
def xms : List xM := [xm_0, xm_1, xm_2, xm_3, xm_4, xm_5, xm_6, xm_7, xm_8, xm_9, xm_10, xm_11, xm_12, xm_13, xm_14, xm_15, xm_16, xm_17, xm_18, xm_19, xm_20, xm_21, xm_22, xm_23, xm_24, xm_25, xm_26, xm_27, xm_28, xm_29, xm_30, xm_31, xm_32, xm_33, xm_34, xm_35, xm_36, xm_37, xm_38, xm_39, xm_40, xm_41, xm_42, xm_43, xm_44, xm_45, xm_46, xm_47, xm_48, xm_49, xm_50, xm_51, xm_52, xm_53, xm_54, xm_55, xm_56, xm_57, xm_58, xm_59, xm_60, xm_61, xm_62, xm_63, xm_64, xm_65, xm_66, xm_67, xm_68, xm_69, xm_70, xm_71, xm_72, xm_73, xm_74, xm_75, xm_76, xm_77, xm_78, xm_79, xm_80, xm_81, xm_82, xm_83, xm_84, xm_85, xm_86, xm_87, xm_88, xm_89, xm_90, xm_91, xm_92, xm_93, xm_94, xm_95, xm_96, xm_97, xm_98, xm_99, xm_100, xm_101, xm_102, xm_103, xm_104, xm_105, xm_106, xm_107, xm_108, xm_109, xm_110, xm_111, xm_112, xm_113, xm_114, xm_115, xm_116, xm_117, xm_118, xm_119, xm_120, xm_121, xm_122, xm_123, xm_124, xm_125, xm_126, xm_127, xm_128, xm_129, xm_130, xm_131, xm_132, xm_133, xm_134, xm_135, xm_136, xm_137, xm_138, xm_139, xm_140, xm_141, xm_142, xm_143, xm_144, xm_145, xm_146, xm_147, xm_148, xm_149, xm_150, xm_151, xm_152, xm_153, xm_154, xm_155, xm_156, xm_157, xm_158, xm_159, xm_160, xm_161, xm_162, xm_163, xm_164, xm_165, xm_166, xm_167, xm_168, xm_169, xm_170, xm_171, xm_172, xm_173, xm_174, xm_175, xm_176, xm_177, xm_178, xm_179, xm_180, xm_181, xm_182, xm_183, xm_184, xm_185, xm_186, xm_187, xm_188, xm_189, xm_190, xm_191, xm_192, xm_193, xm_194, xm_195, xm_196, xm_197, xm_198, xm_199, xm_200, xm_201, xm_202, xm_203, xm_204, xm_205, xm_206, xm_207, xm_208, xm_209, xm_210, xm_211, xm_212, xm_213, xm_214, xm_215, xm_216, xm_217, xm_218, xm_219, xm_220]
-- handlers: method, from, up to, what, where it goes on, the local
def xhd : List (Nat × Nat × Nat × Nat × Nat × Nat) := [(214, 0, 7, 0, 12, 5), (214, 0, 7, 1, 16, 5), (215, 0, 8, 0, 12, 2), (215, 0, 8, 2, 15, 2), (216, 0, 9, 2, 13, 3), (217, 0, 17, 2, 22, 4), (218, 0, 10, 2, 15, 4), (218, 0, 10, 0, 19, 4), (219, 0, 9, 0, 13, 3)]
end
section
-- printed by wip/gen.py: the rows of code, by method and pc
-- TermReader.<init>()V
def xc_0 : List (Option xRow) := [xq (.aload_n 0) 1, xqc (.invokespecial 3) 3 1000 1 134, xz, xz, xq (.aload_n 0) 1, xqc (.new 9) 3 1 0 137, xz, xz, xq .dup 1, xqv (.bipush 120) 2 120, xz, xqc (.invokespecial 11) 3 11 2 139, xz, xz, xqc (.putfield 14) 3 0 0 364, xz, xz, xq (.aload_n 0) 1, xqc (.new 9) 3 1 0 137, xz, xz, xq .dup 1, xqv (.sipush 1200) 3 1200, xz, xz, xqc (.invokespecial 11) 3 11 2 139, xz, xz, xqc (.putfield 18) 3 0 1 365, xz, xz, xq (.aload_n 0) 1, xqc (.new 9) 3 1 0 137, xz, xz, xq .dup 1, xqv (.sipush 4926) 3 4926, xz, xz, xqc (.invokespecial 11) 3 11 2 139, xz, xz, xqc (.putfield 21) 3 0 2 366, xz, xz, xq (.aload_n 0) 1, xqc (.new 24) 3 2 0 151, xz, xz, xq .dup 1, xqc (.invokespecial 26) 3 17 1 153, xz, xz, xqc (.putfield 27) 3 0 3 367, xz, xz, xq (.aload_n 0) 1, xqc (.new 31) 3 4 0 248, xz, xz, xq .dup 1, xq (.aload_n 0) 1, xqc (.getfield 21) 3 0 2 366, xz, xz, xqc (.invokespecial 33) 3 56 2 250, xz, xz, xqc (.putfield 36) 3 0 4 368, xz, xz, xq (.aload_n 0) 1, xqc (.new 40) 3 5 0 283, xz, xz, xq .dup 1, xq (.aload_n 0) 1, xqc (.getfield 14) 3 0 0 364, xz, xz, xq (.aload_n 0) 1, xqc (.getfield 21) 3 0 2 366, xz, xz, xqc (.invokespecial 42) 3 82 3 285, xz, xz, xqc (.putfield 45) 3 0 5 369, xz, xz, xq (.aload_n 0) 1, xqc (.new 49) 3 3 0 323, xz, xz, xq .dup 1, xq (.aload_n 0) 1, xqc (.getfield 45) 3 0 5 369, xz, xz, xq (.aload_n 0) 1, xqc (.getfield 27) 3 0 3 367, xz, xz, xq (.aload_n 0) 1, xqc (.getfield 36) 3 0 4 368, xz, xz, xqc (.invokespecial 51) 3 37 4 325, xz, xz, xqc (.putfield 54) 3 0 6 370, xz, xz, xq (.aload_n 0) 1, xqc (.new 58) 3 6 0 345, xz, xz, xq .dup 1, xq (.aload_n 0) 1, xqc (.getfield 18) 3 0 1 365, xz, xz, xq (.aload_n 0) 1, xqc (.getfield 21) 3 0 2 366, xz, xz, xq (.aload_n 0) 1, xqc (.getfield 27) 3 0 3 367, xz, xz, xq (.aload_n 0) 1, xqc (.getfield 36) 3 0 4 368, xz, xz, xqc (.invokespecial 60) 3 113 5 347, xz, xz, xqc (.putfield 63) 3 0 7 371, xz, xz, xq (.aload_n 0) 1, xqv (.bipush 40) 2 40, xz, xqc (.newarray .int) 2 0 0 246, xz, xqc (.putfield 67) 3 0 8 372, xz, xz, xq (.aload_n 0) 1, xqv (.iconst 0) 1 0, xqc (.putfield 71) 3 0 9 373, xz, xz, xq .return_ 1]
-- TermReader.text(J)Z
def xc_1 : List (Option xRow) := [xq (.lload_n 1) 1, xqc (.invokestatic 75) 3 209 1 399, xz, xz, xq (.istore_n 3) 1, xq (.iload_n 3) 1, xqa (.ifCond .eq 17) 3 23, xz, xz, xq (.aload_n 0) 1, xqc (.getfield 14) 3 0 0 364, xz, xz, xqc (.invokevirtual 81) 3 12 1 406, xz, xz, xq (.iload_n 3) 1, xq .iadd 1, xqv (.bipush 120) 2 120, xz, xqa (.if_icmp .le 5) 3 25, xz, xz, xqv (.iconst 0) 1 0, xq .ireturn 1, xqv (.iconst 0) 1 0, xq (.istore 4) 2, xz, xq (.iload 4) 2, xz, xq (.iload_n 3) 1, xqa (.if_icmp .ge 23) 3 54, xz, xz, xq (.lload_n 1) 1, xq (.iload 4) 2, xz, xqc (.invokestatic 85) 3 208 2 410, xz, xz, xqc (.invokestatic 89) 3 200 1 411, xz, xz, xqa (.ifCond .ne 5) 3 48, xz, xz, xqv (.iconst 0) 1 0, xq .ireturn 1, xqv (.iinc 4 1) 3 1, xz, xz, xqa (.goto (-23)) 3 28, xz, xz, xqv (.iconst 0) 1 0, xq (.istore 4) 2, xz, xq (.iload 4) 2, xz, xq (.iload_n 3) 1, xqa (.if_icmp .ge 22) 3 82, xz, xz, xq (.aload_n 0) 1, xqc (.getfield 14) 3 0 0 364, xz, xz, xq (.lload_n 1) 1, xq (.iload 4) 2, xz, xqc (.invokestatic 85) 3 208 2 410, xz, xz, xqc (.invokevirtual 95) 3 14 2 414, xz, xz, xqv (.iinc 4 1) 3 1, xz, xz, xqa (.goto (-22)) 3 57, xz, xz, xqv (.iconst 1) 1 1, xq .ireturn 1]
-- TermReader.op(IIJ)V
def xc_2 : List (Option xRow) := [xq (.iload_n 1) 1, xqa (.ifCond .lt 27) 3 28, xz, xz, xq (.iload_n 1) 1, xqv (.sipush 1200) 3 1200, xz, xz, xqa (.if_icmp .gt 20) 3 28, xz, xz, xq (.iload_n 2) 1, xqa (.ifCond .lt 16) 3 28, xz, xz, xq (.iload_n 2) 1, xqv (.bipush 6) 2 6, xz, xqa (.if_icmp .gt 10) 3 28, xz, xz, xq (.lload_n 3) 1, xqc (.invokestatic 98) 3 213 1 440, xz, xz, xqa (.ifCond .ne 13) 3 38, xz, xz, xqc (.new 102) 3 1000 0 454, xz, xz, xq .dup 1, xqc (.ldc 104) 2 0 0 495, xz, xqc (.invokespecial 106) 3 2000 0 496, xz, xz, xq .athrow 1, xq (.lload_n 3) 1, xqc (.invokestatic 109) 3 210 1 521, xz, xz, xq (.lstore 5) 2, xz, xq (.iload_n 1) 1, xqa (.ifCond .ne 14) 3 59, xz, xz, xq (.aload_n 0) 1, xqc (.getfield 27) 3 0 3 367, xz, xz, xq (.iload_n 2) 1, xq (.lload 5) 2, xz, xqc (.invokevirtual 113) 3 28 3 522, xz, xz, xq .return_ 1, xq (.aload_n 0) 1, xqc (.getfield 27) 3 0 3 367, xz, xz, xq (.iload_n 2) 1, xq (.lload 5) 2, xz, xqc (.invokevirtual 117) 3 26 3 530, xz, xz, xqa (.ifCond .ne 13) 3 82, xz, xz, xqc (.new 121) 3 1001 0 537, xz, xz, xq .dup 1, xqc (.ldc 123) 2 0 0 546, xz, xqc (.invokespecial 125) 3 2000 0 547, xz, xz, xq .athrow 1, xq (.aload_n 0) 1, xqc (.getfield 27) 3 0 3 367, xz, xz, xq (.iload_n 1) 1, xq (.iload_n 2) 1, xq (.lload 5) 2, xz, xqc (.invokevirtual 126) 3 27 4 553, xz, xz, xq .return_ 1]
-- TermReader.read()I
def xc_3 : List (Option xRow) := [xq (.aload_n 0) 1, xqc (.getfield 36) 3 0 4 368, xz, xz, xqc (.invokevirtual 130) 3 57 1 562, xz, xz, xq (.istore_n 1) 1, xq (.aload_n 0) 1, xqc (.getfield 21) 3 0 2 366, xz, xz, xqc (.invokevirtual 81) 3 12 1 406, xz, xz, xq (.istore_n 2) 1, xq (.aload_n 0) 1, xqc (.getfield 45) 3 0 5 369, xz, xz, xqc (.invokevirtual 133) 3 83 1 566, xz, xz, xqa (.ifCond .eq 13) 3 36, xz, xz, xq (.aload_n 0) 1, xqc (.getfield 54) 3 0 6 370, xz, xz, xqc (.invokevirtual 137) 3 38 1 670, xz, xz, xqa (.goto 4) 3 37, xz, xz, xqv (.iconst (-1)) 1 (-1), xq (.istore_n 3) 1, xq (.iload_n 3) 1, xqv (.iconst (-1)) 1 (-1), xqa (.if_icmp .ne 37) 3 77, xz, xz, xq (.aload_n 0) 1, xqc (.getfield 36) 3 0 4 368, xz, xz, xq (.iload_n 1) 1, xqc (.invokevirtual 140) 3 58 2 862, xz, xz, xq (.aload_n 0) 1, xqc (.getfield 21) 3 0 2 366, xz, xz, xq (.iload_n 2) 1, xqc (.invokevirtual 143) 3 15 2 427, xz, xz, xq (.aload_n 0) 1, xqc (.getfield 14) 3 0 0 364, xz, xz, xqv (.iconst 0) 1 0, xqc (.invokevirtual 143) 3 15 2 427, xz, xz, xqc (.new 102) 3 1000 0 454, xz, xz, xq .dup 1, xqc (.ldc 144) 2 0 0 866, xz, xqc (.invokespecial 106) 3 2000 0 496, xz, xz, xq .athrow 1, xq (.aload_n 0) 1, xqc (.getfield 71) 3 0 9 373, xz, xz, xqa (.ifCond .lt 25) 3 106, xz, xz, xq (.aload_n 0) 1, xqc (.getfield 71) 3 0 9 373, xz, xz, xqv (.bipush 40) 2 40, xz, xqa (.if_icmp .ge 16) 3 106, xz, xz, xq (.aload_n 0) 1, xqc (.getfield 36) 3 0 4 368, xz, xz, xqc (.invokevirtual 130) 3 57 1 562, xz, xz, xqv (.sipush 600) 3 600, xz, xz, xqa (.if_icmp .le 29) 3 132, xz, xz, xq (.aload_n 0) 1, xqc (.getfield 36) 3 0 4 368, xz, xz, xq (.iload_n 1) 1, xqc (.invokevirtual 140) 3 58 2 862, xz, xz, xq (.aload_n 0) 1, xqc (.getfield 21) 3 0 2 366, xz, xz, xq (.iload_n 2) 1, xqc (.invokevirtual 143) 3 15 2 427, xz, xz, xqc (.new 146) 3 1002 0 867, xz, xz, xq .dup 1, xqc (.ldc 148) 2 0 0 876, xz, xqc (.invokespecial 150) 3 2000 0 877, xz, xz, xq .athrow 1, xq (.aload_n 0) 1, xqc (.getfield 14) 3 0 0 364, xz, xz, xq (.aload_n 0) 1, xqc (.getfield 54) 3 0 6 370, xz, xz, xqc (.invokevirtual 151) 3 39 1 883, xz, xz, xqc (.invokevirtual 154) 3 16 2 891, xz, xz, xq (.aload_n 0) 1, xqc (.getfield 67) 3 0 8 372, xz, xz, xq (.aload_n 0) 1, xqc (.getfield 71) 3 0 9 373, xz, xz, xq (.iload_n 3) 1, xq .iastore 1, xq (.aload_n 0) 1, xq .dup 1, xqc (.getfield 71) 3 0 9 373, xz, xz, xqv (.iconst 1) 1 1, xq .iadd 1, xqc (.putfield 71) 3 0 9 373, xz, xz, xq (.aload_n 0) 1, xqc (.getfield 71) 3 0 9 373, xz, xz, xqv (.iconst 1) 1 1, xq .isub 1, xq .ireturn 1]
-- TermReader.write(I)I
def xc_4 : List (Option xRow) := [xq (.aload_n 0) 1, xq (.iload_n 1) 1, xqc (.invokevirtual 157) 3 10 2 902, xz, xz, xqa (.ifCond .ne 13) 3 18, xz, xz, xqc (.new 146) 3 1002 0 867, xz, xz, xq .dup 1, xqc (.ldc 160) 2 0 0 906, xz, xqc (.invokespecial 150) 3 2000 0 877, xz, xz, xq .athrow 1, xq (.aload_n 0) 1, xqc (.getfield 63) 3 0 7 371, xz, xz, xq (.aload_n 0) 1, xqc (.getfield 67) 3 0 8 372, xz, xz, xq (.iload_n 1) 1, xq .iaload 1, xqc (.invokevirtual 162) 3 114 2 907, xz, xz, xq (.aload_n 0) 1, xqc (.getfield 18) 3 0 1 365, xz, xz, xqc (.invokevirtual 81) 3 12 1 406, xz, xz, xq .ireturn 1]
-- TermReader.written(I)I
def xc_5 : List (Option xRow) := [xq (.aload_n 0) 1, xqc (.getfield 18) 3 0 1 365, xz, xz, xq (.iload_n 1) 1, xqc (.invokevirtual 164) 3 13 2 419, xz, xz, xq .ireturn 1]
-- TermReader.again()Z
def xc_6 : List (Option xRow) := [xq (.aload_n 0) 1, xqc (.getfield 18) 3 0 1 365, xz, xz, xqc (.invokevirtual 81) 3 12 1 406, xz, xz, xq (.istore_n 1) 1, xq (.iload_n 1) 1, xqv (.iconst 3) 1 3, xq .iadd 1, xqv (.bipush 120) 2 120, xz, xqa (.if_icmp .le 5) 3 18, xz, xz, xqv (.iconst 0) 1 0, xq .ireturn 1, xq (.aload_n 0) 1, xqc (.getfield 14) 3 0 0 364, xz, xz, xqv (.iconst 0) 1 0, xqc (.invokevirtual 143) 3 15 2 427, xz, xz, xqv (.iconst 0) 1 0, xq (.istore_n 2) 1, xq (.iload_n 2) 1, xq (.iload_n 1) 1, xqa (.if_icmp .ge 24) 3 54, xz, xz, xq (.aload_n 0) 1, xqc (.getfield 14) 3 0 0 364, xz, xz, xq (.aload_n 0) 1, xqc (.getfield 18) 3 0 1 365, xz, xz, xq (.iload_n 2) 1, xqc (.invokevirtual 164) 3 13 2 419, xz, xz, xqc (.invokevirtual 95) 3 14 2 414, xz, xz, xqv (.iinc 2 1) 3 1, xz, xz, xqa (.goto (-23)) 3 28, xz, xz, xq (.aload_n 0) 1, xqc (.getfield 14) 3 0 0 364, xz, xz, xqv (.bipush 32) 2 32, xz, xqc (.invokevirtual 95) 3 14 2 414, xz, xz, xq (.aload_n 0) 1, xqc (.getfield 14) 3 0 0 364, xz, xz, xqv (.bipush 46) 2 46, xz, xqc (.invokevirtual 95) 3 14 2 414, xz, xz, xq (.aload_n 0) 1, xqc (.getfield 14) 3 0 0 364, xz, xz, xqv (.bipush 32) 2 32, xz, xqc (.invokevirtual 95) 3 14 2 414, xz, xz, xqv (.iconst 1) 1 1, xq .ireturn 1]
-- TermReader.alike(II)Z
def xc_7 : List (Option xRow) := [xq (.aload_n 0) 1, xq (.iload_n 1) 1, xqc (.invokevirtual 157) 3 10 2 902, xz, xz, xqa (.ifCond .eq 11) 3 16, xz, xz, xq (.aload_n 0) 1, xq (.iload_n 2) 1, xqc (.invokevirtual 157) 3 10 2 902, xz, xz, xqa (.ifCond .ne 13) 3 26, xz, xz, xqc (.new 146) 3 1002 0 867, xz, xz, xq .dup 1, xqc (.ldc 160) 2 0 0 906, xz, xqc (.invokespecial 150) 3 2000 0 877, xz, xz, xq .athrow 1, xq (.aload_n 0) 1, xqc (.getfield 36) 3 0 4 368, xz, xz, xq (.aload_n 0) 1, xqc (.getfield 67) 3 0 8 372, xz, xz, xq (.iload_n 1) 1, xq .iaload 1, xq (.aload_n 0) 1, xqc (.getfield 67) 3 0 8 372, xz, xz, xq (.iload_n 2) 1, xq .iaload 1, xqv (.iconst 0) 1 0, xqk (.invokevirtual 167) 3 80 4 1057 1, xz, xz, xq .ireturn 1]
-- TermReader.look(II)I
def xc_8 : List (Option xRow) := [xq (.aload_n 0) 1, xq (.iload_n 1) 1, xqc (.invokevirtual 157) 3 10 2 902, xz, xz, xqa (.ifCond .ne 13) 3 18, xz, xz, xqc (.new 146) 3 1002 0 867, xz, xz, xq .dup 1, xqc (.ldc 160) 2 0 0 906, xz, xqc (.invokespecial 150) 3 2000 0 877, xz, xz, xq .athrow 1, xq (.aload_n 0) 1, xqc (.getfield 67) 3 0 8 372, xz, xz, xq (.iload_n 1) 1, xq .iaload 1, xq (.istore_n 3) 1, xq (.iload_n 2) 1, xqs (.tableswitch 88 0 3 #[30, 39, 48, 79]) 30 114 [(0, 56), (1, 65), (2, 74), (3, 105)], xz, xz, xz, xz, xz, xz, xz, xz, xz, xz, xz, xz, xz, xz, xz, xz, xz, xz, xz, xz, xz, xz, xz, xz, xz, xz, xz, xz, xz, xq (.aload_n 0) 1, xqc (.getfield 36) 3 0 4 368, xz, xz, xq (.iload_n 3) 1, xqc (.invokevirtual 171) 3 60 2 1078, xz, xz, xq .ireturn 1, xq (.aload_n 0) 1, xqc (.getfield 36) 3 0 4 368, xz, xz, xq (.iload_n 3) 1, xqc (.invokevirtual 174) 3 70 2 1079, xz, xz, xq .ireturn 1, xq (.aload_n 0) 1, xqc (.getfield 36) 3 0 4 368, xz, xz, xq (.iload_n 3) 1, xqc (.invokevirtual 177) 3 68 2 1080, xz, xz, xqa (.ifCond .eq 14) 3 96, xz, xz, xq (.aload_n 0) 1, xqc (.getfield 36) 3 0 4 368, xz, xz, xq (.iload_n 3) 1, xqc (.invokevirtual 180) 3 62 2 1081, xz, xz, xqa (.goto 11) 3 104, xz, xz, xq (.aload_n 0) 1, xqc (.getfield 36) 3 0 4 368, xz, xz, xq (.iload_n 3) 1, xqc (.invokevirtual 183) 3 61 2 1082, xz, xz, xq .ireturn 1, xq (.aload_n 0) 1, xqc (.getfield 36) 3 0 4 368, xz, xz, xq (.iload_n 3) 1, xqc (.invokevirtual 186) 3 66 2 1083, xz, xz, xq .ireturn 1, xqc (.new 102) 3 1000 0 454, xz, xz, xq .dup 1, xqc (.ldc 189) 2 0 0 1084, xz, xqc (.invokespecial 106) 3 2000 0 496, xz, xz, xq .athrow 1]
-- TermReader.count(I)I
def xc_9 : List (Option xRow) := [xq (.iload_n 1) 1, xqs (.tableswitch 60 0 3 #[31, 39, 44, 52]) 31 61 [(0, 32), (1, 40), (2, 45), (3, 53)], xz, xz, xz, xz, xz, xz, xz, xz, xz, xz, xz, xz, xz, xz, xz, xz, xz, xz, xz, xz, xz, xz, xz, xz, xz, xz, xz, xz, xz, xz, xq (.aload_n 0) 1, xqc (.getfield 14) 3 0 0 364, xz, xz, xqc (.invokevirtual 81) 3 12 1 406, xz, xz, xq .ireturn 1, xq (.aload_n 0) 1, xqc (.getfield 71) 3 0 9 373, xz, xz, xq .ireturn 1, xq (.aload_n 0) 1, xqc (.getfield 36) 3 0 4 368, xz, xz, xqc (.invokevirtual 130) 3 57 1 562, xz, xz, xq .ireturn 1, xq (.aload_n 0) 1, xqc (.getfield 27) 3 0 3 367, xz, xz, xqc (.invokevirtual 191) 3 18 1 1092, xz, xz, xq .ireturn 1, xqc (.new 102) 3 1000 0 454, xz, xz, xq .dup 1, xqc (.ldc 194) 2 0 0 1096, xz, xqc (.invokespecial 106) 3 2000 0 496, xz, xz, xq .athrow 1]
-- TermReader.isTerm(I)Z
def xc_10 : List (Option xRow) := [xq (.iload_n 1) 1, xqa (.ifCond .lt 21) 3 22, xz, xz, xq (.iload_n 1) 1, xq (.aload_n 0) 1, xqc (.getfield 71) 3 0 9 373, xz, xz, xqa (.if_icmp .ge 13) 3 22, xz, xz, xq (.iload_n 1) 1, xqv (.bipush 40) 2 40, xz, xqa (.if_icmp .ge 7) 3 22, xz, xz, xqv (.iconst 1) 1 1, xqa (.goto 4) 3 23, xz, xz, xqv (.iconst 0) 1 0, xq .ireturn 1]
-- TermReader$CharRow.<init>(I)V
def xc_11 : List (Option xRow) := [xq (.aload_n 0) 1, xqc (.invokespecial 3) 3 1000 1 142, xz, xz, xq (.aload_n 0) 1, xq (.iload_n 1) 1, xqa (.ifCond .le 7) 3 13, xz, xz, xq (.iload_n 1) 1, xqa (.goto 4) 3 14, xz, xz, xqv (.iconst 0) 1 0, xqc (.newarray .char) 2 0 0 150, xz, xqc (.putfield 9) 3 1 0 143, xz, xz, xq (.aload_n 0) 1, xqv (.iconst 0) 1 0, xqc (.putfield 15) 3 1 1 144, xz, xz, xq .return_ 1]
-- TermReader$CharRow.length()I
def xc_12 : List (Option xRow) := [xq (.aload_n 0) 1, xqc (.getfield 15) 3 1 1 144, xz, xz, xq .ireturn 1]
-- TermReader$CharRow.at(I)I
def xc_13 : List (Option xRow) := [xq (.iload_n 1) 1, xqa (.ifCond .lt 29) 3 30, xz, xz, xq (.iload_n 1) 1, xq (.aload_n 0) 1, xqc (.getfield 15) 3 1 1 144, xz, xz, xqa (.if_icmp .ge 21) 3 30, xz, xz, xq (.iload_n 1) 1, xq (.aload_n 0) 1, xqc (.getfield 9) 3 1 0 143, xz, xz, xq .arraylength 1, xqa (.if_icmp .ge 12) 3 30, xz, xz, xq (.aload_n 0) 1, xqc (.getfield 9) 3 1 0 143, xz, xz, xq (.iload_n 1) 1, xq .caload 1, xqa (.goto 4) 3 31, xz, xz, xqv (.iconst (-1)) 1 (-1), xq .ireturn 1]
-- TermReader$CharRow.add(I)V
def xc_14 : List (Option xRow) := [xq (.aload_n 0) 1, xqc (.getfield 15) 3 1 1 144, xz, xz, xqa (.ifCond .lt 36) 3 40, xz, xz, xq (.aload_n 0) 1, xqc (.getfield 15) 3 1 1 144, xz, xz, xq (.aload_n 0) 1, xqc (.getfield 9) 3 1 0 143, xz, xz, xq .arraylength 1, xqa (.if_icmp .ge 24) 3 40, xz, xz, xq (.aload_n 0) 1, xqc (.getfield 9) 3 1 0 143, xz, xz, xq (.aload_n 0) 1, xqc (.getfield 15) 3 1 1 144, xz, xz, xq (.iload_n 1) 1, xq .i2c 1, xq .castore 1, xq (.aload_n 0) 1, xq .dup 1, xqc (.getfield 15) 3 1 1 144, xz, xz, xqv (.iconst 1) 1 1, xq .iadd 1, xqc (.putfield 15) 3 1 1 144, xz, xz, xq .return_ 1]
-- TermReader$CharRow.cut(I)V
def xc_15 : List (Option xRow) := [xq (.iload_n 1) 1, xqa (.ifCond .lt 16) 3 17, xz, xz, xq (.iload_n 1) 1, xq (.aload_n 0) 1, xqc (.getfield 15) 3 1 1 144, xz, xz, xqa (.if_icmp .ge 8) 3 17, xz, xz, xq (.aload_n 0) 1, xq (.iload_n 1) 1, xqc (.putfield 15) 3 1 1 144, xz, xz, xq .return_ 1]
-- TermReader$CharRow.dropFirst(I)V
def xc_16 : List (Option xRow) := [xqv (.iconst 0) 1 0, xq (.istore_n 2) 1, xq (.iload_n 1) 1, xqa (.ifCond .le 7) 3 10, xz, xz, xq (.iload_n 1) 1, xqa (.goto 4) 3 11, xz, xz, xqv (.iconst 0) 1 0, xq (.istore_n 3) 1, xq (.iload_n 3) 1, xq (.aload_n 0) 1, xqc (.getfield 15) 3 1 1 144, xz, xz, xqa (.if_icmp .ge 33) 3 50, xz, xz, xq (.iload_n 3) 1, xq (.aload_n 0) 1, xqc (.getfield 9) 3 1 0 143, xz, xz, xq .arraylength 1, xqa (.if_icmp .ge 24) 3 50, xz, xz, xq (.aload_n 0) 1, xqc (.getfield 9) 3 1 0 143, xz, xz, xq (.iload_n 2) 1, xq (.aload_n 0) 1, xqc (.getfield 9) 3 1 0 143, xz, xz, xq (.iload_n 3) 1, xq .caload 1, xq .castore 1, xqv (.iinc 2 1) 3 1, xz, xz, xqv (.iinc 3 1) 3 1, xz, xz, xqa (.goto (-35)) 3 12, xz, xz, xq (.aload_n 0) 1, xq (.iload_n 2) 1, xqc (.putfield 15) 3 1 1 144, xz, xz, xq .return_ 1]
-- TermReader$Operators.<init>()V
def xc_17 : List (Option xRow) := [xq (.aload_n 0) 1, xqc (.invokespecial 3) 3 1000 1 156, xz, xz, xq (.aload_n 0) 1, xqv (.bipush 25) 2 25, xz, xqc (.newarray .long) 2 0 0 245, xz, xqc (.putfield 11) 3 2 0 232, xz, xz, xq (.aload_n 0) 1, xqv (.bipush 25) 2 25, xz, xqc (.newarray .int) 2 0 0 246, xz, xqc (.putfield 15) 3 2 1 233, xz, xz, xq (.aload_n 0) 1, xqv (.bipush 25) 2 25, xz, xqc (.newarray .int) 2 0 0 246, xz, xqc (.putfield 19) 3 2 2 234, xz, xz, xq (.aload_n 0) 1, xqv (.iconst 0) 1 0, xqc (.putfield 22) 3 2 3 235, xz, xz, xq (.aload_n 0) 1, xqv (.sipush 1000) 3 1000, xz, xz, xqv (.iconst 1) 1 1, xqk (.ldc2_w 26) 3 0 0 157 44, xz, xz, xqc (.invokevirtual 28) 3 27 4 158, xz, xz, xq (.aload_n 0) 1, xqv (.sipush 1200) 3 1200, xz, xz, xqv (.iconst 0) 1 0, xqk (.ldc 32) 2 1 34 169 11578, xz, xqc (.invokestatic 34) 3 211 1 170, xz, xz, xqc (.invokevirtual 28) 3 27 4 158, xz, xz, xq (.aload_n 0) 1, xqv (.sipush 1200) 3 1200, xz, xz, xqv (.iconst 4) 1 4, xqk (.ldc 32) 2 1 34 169 11578, xz, xqc (.invokestatic 34) 3 211 1 170, xz, xz, xqc (.invokevirtual 28) 3 27 4 158, xz, xz, xq (.aload_n 0) 1, xqv (.sipush 1100) 3 1100, xz, xz, xqv (.iconst 1) 1 1, xqk (.ldc 40) 2 1 34 221 59, xz, xqc (.invokestatic 34) 3 211 1 170, xz, xz, xqc (.invokevirtual 28) 3 27 4 158, xz, xz, xq (.aload_n 0) 1, xqv (.sipush 1050) 3 1050, xz, xz, xqv (.iconst 1) 1 1, xqk (.ldc 42) 2 1 34 222 15917, xz, xqc (.invokestatic 34) 3 211 1 170, xz, xz, xqc (.invokevirtual 28) 3 27 4 158, xz, xz, xq (.aload_n 0) 1, xqv (.sipush 900) 3 900, xz, xz, xqv (.iconst 3) 1 3, xqk (.ldc 44) 2 1 34 223 11100, xz, xqc (.invokestatic 34) 3 211 1 170, xz, xz, xqc (.invokevirtual 28) 3 27 4 158, xz, xz, xq (.aload_n 0) 1, xqv (.sipush 700) 3 700, xz, xz, xqv (.iconst 0) 1 0, xqk (.ldc 46) 2 1 34 224 61, xz, xqc (.invokestatic 34) 3 211 1 170, xz, xz, xqc (.invokevirtual 28) 3 27 4 158, xz, xz, xq (.aload_n 0) 1, xqv (.sipush 700) 3 700, xz, xz, xqv (.iconst 0) 1 0, xqk (.ldc 48) 2 1 34 225 60, xz, xqc (.invokestatic 34) 3 211 1 170, xz, xz, xqc (.invokevirtual 28) 3 27 4 158, xz, xz, xq (.aload_n 0) 1, xqv (.sipush 700) 3 700, xz, xz, xqv (.iconst 0) 1 0, xqk (.ldc 50) 2 1 34 226 29545, xz, xqc (.invokestatic 34) 3 211 1 170, xz, xz, xqc (.invokevirtual 28) 3 27 4 158, xz, xz, xq (.aload_n 0) 1, xqv (.sipush 500) 3 500, xz, xz, xqv (.iconst 2) 1 2, xqk (.ldc 52) 2 1 34 227 43, xz, xqc (.invokestatic 34) 3 211 1 170, xz, xz, xqc (.invokevirtual 28) 3 27 4 158, xz, xz, xq (.aload_n 0) 1, xqv (.sipush 500) 3 500, xz, xz, xqv (.iconst 2) 1 2, xqk (.ldc2_w 54) 3 0 0 228 45, xz, xz, xqc (.invokevirtual 28) 3 27 4 158, xz, xz, xq (.aload_n 0) 1, xqv (.sipush 400) 3 400, xz, xz, xqv (.iconst 2) 1 2, xqk (.ldc 56) 2 1 34 229 42, xz, xqc (.invokestatic 34) 3 211 1 170, xz, xz, xqc (.invokevirtual 28) 3 27 4 158, xz, xz, xq (.aload_n 0) 1, xqv (.sipush 400) 3 400, xz, xz, xqv (.iconst 2) 1 2, xqk (.ldc 58) 2 1 34 230 47, xz, xqc (.invokestatic 34) 3 211 1 170, xz, xz, xqc (.invokevirtual 28) 3 27 4 158, xz, xz, xq (.aload_n 0) 1, xqv (.sipush 200) 3 200, xz, xz, xqv (.iconst 1) 1 1, xqk (.ldc 60) 2 1 34 231 94, xz, xqc (.invokestatic 34) 3 211 1 170, xz, xz, xqc (.invokevirtual 28) 3 27 4 158, xz, xz, xq (.aload_n 0) 1, xqv (.sipush 200) 3 200, xz, xz, xqv (.iconst 3) 1 3, xqk (.ldc2_w 54) 3 0 0 228 45, xz, xz, xqc (.invokevirtual 28) 3 27 4 158, xz, xz, xq .return_ 1]
-- TermReader$Operators.told()I
def xc_18 : List (Option xRow) := [xq (.aload_n 0) 1, xqc (.getfield 22) 3 2 3 235, xz, xz, xqv (.iconst 1) 1 1, xq .isub 1, xq .ireturn 1]
-- TermReader$Operators.isPrefixType(I)Z
def xc_19 : List (Option xRow) := [xq (.iload_n 0) 1, xqv (.iconst 3) 1 3, xqa (.if_icmp .eq 8) 3 10, xz, xz, xq (.iload_n 0) 1, xqv (.iconst 4) 1 4, xqa (.if_icmp .ne 7) 3 14, xz, xz, xqv (.iconst 1) 1 1, xqa (.goto 4) 3 15, xz, xz, xqv (.iconst 0) 1 0, xq .ireturn 1]
-- TermReader$Operators.isPostfixType(I)Z
def xc_20 : List (Option xRow) := [xq (.iload_n 0) 1, xqv (.iconst 5) 1 5, xqa (.if_icmp .eq 9) 3 11, xz, xz, xq (.iload_n 0) 1, xqv (.bipush 6) 2 6, xz, xqa (.if_icmp .ne 7) 3 15, xz, xz, xqv (.iconst 1) 1 1, xqa (.goto 4) 3 16, xz, xz, xqv (.iconst 0) 1 0, xq .ireturn 1]
-- TermReader$Operators.isSlot(I)Z
def xc_21 : List (Option xRow) := [xq (.iload_n 1) 1, xqa (.ifCond .lt 21) 3 22, xz, xz, xq (.iload_n 1) 1, xq (.aload_n 0) 1, xqc (.getfield 22) 3 2 3 235, xz, xz, xqa (.if_icmp .ge 13) 3 22, xz, xz, xq (.iload_n 1) 1, xqv (.bipush 25) 2 25, xz, xqa (.if_icmp .ge 7) 3 22, xz, xz, xqv (.iconst 1) 1 1, xqa (.goto 4) 3 23, xz, xz, xqv (.iconst 0) 1 0, xq .ireturn 1]
-- TermReader$Operators.find(ZJ)I
def xc_22 : List (Option xRow) := [xqv (.iconst 0) 1 0, xq (.istore 4) 2, xz, xq (.iload 4) 2, xz, xq (.aload_n 0) 1, xqc (.getfield 22) 3 2 3 235, xz, xz, xqa (.if_icmp .ge 45) 3 54, xz, xz, xq (.iload 4) 2, xz, xqv (.bipush 25) 2 25, xz, xqa (.if_icmp .ge 38) 3 54, xz, xz, xq (.aload_n 0) 1, xqc (.getfield 11) 3 2 0 232, xz, xz, xq (.iload 4) 2, xz, xq .laload 1, xq (.lload_n 2) 1, xq .lcmp 1, xqa (.ifCond .ne 20) 3 48, xz, xz, xq (.aload_n 0) 1, xqc (.getfield 19) 3 2 2 234, xz, xz, xq (.iload 4) 2, xz, xq .iaload 1, xqc (.invokestatic 62) 3 19 1 162, xz, xz, xq (.iload_n 1) 1, xqa (.if_icmp .ne 6) 3 48, xz, xz, xq (.iload 4) 2, xz, xq .ireturn 1, xqv (.iinc 4 1) 3 1, xz, xz, xqa (.goto (-48)) 3 3, xz, xz, xqv (.iconst (-1)) 1 (-1), xq .ireturn 1]
-- TermReader$Operators.prefix(J)I
def xc_23 : List (Option xRow) := [xq (.aload_n 0) 1, xqv (.iconst 1) 1 1, xq (.lload_n 1) 1, xqc (.invokevirtual 66) 3 22 3 165, xz, xz, xq .ireturn 1]
-- TermReader$Operators.behind(J)I
def xc_24 : List (Option xRow) := [xq (.aload_n 0) 1, xqv (.iconst 0) 1 0, xq (.lload_n 1) 1, xqc (.invokevirtual 66) 3 22 3 165, xz, xz, xq .ireturn 1]
-- TermReader$Operators.isOperator(J)Z
def xc_25 : List (Option xRow) := [xq (.aload_n 0) 1, xq (.lload_n 1) 1, xqc (.invokevirtual 70) 3 23 2 1007, xz, xz, xqv (.iconst (-1)) 1 (-1), xqa (.if_icmp .ne 12) 3 18, xz, xz, xq (.aload_n 0) 1, xq (.lload_n 1) 1, xqc (.invokevirtual 74) 3 24 2 1008, xz, xz, xqv (.iconst (-1)) 1 (-1), xqa (.if_icmp .eq 7) 3 22, xz, xz, xqv (.iconst 1) 1 1, xqa (.goto 4) 3 23, xz, xz, xqv (.iconst 0) 1 0, xq .ireturn 1]
-- TermReader$Operators.canTell(IJ)Z
def xc_26 : List (Option xRow) := [xq (.aload_n 0) 1, xq (.iload_n 1) 1, xqc (.invokestatic 62) 3 19 1 162, xz, xz, xq (.lload_n 2) 1, xqc (.invokevirtual 66) 3 22 3 165, xz, xz, xq (.istore 4) 2, xz, xq (.aload_n 0) 1, xq (.iload 4) 2, xz, xqc (.invokevirtual 77) 3 21 2 526, xz, xz, xqa (.ifCond .eq 28) 3 45, xz, xz, xq (.aload_n 0) 1, xqc (.getfield 19) 3 2 2 234, xz, xz, xq (.iload 4) 2, xz, xq .iaload 1, xqc (.invokestatic 80) 3 20 1 534, xz, xz, xq (.iload_n 1) 1, xqc (.invokestatic 80) 3 20 1 534, xz, xz, xqa (.if_icmp .ne 7) 3 41, xz, xz, xqv (.iconst 1) 1 1, xqa (.goto 21) 3 59, xz, xz, xqv (.iconst 0) 1 0, xqa (.goto 17) 3 59, xz, xz, xq (.aload_n 0) 1, xqc (.getfield 22) 3 2 3 235, xz, xz, xqv (.bipush 25) 2 25, xz, xqa (.if_icmp .ge 7) 3 58, xz, xz, xqv (.iconst 1) 1 1, xqa (.goto 4) 3 59, xz, xz, xqv (.iconst 0) 1 0, xq .ireturn 1]
-- TermReader$Operators.tell(IIJ)V
def xc_27 : List (Option xRow) := [xq (.aload_n 0) 1, xq (.iload_n 2) 1, xqc (.invokestatic 62) 3 19 1 162, xz, xz, xq (.lload_n 3) 1, xqc (.invokevirtual 66) 3 22 3 165, xz, xz, xq (.istore 5) 2, xz, xq (.iload 5) 2, xz, xqv (.iconst (-1)) 1 (-1), xqa (.if_icmp .ne 10) 3 24, xz, xz, xq (.aload_n 0) 1, xqc (.getfield 22) 3 2 3 235, xz, xz, xqa (.goto 5) 3 26, xz, xz, xq (.iload 5) 2, xz, xq (.istore 6) 2, xz, xq (.iload 6) 2, xz, xqa (.ifCond .lt 10) 3 40, xz, xz, xq (.iload 6) 2, xz, xqv (.bipush 25) 2 25, xz, xqa (.if_icmp .lt 4) 3 41, xz, xz, xq .return_ 1, xq (.aload_n 0) 1, xqc (.getfield 11) 3 2 0 232, xz, xz, xq (.iload 6) 2, xz, xq (.lload_n 3) 1, xq .lastore 1, xq (.aload_n 0) 1, xqc (.getfield 15) 3 2 1 233, xz, xz, xq (.iload 6) 2, xz, xq (.iload_n 1) 1, xq .iastore 1, xq (.aload_n 0) 1, xqc (.getfield 19) 3 2 2 234, xz, xz, xq (.iload 6) 2, xz, xq (.iload_n 2) 1, xq .iastore 1, xq (.iload 6) 2, xz, xq (.aload_n 0) 1, xqc (.getfield 22) 3 2 3 235, xz, xz, xqa (.if_icmp .ne 13) 3 84, xz, xz, xq (.aload_n 0) 1, xq .dup 1, xqc (.getfield 22) 3 2 3 235, xz, xz, xqv (.iconst 1) 1 1, xq .iadd 1, xqc (.putfield 22) 3 2 3 235, xz, xz, xq .return_ 1]
-- TermReader$Operators.takeBack(IJ)V
def xc_28 : List (Option xRow) := [xq (.aload_n 0) 1, xq (.iload_n 1) 1, xqc (.invokestatic 62) 3 19 1 162, xz, xz, xq (.lload_n 2) 1, xqc (.invokevirtual 66) 3 22 3 165, xz, xz, xq (.istore 4) 2, xz, xq (.aload_n 0) 1, xqc (.getfield 22) 3 2 3 235, xz, xz, xqv (.iconst 1) 1 1, xq .isub 1, xq (.istore 5) 2, xz, xq (.aload_n 0) 1, xq (.iload 4) 2, xz, xqc (.invokevirtual 77) 3 21 2 526, xz, xz, xqa (.ifCond .eq 12) 3 37, xz, xz, xq (.aload_n 0) 1, xq (.iload 5) 2, xz, xqc (.invokevirtual 77) 3 21 2 526, xz, xz, xqa (.ifCond .ne 4) 3 38, xz, xz, xq .return_ 1, xq (.aload_n 0) 1, xqc (.getfield 11) 3 2 0 232, xz, xz, xq (.iload 4) 2, xz, xq (.aload_n 0) 1, xqc (.getfield 11) 3 2 0 232, xz, xz, xq (.iload 5) 2, xz, xq .laload 1, xq .lastore 1, xq (.aload_n 0) 1, xqc (.getfield 15) 3 2 1 233, xz, xz, xq (.iload 4) 2, xz, xq (.aload_n 0) 1, xqc (.getfield 15) 3 2 1 233, xz, xz, xq (.iload 5) 2, xz, xq .iaload 1, xq .iastore 1, xq (.aload_n 0) 1, xqc (.getfield 19) 3 2 2 234, xz, xz, xq (.iload 4) 2, xz, xq (.aload_n 0) 1, xqc (.getfield 19) 3 2 2 234, xz, xz, xq (.iload 5) 2, xz, xq .iaload 1, xq .iastore 1, xq (.aload_n 0) 1, xq (.iload 5) 2, xz, xqc (.putfield 22) 3 2 3 235, xz, xz, xq .return_ 1]
-- TermReader$Operators.priority(I)I
def xc_29 : List (Option xRow) := [xq (.aload_n 0) 1, xq (.iload_n 1) 1, xqc (.invokevirtual 77) 3 21 2 526, xz, xz, xqa (.ifCond .eq 12) 3 17, xz, xz, xq (.aload_n 0) 1, xqc (.getfield 15) 3 2 1 233, xz, xz, xq (.iload_n 1) 1, xq .iaload 1, xqa (.goto 4) 3 18, xz, xz, xqv (.iconst 0) 1 0, xq .ireturn 1]
-- TermReader$Operators.type(I)I
def xc_30 : List (Option xRow) := [xq (.aload_n 0) 1, xq (.iload_n 1) 1, xqc (.invokevirtual 77) 3 21 2 526, xz, xz, xqa (.ifCond .eq 12) 3 17, xz, xz, xq (.aload_n 0) 1, xqc (.getfield 19) 3 2 2 234, xz, xz, xq (.iload_n 1) 1, xq .iaload 1, xqa (.goto 4) 3 18, xz, xz, xqv (.iconst (-1)) 1 (-1), xq .ireturn 1]
-- TermReader$Operators.isPrefix(I)Z
def xc_31 : List (Option xRow) := [xq (.aload_n 0) 1, xq (.iload_n 1) 1, xqc (.invokevirtual 83) 3 30 2 745, xz, xz, xqc (.invokestatic 62) 3 19 1 162, xz, xz, xq .ireturn 1]
-- TermReader$Operators.isPostfix(I)Z
def xc_32 : List (Option xRow) := [xq (.aload_n 0) 1, xq (.iload_n 1) 1, xqc (.invokevirtual 83) 3 30 2 745, xz, xz, xqc (.invokestatic 80) 3 20 1 534, xz, xz, xq .ireturn 1]
-- TermReader$Operators.isInfix(I)Z
def xc_33 : List (Option xRow) := [xq (.aload_n 0) 1, xq (.iload_n 1) 1, xqc (.invokevirtual 83) 3 30 2 745, xz, xz, xq (.istore_n 2) 1, xq (.iload_n 2) 1, xqa (.ifCond .eq 13) 3 20, xz, xz, xq (.iload_n 2) 1, xqv (.iconst 1) 1 1, xqa (.if_icmp .eq 8) 3 20, xz, xz, xq (.iload_n 2) 1, xqv (.iconst 2) 1 2, xqa (.if_icmp .ne 7) 3 24, xz, xz, xqv (.iconst 1) 1 1, xqa (.goto 4) 3 25, xz, xz, xqv (.iconst 0) 1 0, xq .ireturn 1]
-- TermReader$Operators.isOpenBehind(I)Z
def xc_34 : List (Option xRow) := [xq (.aload_n 0) 1, xq (.iload_n 1) 1, xqc (.invokevirtual 83) 3 30 2 745, xz, xz, xqv (.iconst 1) 1 1, xqa (.if_icmp .eq 12) 3 18, xz, xz, xq (.aload_n 0) 1, xq (.iload_n 1) 1, xqc (.invokevirtual 83) 3 30 2 745, xz, xz, xqv (.iconst 3) 1 3, xqa (.if_icmp .ne 7) 3 22, xz, xz, xqv (.iconst 1) 1 1, xqa (.goto 4) 3 23, xz, xz, xqv (.iconst 0) 1 0, xq .ireturn 1]
-- TermReader$Operators.leftMost(I)I
def xc_35 : List (Option xRow) := [xq (.aload_n 0) 1, xq (.iload_n 1) 1, xqc (.invokevirtual 83) 3 30 2 745, xz, xz, xqv (.iconst 2) 1 2, xqa (.if_icmp .eq 13) 3 19, xz, xz, xq (.aload_n 0) 1, xq (.iload_n 1) 1, xqc (.invokevirtual 83) 3 30 2 745, xz, xz, xqv (.bipush 6) 2 6, xz, xqa (.if_icmp .ne 11) 3 27, xz, xz, xq (.aload_n 0) 1, xq (.iload_n 1) 1, xqc (.invokevirtual 87) 3 29 2 749, xz, xz, xqa (.goto 10) 3 34, xz, xz, xq (.aload_n 0) 1, xq (.iload_n 1) 1, xqc (.invokevirtual 87) 3 29 2 749, xz, xz, xqv (.iconst 1) 1 1, xq .isub 1, xq .ireturn 1]
-- TermReader$Operators.rightMost(I)I
def xc_36 : List (Option xRow) := [xq (.aload_n 0) 1, xq (.iload_n 1) 1, xqc (.invokevirtual 90) 3 34 2 741, xz, xz, xqa (.ifCond .eq 11) 3 16, xz, xz, xq (.aload_n 0) 1, xq (.iload_n 1) 1, xqc (.invokevirtual 87) 3 29 2 749, xz, xz, xqa (.goto 10) 3 23, xz, xz, xq (.aload_n 0) 1, xq (.iload_n 1) 1, xqc (.invokevirtual 87) 3 29 2 749, xz, xz, xqv (.iconst 1) 1 1, xq .isub 1, xq .ireturn 1]
-- TermReader$Parser.<init>(LTermReader$Tokens;LTermReader$Operators;LTermReader$Parts;)V
def xc_37 : List (Option xRow) := [xq (.aload_n 0) 1, xqc (.invokespecial 3) 3 1000 1 328, xz, xz, xq (.aload_n 0) 1, xq (.aload_n 1) 1, xqc (.putfield 9) 3 3 0 329, xz, xz, xq (.aload_n 0) 1, xq (.aload_n 2) 1, xqc (.putfield 15) 3 3 1 330, xz, xz, xq (.aload_n 0) 1, xq (.aload_n 3) 1, xqc (.putfield 19) 3 3 2 331, xz, xz, xq (.aload_n 0) 1, xqv (.iconst 0) 1 0, xqc (.putfield 23) 3 3 3 332, xz, xz, xq (.aload_n 0) 1, xqv (.iconst 0) 1 0, xqc (.putfield 27) 3 3 4 333, xz, xz, xq .return_ 1]
-- TermReader$Parser.whole()I
def xc_38 : List (Option xRow) := [xq (.aload_n 0) 1, xqv (.iconst 0) 1 0, xqc (.putfield 23) 3 3 3 332, xz, xz, xq (.aload_n 0) 1, xqv (.sipush 1200) 3 1200, xz, xz, xqv (.iconst 0) 1 0, xqc (.invokevirtual 30) 3 40 3 674, xz, xz, xq (.istore_n 1) 1, xq (.aload_n 0) 1, xqc (.getfield 9) 3 3 0 329, xz, xz, xq (.aload_n 0) 1, xqc (.getfield 23) 3 3 3 332, xz, xz, xqc (.invokevirtual 34) 3 85 2 682, xz, xz, xqa (.ifCond .ne 7) 3 32, xz, xz, xq (.iload_n 1) 1, xqa (.goto 4) 3 33, xz, xz, xqv (.iconst (-1)) 1 (-1), xq .ireturn 1]
-- TermReader$Parser.end()I
def xc_39 : List (Option xRow) := [xq (.aload_n 0) 1, xqc (.getfield 9) 3 3 0 329, xz, xz, xq (.aload_n 0) 1, xqc (.getfield 23) 3 3 3 332, xz, xz, xqc (.invokevirtual 40) 3 86 2 887, xz, xz, xq .ireturn 1]
-- TermReader$Parser.term(II)I
def xc_40 : List (Option xRow) := [xq (.iload_n 2) 1, xqv (.bipush 10) 2 10, xz, xqa (.if_icmp .le 5) 3 8, xz, xz, xqv (.iconst (-1)) 1 (-1), xq .ireturn 1, xq (.aload_n 0) 1, xq (.iload_n 1) 1, xqc (.invokevirtual 43) 3 41 2 678, xz, xz, xqa (.ifCond .eq 15) 3 28, xz, xz, xq (.aload_n 0) 1, xq (.aload_n 0) 1, xq (.iload_n 2) 1, xqc (.invokevirtual 47) 3 43 2 733, xz, xz, xq (.iload_n 1) 1, xq (.iload_n 2) 1, xqc (.invokevirtual 50) 3 44 4 778, xz, xz, xq .ireturn 1, xq (.aload_n 0) 1, xq (.iload_n 2) 1, xqc (.invokevirtual 54) 3 48 2 811, xz, xz, xq (.istore_n 3) 1, xq (.aload_n 0) 1, xqv (.iconst 0) 1 0, xqc (.putfield 27) 3 3 4 333, xz, xz, xq (.aload_n 0) 1, xq (.iload_n 3) 1, xq (.iload_n 1) 1, xq (.iload_n 2) 1, xqc (.invokevirtual 50) 3 44 4 778, xz, xz, xq .ireturn 1]
-- TermReader$Parser.isPrefixed(I)Z
def xc_41 : List (Option xRow) := [xq (.aload_n 0) 1, xqc (.getfield 9) 3 3 0 329, xz, xz, xq (.aload_n 0) 1, xqc (.getfield 23) 3 3 3 332, xz, xz, xqc (.invokevirtual 34) 3 85 2 682, xz, xz, xqv (.iconst 1) 1 1, xqa (.if_icmp .ne 31) 3 43, xz, xz, xq (.aload_n 0) 1, xqc (.getfield 9) 3 3 0 329, xz, xz, xq (.aload_n 0) 1, xqc (.getfield 23) 3 3 3 332, xz, xz, xqc (.invokevirtual 57) 3 93 2 683, xz, xz, xqa (.ifCond .ne 17) 3 43, xz, xz, xq (.aload_n 0) 1, xqc (.getfield 9) 3 3 0 329, xz, xz, xq (.aload_n 0) 1, xqc (.getfield 23) 3 3 3 332, xz, xz, xqc (.invokevirtual 60) 3 94 2 699, xz, xz, xqa (.ifCond .eq 5) 3 45, xz, xz, xqv (.iconst 0) 1 0, xq .ireturn 1, xq (.aload_n 0) 1, xqc (.getfield 15) 3 3 1 330, xz, xz, xq (.aload_n 0) 1, xqc (.getfield 9) 3 3 0 329, xz, xz, xq (.aload_n 0) 1, xqc (.getfield 23) 3 3 3 332, xz, xz, xqc (.invokevirtual 63) 3 89 2 712, xz, xz, xqc (.invokevirtual 67) 3 23 2 713, xz, xz, xq (.istore_n 2) 1, xq (.iload_n 2) 1, xqv (.iconst (-1)) 1 (-1), xqa (.if_icmp .eq 48) 3 114, xz, xz, xq (.aload_n 0) 1, xqc (.getfield 15) 3 3 1 330, xz, xz, xq (.iload_n 2) 1, xqc (.invokevirtual 73) 3 29 2 717, xz, xz, xq (.iload_n 1) 1, xqa (.if_icmp .gt 36) 3 114, xz, xz, xq (.aload_n 0) 1, xqc (.getfield 9) 3 3 0 329, xz, xz, xq (.aload_n 0) 1, xqc (.getfield 23) 3 3 3 332, xz, xz, xqv (.iconst 1) 1 1, xq .iadd 1, xqc (.invokevirtual 75) 3 96 2 721, xz, xz, xqa (.ifCond .eq 20) 3 114, xz, xz, xq (.aload_n 0) 1, xq (.aload_n 0) 1, xqc (.getfield 23) 3 3 3 332, xz, xz, xqv (.iconst 1) 1 1, xq .iadd 1, xqc (.invokevirtual 78) 3 42 2 725, xz, xz, xqa (.ifCond .ne 7) 3 114, xz, xz, xqv (.iconst 1) 1 1, xqa (.goto 4) 3 115, xz, xz, xqv (.iconst 0) 1 0, xq .ireturn 1]
-- TermReader$Parser.isBareBehind(I)Z
def xc_42 : List (Option xRow) := [xq (.aload_n 0) 1, xqc (.getfield 9) 3 3 0 329, xz, xz, xq (.iload_n 1) 1, xqc (.invokevirtual 34) 3 85 2 682, xz, xz, xqv (.iconst 1) 1 1, xqa (.if_icmp .ne 25) 3 34, xz, xz, xq (.aload_n 0) 1, xqc (.getfield 9) 3 3 0 329, xz, xz, xq (.iload_n 1) 1, xqc (.invokevirtual 57) 3 93 2 683, xz, xz, xqa (.ifCond .ne 14) 3 34, xz, xz, xq (.aload_n 0) 1, xqc (.getfield 9) 3 3 0 329, xz, xz, xq (.iload_n 1) 1, xqc (.invokevirtual 60) 3 94 2 699, xz, xz, xqa (.ifCond .eq 5) 3 36, xz, xz, xqv (.iconst 0) 1 0, xq .ireturn 1, xq (.aload_n 0) 1, xqc (.getfield 9) 3 3 0 329, xz, xz, xq (.iload_n 1) 1, xqc (.invokevirtual 63) 3 89 2 712, xz, xz, xq (.lstore_n 2) 1, xq (.aload_n 0) 1, xqc (.getfield 15) 3 3 1 330, xz, xz, xq (.lload_n 2) 1, xqc (.invokevirtual 81) 3 24 2 729, xz, xz, xqv (.iconst (-1)) 1 (-1), xqa (.if_icmp .eq 19) 3 73, xz, xz, xq (.aload_n 0) 1, xqc (.getfield 15) 3 3 1 330, xz, xz, xq (.lload_n 2) 1, xqc (.invokevirtual 67) 3 23 2 713, xz, xz, xqv (.iconst (-1)) 1 (-1), xqa (.if_icmp .ne 7) 3 73, xz, xz, xqv (.iconst 1) 1 1, xqa (.goto 4) 3 74, xz, xz, xqv (.iconst 0) 1 0, xq .ireturn 1]
-- TermReader$Parser.prefixed(I)I
def xc_43 : List (Option xRow) := [xq (.aload_n 0) 1, xqc (.getfield 23) 3 3 3 332, xz, xz, xq (.istore_n 2) 1, xq (.aload_n 0) 1, xqc (.getfield 15) 3 3 1 330, xz, xz, xq (.aload_n 0) 1, xqc (.getfield 9) 3 3 0 329, xz, xz, xq (.iload_n 2) 1, xqc (.invokevirtual 63) 3 89 2 712, xz, xz, xqc (.invokevirtual 67) 3 23 2 713, xz, xz, xq (.istore_n 3) 1, xq (.aload_n 0) 1, xq .dup 1, xqc (.getfield 23) 3 3 3 332, xz, xz, xqv (.iconst 1) 1 1, xq .iadd 1, xqc (.putfield 23) 3 3 3 332, xz, xz, xq (.aload_n 0) 1, xq (.aload_n 0) 1, xqc (.getfield 15) 3 3 1 330, xz, xz, xq (.iload_n 3) 1, xqc (.invokevirtual 84) 3 36 2 737, xz, xz, xq (.iload_n 1) 1, xqv (.iconst 1) 1 1, xq .iadd 1, xqc (.invokevirtual 30) 3 40 3 674, xz, xz, xq (.istore 4) 2, xz, xq (.aload_n 0) 1, xq (.aload_n 0) 1, xqc (.getfield 15) 3 3 1 330, xz, xz, xq (.iload_n 3) 1, xqc (.invokevirtual 73) 3 29 2 717, xz, xz, xqc (.putfield 27) 3 3 4 333, xz, xz, xq (.aload_n 0) 1, xqc (.getfield 19) 3 3 2 331, xz, xz, xq (.aload_n 0) 1, xqc (.getfield 9) 3 3 0 329, xz, xz, xq (.iload_n 2) 1, xqc (.invokevirtual 87) 3 87 2 750, xz, xz, xq (.aload_n 0) 1, xqc (.getfield 9) 3 3 0 329, xz, xz, xq (.iload_n 2) 1, xqc (.invokevirtual 90) 3 88 2 751, xz, xz, xq (.iload 4) 2, xz, xqc (.invokevirtual 93) 3 78 4 755, xz, xz, xq .ireturn 1]
-- TermReader$Parser.rest(III)I
def xc_44 : List (Option xRow) := [xq (.iload_n 1) 1, xq (.istore 4) 2, xz, xqv (.iconst 0) 1 0, xq (.istore 5) 2, xz, xq (.iload 5) 2, xz, xqv (.bipush 120) 2 120, xz, xqa (.if_icmp .ge 158) 3 168, xz, xz, xq (.iload 4) 2, xz, xqv (.iconst (-1)) 1 (-1), xqa (.if_icmp .eq 152) 3 168, xz, xz, xq (.aload_n 0) 1, xqc (.getfield 15) 3 3 1 330, xz, xz, xq (.aload_n 0) 1, xqc (.getfield 9) 3 3 0 329, xz, xz, xq (.aload_n 0) 1, xqc (.getfield 23) 3 3 3 332, xz, xz, xqc (.invokevirtual 63) 3 89 2 712, xz, xz, xqc (.invokevirtual 81) 3 24 2 729, xz, xz, xq (.istore 6) 2, xz, xq (.iload 6) 2, xz, xqv (.iconst (-1)) 1 (-1), xqa (.if_icmp .eq 36) 3 78, xz, xz, xq (.aload_n 0) 1, xqc (.getfield 15) 3 3 1 330, xz, xz, xq (.iload 6) 2, xz, xqc (.invokevirtual 73) 3 29 2 717, xz, xz, xq (.iload_n 2) 1, xqa (.if_icmp .gt 23) 3 78, xz, xz, xq (.aload_n 0) 1, xqc (.getfield 27) 3 3 4 333, xz, xz, xq (.aload_n 0) 1, xqc (.getfield 15) 3 3 1 330, xz, xz, xq (.iload 6) 2, xz, xqc (.invokevirtual 98) 3 35 2 782, xz, xz, xqa (.if_icmp .gt 7) 3 78, xz, xz, xqv (.iconst 1) 1 1, xqa (.goto 4) 3 79, xz, xz, xqv (.iconst 0) 1 0, xq (.istore 7) 2, xz, xq (.iload 7) 2, xz, xqa (.ifCond .eq 31) 3 114, xz, xz, xq (.aload_n 0) 1, xqc (.getfield 15) 3 3 1 330, xz, xz, xq (.iload 6) 2, xz, xqc (.invokevirtual 101) 3 33 2 786, xz, xz, xqa (.ifCond .eq 22) 3 117, xz, xz, xq (.aload_n 0) 1, xqc (.getfield 9) 3 3 0 329, xz, xz, xq (.aload_n 0) 1, xqc (.getfield 23) 3 3 3 332, xz, xz, xqv (.iconst 1) 1 1, xq .iadd 1, xqc (.invokevirtual 75) 3 96 2 721, xz, xz, xqa (.ifCond .ne 6) 3 117, xz, xz, xq (.iload 4) 2, xz, xq .ireturn 1, xq (.aload_n 0) 1, xqc (.getfield 15) 3 3 1 330, xz, xz, xq (.iload 6) 2, xz, xqc (.invokevirtual 101) 3 33 2 786, xz, xz, xqa (.ifCond .eq 15) 3 141, xz, xz, xq (.aload_n 0) 1, xq (.iload 4) 2, xz, xq (.iload 6) 2, xz, xq (.iload_n 3) 1, xqc (.invokevirtual 104) 3 45 4 790, xz, xz, xqa (.goto 9) 3 147, xz, xz, xq (.aload_n 0) 1, xq (.iload 4) 2, xz, xqc (.invokevirtual 107) 3 47 2 807, xz, xz, xq (.istore 4) 2, xz, xq (.aload_n 0) 1, xq (.aload_n 0) 1, xqc (.getfield 15) 3 3 1 330, xz, xz, xq (.iload 6) 2, xz, xqc (.invokevirtual 73) 3 29 2 717, xz, xz, xqc (.putfield 27) 3 3 4 333, xz, xz, xqv (.iinc 5 1) 3 1, xz, xz, xqa (.goto (-159)) 3 6, xz, xz, xq (.iload 4) 2, xz, xq .ireturn 1]
-- TermReader$Parser.infixed(III)I
def xc_45 : List (Option xRow) := [xq (.aload_n 0) 1, xqc (.getfield 23) 3 3 3 332, xz, xz, xq (.istore 4) 2, xz, xq (.aload_n 0) 1, xq .dup 1, xqc (.getfield 23) 3 3 3 332, xz, xz, xqv (.iconst 1) 1 1, xq .iadd 1, xqc (.putfield 23) 3 3 3 332, xz, xz, xq (.aload_n 0) 1, xq (.aload_n 0) 1, xqc (.getfield 15) 3 3 1 330, xz, xz, xq (.iload_n 2) 1, xqc (.invokevirtual 84) 3 36 2 737, xz, xz, xq (.iload_n 3) 1, xqv (.iconst 1) 1 1, xq .iadd 1, xqc (.invokevirtual 30) 3 40 3 674, xz, xz, xq (.istore 5) 2, xz, xq (.aload_n 0) 1, xq (.iload 4) 2, xz, xq (.iload_n 1) 1, xq (.iload 5) 2, xz, xqc (.invokevirtual 110) 3 46 4 794, xz, xz, xq .ireturn 1]
-- TermReader$Parser.named(III)I
def xc_46 : List (Option xRow) := [xq (.aload_n 0) 1, xqc (.getfield 9) 3 3 0 329, xz, xz, xq (.iload_n 1) 1, xqc (.invokevirtual 34) 3 85 2 682, xz, xz, xqv (.iconst 1) 1 1, xqa (.if_icmp .ne 29) 3 38, xz, xz, xq (.aload_n 0) 1, xqc (.getfield 19) 3 3 2 331, xz, xz, xq (.aload_n 0) 1, xqc (.getfield 9) 3 3 0 329, xz, xz, xq (.iload_n 1) 1, xqc (.invokevirtual 87) 3 87 2 750, xz, xz, xq (.aload_n 0) 1, xqc (.getfield 9) 3 3 0 329, xz, xz, xq (.iload_n 1) 1, xqc (.invokevirtual 90) 3 88 2 751, xz, xz, xq (.iload_n 2) 1, xq (.iload_n 3) 1, xqc (.invokevirtual 113) 3 79 5 798, xz, xz, xq .ireturn 1, xq (.aload_n 0) 1, xqc (.getfield 19) 3 3 2 331, xz, xz, xqv (.iconst 5) 1 5, xqv (.iconst 1) 1 1, xq (.iload_n 2) 1, xq (.iload_n 3) 1, xqc (.invokevirtual 113) 3 79 5 798, xz, xz, xq .ireturn 1]
-- TermReader$Parser.postfixed(I)I
def xc_47 : List (Option xRow) := [xq (.aload_n 0) 1, xqc (.getfield 23) 3 3 3 332, xz, xz, xq (.istore_n 2) 1, xq (.aload_n 0) 1, xq .dup 1, xqc (.getfield 23) 3 3 3 332, xz, xz, xqv (.iconst 1) 1 1, xq .iadd 1, xqc (.putfield 23) 3 3 3 332, xz, xz, xq (.aload_n 0) 1, xqc (.getfield 19) 3 3 2 331, xz, xz, xq (.aload_n 0) 1, xqc (.getfield 9) 3 3 0 329, xz, xz, xq (.iload_n 2) 1, xqc (.invokevirtual 87) 3 87 2 750, xz, xz, xq (.aload_n 0) 1, xqc (.getfield 9) 3 3 0 329, xz, xz, xq (.iload_n 2) 1, xqc (.invokevirtual 90) 3 88 2 751, xz, xz, xq (.iload_n 1) 1, xqc (.invokevirtual 93) 3 78 4 755, xz, xz, xq .ireturn 1]
-- TermReader$Parser.unit(I)I
def xc_48 : List (Option xRow) := [xq (.aload_n 0) 1, xqc (.getfield 23) 3 3 3 332, xz, xz, xq (.istore_n 2) 1, xq (.aload_n 0) 1, xqc (.getfield 9) 3 3 0 329, xz, xz, xq (.iload_n 2) 1, xqc (.invokevirtual 34) 3 85 2 682, xz, xz, xqs (.tableswitch 115 1 5 #[103, 61, 35, 87, 109]) 35 128 [(1, 116), (2, 74), (3, 48), (4, 100), (5, 122)], xz, xz, xz, xz, xz, xz, xz, xz, xz, xz, xz, xz, xz, xz, xz, xz, xz, xz, xz, xz, xz, xz, xz, xz, xz, xz, xz, xz, xz, xz, xz, xz, xz, xz, xq (.aload_n 0) 1, xq .dup 1, xqc (.getfield 23) 3 3 3 332, xz, xz, xqv (.iconst 1) 1 1, xq .iadd 1, xqc (.putfield 23) 3 3 3 332, xz, xz, xq (.aload_n 0) 1, xqc (.getfield 19) 3 3 2 331, xz, xz, xq (.aload_n 0) 1, xqc (.getfield 9) 3 3 0 329, xz, xz, xq (.iload_n 2) 1, xqc (.invokevirtual 87) 3 87 2 750, xz, xz, xqc (.invokevirtual 117) 3 76 2 815, xz, xz, xq .ireturn 1, xq (.aload_n 0) 1, xq .dup 1, xqc (.getfield 23) 3 3 3 332, xz, xz, xqv (.iconst 1) 1 1, xq .iadd 1, xqc (.putfield 23) 3 3 3 332, xz, xz, xq (.aload_n 0) 1, xqc (.getfield 19) 3 3 2 331, xz, xz, xq (.aload_n 0) 1, xqc (.getfield 9) 3 3 0 329, xz, xz, xq (.iload_n 2) 1, xqc (.invokevirtual 87) 3 87 2 750, xz, xz, xqc (.invokevirtual 120) 3 75 2 819, xz, xz, xq .ireturn 1, xq (.aload_n 0) 1, xq .dup 1, xqc (.getfield 23) 3 3 3 332, xz, xz, xqv (.iconst 1) 1 1, xq .iadd 1, xqc (.putfield 23) 3 3 3 332, xz, xz, xq (.aload_n 0) 1, xq (.iload_n 2) 1, xqc (.invokevirtual 123) 3 49 2 823, xz, xz, xq .ireturn 1, xq (.aload_n 0) 1, xq (.iload_n 1) 1, xqc (.invokevirtual 126) 3 50 2 835, xz, xz, xq .ireturn 1, xq (.aload_n 0) 1, xq (.iload_n 1) 1, xqc (.invokevirtual 129) 3 53 2 849, xz, xz, xq .ireturn 1, xqv (.iconst (-1)) 1 (-1), xq .ireturn 1]
-- TermReader$Parser.string(I)I
def xc_49 : List (Option xRow) := [xq (.aload_n 0) 1, xqc (.getfield 19) 3 3 2 331, xz, xz, xqv (.iconst 1) 1 1, xqv (.iconst 2) 1 2, xqc (.invokevirtual 132) 3 77 3 827, xz, xz, xq (.istore_n 2) 1, xq (.aload_n 0) 1, xqc (.getfield 9) 3 3 0 329, xz, xz, xq (.iload_n 1) 1, xqc (.invokevirtual 90) 3 88 2 751, xz, xz, xqv (.iconst 1) 1 1, xq .isub 1, xq (.istore_n 3) 1, xq (.iload_n 3) 1, xqa (.ifCond .lt 40) 3 62, xz, xz, xq (.aload_n 0) 1, xqc (.getfield 19) 3 3 2 331, xz, xz, xq (.aload_n 0) 1, xqc (.getfield 9) 3 3 0 329, xz, xz, xq (.iload_n 1) 1, xq (.iload_n 3) 1, xqc (.invokevirtual 135) 3 90 3 831, xz, xz, xqc (.invokevirtual 117) 3 76 2 815, xz, xz, xq (.istore 4) 2, xz, xq (.aload_n 0) 1, xqc (.getfield 19) 3 3 2 331, xz, xz, xqv (.iconst 0) 1 0, xqv (.iconst 1) 1 1, xq (.iload 4) 2, xz, xq (.iload_n 2) 1, xqc (.invokevirtual 113) 3 79 5 798, xz, xz, xq (.istore_n 2) 1, xqv (.iinc 3 (-1)) 3 (-1), xz, xz, xqa (.goto (-38)) 3 21, xz, xz, xq (.iload_n 2) 1, xq .ireturn 1]
-- TermReader$Parser.name(I)I
def xc_50 : List (Option xRow) := [xq (.aload_n 0) 1, xqc (.getfield 23) 3 3 3 332, xz, xz, xq (.istore_n 2) 1, xq (.aload_n 0) 1, xqc (.getfield 9) 3 3 0 329, xz, xz, xq (.iload_n 2) 1, xqc (.invokevirtual 60) 3 94 2 699, xz, xz, xqa (.ifCond .eq 32) 3 45, xz, xz, xq (.aload_n 0) 1, xq .dup 1, xqc (.getfield 23) 3 3 3 332, xz, xz, xqv (.iconst 2) 1 2, xq .iadd 1, xqc (.putfield 23) 3 3 3 332, xz, xz, xq (.aload_n 0) 1, xqc (.getfield 19) 3 3 2 331, xz, xz, xq (.aload_n 0) 1, xqc (.getfield 9) 3 3 0 329, xz, xz, xq (.iload_n 2) 1, xqv (.iconst 1) 1 1, xq .iadd 1, xqc (.invokevirtual 87) 3 87 2 750, xz, xz, xq .ineg 1, xqc (.invokevirtual 117) 3 76 2 815, xz, xz, xq .ireturn 1, xq (.aload_n 0) 1, xqc (.getfield 9) 3 3 0 329, xz, xz, xq (.iload_n 2) 1, xqc (.invokevirtual 57) 3 93 2 683, xz, xz, xqa (.ifCond .eq 42) 3 95, xz, xz, xq (.aload_n 0) 1, xq .dup 1, xqc (.getfield 23) 3 3 3 332, xz, xz, xqv (.iconst 2) 1 2, xq .iadd 1, xqc (.putfield 23) 3 3 3 332, xz, xz, xq (.aload_n 0) 1, xqc (.getfield 19) 3 3 2 331, xz, xz, xq (.aload_n 0) 1, xqc (.getfield 9) 3 3 0 329, xz, xz, xq (.iload_n 2) 1, xqc (.invokevirtual 87) 3 87 2 750, xz, xz, xq (.aload_n 0) 1, xqc (.getfield 9) 3 3 0 329, xz, xz, xq (.iload_n 2) 1, xqc (.invokevirtual 90) 3 88 2 751, xz, xz, xq (.aload_n 0) 1, xq (.iload_n 1) 1, xqc (.invokevirtual 138) 3 51 2 839, xz, xz, xqc (.invokevirtual 93) 3 78 4 755, xz, xz, xq .ireturn 1, xq (.aload_n 0) 1, xq .dup 1, xqc (.getfield 23) 3 3 3 332, xz, xz, xqv (.iconst 1) 1 1, xq .iadd 1, xqc (.putfield 23) 3 3 3 332, xz, xz, xq (.aload_n 0) 1, xqc (.getfield 19) 3 3 2 331, xz, xz, xq (.aload_n 0) 1, xqc (.getfield 9) 3 3 0 329, xz, xz, xq (.iload_n 2) 1, xqc (.invokevirtual 87) 3 87 2 750, xz, xz, xq (.aload_n 0) 1, xqc (.getfield 9) 3 3 0 329, xz, xz, xq (.iload_n 2) 1, xqc (.invokevirtual 90) 3 88 2 751, xz, xz, xqc (.invokevirtual 132) 3 77 3 827, xz, xz, xq .ireturn 1]
-- TermReader$Parser.arguments(I)I
def xc_51 : List (Option xRow) := [xqv (.iconst (-1)) 1 (-1), xq (.istore_n 2) 1, xqv (.iconst (-1)) 1 (-1), xq (.istore_n 3) 1, xqv (.iconst 0) 1 0, xq (.istore 4) 2, xz, xq (.iload 4) 2, xz, xqv (.bipush 6) 2 6, xz, xqa (.if_icmp .ge 78) 3 89, xz, xz, xq (.aload_n 0) 1, xqv (.sipush 999) 3 999, xz, xz, xq (.iload_n 1) 1, xqv (.iconst 1) 1 1, xq .iadd 1, xqc (.invokevirtual 30) 3 40 3 674, xz, xz, xq (.istore 5) 2, xz, xq (.iload 5) 2, xz, xqv (.iconst (-1)) 1 (-1), xqa (.if_icmp .ne 5) 3 34, xz, xz, xqv (.iconst (-1)) 1 (-1), xq .ireturn 1, xq (.iload 4) 2, xz, xqa (.ifCond .ne 8) 3 44, xz, xz, xq (.iload 5) 2, xz, xqa (.goto 4) 3 45, xz, xz, xq (.iload_n 2) 1, xq (.istore_n 2) 1, xq (.aload_n 0) 1, xqc (.getfield 19) 3 3 2 331, xz, xz, xq (.iload_n 3) 1, xq (.iload 5) 2, xz, xqc (.invokevirtual 141) 3 67 3 843, xz, xz, xq (.iload 5) 2, xz, xq (.istore_n 3) 1, xq (.aload_n 0) 1, xqv (.bipush 44) 2 44, xz, xqc (.invokevirtual 145) 3 52 2 844, xz, xz, xqa (.ifCond .ne 18) 3 83, xz, xz, xq (.aload_n 0) 1, xqv (.bipush 41) 2 41, xz, xqc (.invokevirtual 145) 3 52 2 844, xz, xz, xqa (.ifCond .eq 7) 3 81, xz, xz, xq (.iload_n 2) 1, xqa (.goto 4) 3 82, xz, xz, xqv (.iconst (-1)) 1 (-1), xq .ireturn 1, xqv (.iinc 4 1) 3 1, xz, xz, xqa (.goto (-79)) 3 7, xz, xz, xqv (.iconst (-1)) 1 (-1), xq .ireturn 1]
-- TermReader$Parser.take(I)Z
def xc_52 : List (Option xRow) := [xq (.aload_n 0) 1, xqc (.getfield 9) 3 3 0 329, xz, xz, xq (.aload_n 0) 1, xqc (.getfield 23) 3 3 3 332, xz, xz, xq (.iload_n 1) 1, xqc (.invokevirtual 148) 3 91 3 848, xz, xz, xqa (.ifCond .ne 5) 3 17, xz, xz, xqv (.iconst 0) 1 0, xq .ireturn 1, xq (.aload_n 0) 1, xq .dup 1, xqc (.getfield 23) 3 3 3 332, xz, xz, xqv (.iconst 1) 1 1, xq .iadd 1, xqc (.putfield 23) 3 3 3 332, xz, xz, xqv (.iconst 1) 1 1, xq .ireturn 1]
-- TermReader$Parser.enclosed(I)I
def xc_53 : List (Option xRow) := [xq (.aload_n 0) 1, xqv (.bipush 40) 2 40, xz, xqc (.invokevirtual 145) 3 52 2 844, xz, xz, xqa (.ifCond .eq 29) 3 35, xz, xz, xq (.aload_n 0) 1, xqv (.sipush 1200) 3 1200, xz, xz, xq (.iload_n 1) 1, xqv (.iconst 1) 1 1, xq .iadd 1, xqc (.invokevirtual 30) 3 40 3 674, xz, xz, xq (.istore_n 2) 1, xq (.aload_n 0) 1, xqv (.bipush 41) 2 41, xz, xqc (.invokevirtual 145) 3 52 2 844, xz, xz, xqa (.ifCond .eq 7) 3 33, xz, xz, xq (.iload_n 2) 1, xqa (.goto 4) 3 34, xz, xz, xqv (.iconst (-1)) 1 (-1), xq .ireturn 1, xq (.aload_n 0) 1, xqv (.bipush 123) 2 123, xz, xqc (.invokevirtual 145) 3 52 2 844, xz, xz, xqa (.ifCond .eq 38) 3 79, xz, xz, xq (.aload_n 0) 1, xqv (.sipush 1200) 3 1200, xz, xz, xq (.iload_n 1) 1, xqv (.iconst 1) 1 1, xq .iadd 1, xqc (.invokevirtual 30) 3 40 3 674, xz, xz, xq (.istore_n 2) 1, xq (.aload_n 0) 1, xqv (.bipush 125) 2 125, xz, xqc (.invokevirtual 145) 3 52 2 844, xz, xz, xqa (.ifCond .eq 16) 3 77, xz, xz, xq (.aload_n 0) 1, xqc (.getfield 19) 3 3 2 331, xz, xz, xqv (.iconst 3) 1 3, xqv (.iconst 2) 1 2, xq (.iload_n 2) 1, xqc (.invokevirtual 93) 3 78 4 755, xz, xz, xqa (.goto 4) 3 78, xz, xz, xqv (.iconst (-1)) 1 (-1), xq .ireturn 1, xq (.aload_n 0) 1, xqv (.bipush 91) 2 91, xz, xqc (.invokevirtual 145) 3 52 2 844, xz, xz, xqa (.ifCond .eq 11) 3 96, xz, xz, xq (.aload_n 0) 1, xq (.iload_n 1) 1, xqc (.invokevirtual 152) 3 54 2 853, xz, xz, xqa (.goto 4) 3 97, xz, xz, xqv (.iconst (-1)) 1 (-1), xq .ireturn 1]
-- TermReader$Parser.list(I)I
def xc_54 : List (Option xRow) := [xqv (.iconst (-1)) 1 (-1), xq (.istore_n 2) 1, xqv (.iconst 0) 1 0, xq (.istore_n 3) 1, xq (.iload_n 3) 1, xqv (.bipush 120) 2 120, xz, xqa (.if_icmp .ge 54) 3 61, xz, xz, xq (.aload_n 0) 1, xqv (.sipush 999) 3 999, xz, xz, xq (.iload_n 1) 1, xqv (.iconst 1) 1 1, xq .iadd 1, xqc (.invokevirtual 30) 3 40 3 674, xz, xz, xq (.istore 4) 2, xz, xq (.iload 4) 2, xz, xqv (.iconst (-1)) 1 (-1), xqa (.if_icmp .ne 5) 3 30, xz, xz, xqv (.iconst (-1)) 1 (-1), xq .ireturn 1, xq (.aload_n 0) 1, xqc (.getfield 19) 3 3 2 331, xz, xz, xq (.iload 4) 2, xz, xq (.iload_n 2) 1, xqc (.invokevirtual 141) 3 67 3 843, xz, xz, xq (.iload 4) 2, xz, xq (.istore_n 2) 1, xq (.aload_n 0) 1, xqv (.bipush 44) 2 44, xz, xqc (.invokevirtual 145) 3 52 2 844, xz, xz, xqa (.ifCond .ne 6) 3 55, xz, xz, xqa (.goto 9) 3 61, xz, xz, xqv (.iinc 3 1) 3 1, xz, xz, xqa (.goto (-54)) 3 4, xz, xz, xq (.aload_n 0) 1, xqv (.bipush 124) 2 124, xz, xqc (.invokevirtual 145) 3 52 2 844, xz, xz, xqa (.ifCond .eq 16) 3 83, xz, xz, xq (.aload_n 0) 1, xqv (.sipush 999) 3 999, xz, xz, xq (.iload_n 1) 1, xqv (.iconst 1) 1 1, xq .iadd 1, xqc (.invokevirtual 30) 3 40 3 674, xz, xz, xqa (.goto 12) 3 92, xz, xz, xq (.aload_n 0) 1, xqc (.getfield 19) 3 3 2 331, xz, xz, xqv (.iconst 1) 1 1, xqv (.iconst 2) 1 2, xqc (.invokevirtual 132) 3 77 3 827, xz, xz, xq (.istore_n 3) 1, xq (.aload_n 0) 1, xqv (.bipush 93) 2 93, xz, xqc (.invokevirtual 145) 3 52 2 844, xz, xz, xqa (.ifCond .eq 12) 3 111, xz, xz, xq (.aload_n 0) 1, xq (.iload_n 2) 1, xq (.iload_n 3) 1, xqc (.invokevirtual 155) 3 55 3 857, xz, xz, xqa (.goto 4) 3 112, xz, xz, xqv (.iconst (-1)) 1 (-1), xq .ireturn 1]
-- TermReader$Parser.listed(II)I
def xc_55 : List (Option xRow) := [xq (.iload_n 2) 1, xq (.istore_n 3) 1, xq (.iload_n 1) 1, xq (.istore 4) 2, xz, xqv (.iconst 0) 1 0, xq (.istore 5) 2, xz, xq (.iload 5) 2, xz, xqv (.bipush 120) 2 120, xz, xqa (.if_icmp .ge 43) 3 55, xz, xz, xq (.iload 4) 2, xz, xqv (.iconst (-1)) 1 (-1), xqa (.if_icmp .eq 37) 3 55, xz, xz, xq (.aload_n 0) 1, xqc (.getfield 19) 3 3 2 331, xz, xz, xq (.iload 4) 2, xz, xqc (.invokevirtual 158) 3 64 2 861, xz, xz, xq (.istore 6) 2, xz, xq (.aload_n 0) 1, xqc (.getfield 19) 3 3 2 331, xz, xz, xqv (.iconst 0) 1 0, xqv (.iconst 1) 1 1, xq (.iload 4) 2, xz, xq (.iload_n 3) 1, xqc (.invokevirtual 113) 3 79 5 798, xz, xz, xq (.istore_n 3) 1, xq (.iload 6) 2, xz, xq (.istore 4) 2, xz, xqv (.iinc 5 1) 3 1, xz, xz, xqa (.goto (-44)) 3 8, xz, xz, xq (.iload_n 3) 1, xq .ireturn 1]
-- TermReader$Parts.<init>(LTermReader$CharRow;)V
def xc_56 : List (Option xRow) := [xq (.aload_n 0) 1, xqc (.invokespecial 3) 3 1000 1 253, xz, xz, xq (.aload_n 0) 1, xq (.aload_n 1) 1, xqc (.putfield 9) 3 4 0 258, xz, xz, xq (.aload_n 1) 1, xqv (.bipush 46) 2 46, xz, xqc (.invokevirtual 15) 3 14 2 254, xz, xz, xq (.aload_n 1) 1, xqv (.bipush 91) 2 91, xz, xqc (.invokevirtual 15) 3 14 2 254, xz, xz, xq (.aload_n 1) 1, xqv (.bipush 93) 2 93, xz, xqc (.invokevirtual 15) 3 14 2 254, xz, xz, xq (.aload_n 1) 1, xqv (.bipush 123) 2 123, xz, xqc (.invokevirtual 15) 3 14 2 254, xz, xz, xq (.aload_n 1) 1, xqv (.bipush 125) 2 125, xz, xqc (.invokevirtual 15) 3 14 2 254, xz, xz, xq (.aload_n 1) 1, xqv (.bipush 44) 2 44, xz, xqc (.invokevirtual 15) 3 14 2 254, xz, xz, xq (.aload_n 0) 1, xqv (.sipush 840) 3 840, xz, xz, xqc (.newarray .int) 2 0 0 246, xz, xqc (.putfield 21) 3 4 1 259, xz, xz, xq (.aload_n 0) 1, xqv (.sipush 840) 3 840, xz, xz, xqc (.newarray .int) 2 0 0 246, xz, xqc (.putfield 25) 3 4 2 260, xz, xz, xq (.aload_n 0) 1, xqv (.sipush 840) 3 840, xz, xz, xqc (.newarray .int) 2 0 0 246, xz, xqc (.putfield 28) 3 4 3 261, xz, xz, xq (.aload_n 0) 1, xqv (.sipush 840) 3 840, xz, xz, xqc (.newarray .int) 2 0 0 246, xz, xqc (.putfield 31) 3 4 4 262, xz, xz, xq (.aload_n 0) 1, xqv (.sipush 840) 3 840, xz, xz, xqc (.newarray .int) 2 0 0 246, xz, xqc (.putfield 34) 3 4 5 263, xz, xz, xq (.aload_n 0) 1, xqv (.sipush 840) 3 840, xz, xz, xqc (.newarray .int) 2 0 0 246, xz, xqc (.putfield 37) 3 4 6 264, xz, xz, xq (.aload_n 0) 1, xqv (.iconst 0) 1 0, xqc (.putfield 40) 3 4 7 265, xz, xz, xq .return_ 1]
-- TermReader$Parts.used()I
def xc_57 : List (Option xRow) := [xq (.aload_n 0) 1, xqc (.getfield 40) 3 4 7 265, xz, xz, xq .ireturn 1]
-- TermReader$Parts.cut(I)V
def xc_58 : List (Option xRow) := [xq (.iload_n 1) 1, xqa (.ifCond .lt 16) 3 17, xz, xz, xq (.iload_n 1) 1, xq (.aload_n 0) 1, xqc (.getfield 40) 3 4 7 265, xz, xz, xqa (.if_icmp .ge 8) 3 17, xz, xz, xq (.aload_n 0) 1, xq (.iload_n 1) 1, xqc (.putfield 40) 3 4 7 265, xz, xz, xq .return_ 1]
-- TermReader$Parts.isPart(I)Z
def xc_59 : List (Option xRow) := [xq (.iload_n 1) 1, xqa (.ifCond .lt 22) 3 23, xz, xz, xq (.iload_n 1) 1, xq (.aload_n 0) 1, xqc (.getfield 40) 3 4 7 265, xz, xz, xqa (.if_icmp .ge 14) 3 23, xz, xz, xq (.iload_n 1) 1, xqv (.sipush 840) 3 840, xz, xz, xqa (.if_icmp .ge 7) 3 23, xz, xz, xqv (.iconst 1) 1 1, xqa (.goto 4) 3 24, xz, xz, xqv (.iconst 0) 1 0, xq .ireturn 1]
-- TermReader$Parts.kind(I)I
def xc_60 : List (Option xRow) := [xq (.aload_n 0) 1, xq (.iload_n 1) 1, xqc (.invokevirtual 44) 3 59 2 763, xz, xz, xqa (.ifCond .eq 12) 3 17, xz, xz, xq (.aload_n 0) 1, xqc (.getfield 21) 3 4 1 259, xz, xz, xq (.iload_n 1) 1, xq .iaload 1, xqa (.goto 4) 3 18, xz, xz, xqv (.iconst (-1)) 1 (-1), xq .ireturn 1]
-- TermReader$Parts.value(I)I
def xc_61 : List (Option xRow) := [xq (.aload_n 0) 1, xq (.iload_n 1) 1, xqc (.invokevirtual 44) 3 59 2 763, xz, xz, xqa (.ifCond .eq 12) 3 17, xz, xz, xq (.aload_n 0) 1, xqc (.getfield 25) 3 4 2 260, xz, xz, xq (.iload_n 1) 1, xq .iaload 1, xqa (.goto 4) 3 18, xz, xz, xqv (.iconst 0) 1 0, xq .ireturn 1]
-- TermReader$Parts.nameSize(I)I
def xc_62 : List (Option xRow) := [xq (.aload_n 0) 1, xq (.iload_n 1) 1, xqc (.invokevirtual 44) 3 59 2 763, xz, xz, xqa (.ifCond .eq 12) 3 17, xz, xz, xq (.aload_n 0) 1, xqc (.getfield 28) 3 4 3 261, xz, xz, xq (.iload_n 1) 1, xq .iaload 1, xqa (.goto 4) 3 18, xz, xz, xqv (.iconst 0) 1 0, xq .ireturn 1]
-- TermReader$Parts.first(I)I
def xc_63 : List (Option xRow) := [xq (.aload_n 0) 1, xq (.iload_n 1) 1, xqc (.invokevirtual 44) 3 59 2 763, xz, xz, xqa (.ifCond .eq 12) 3 17, xz, xz, xq (.aload_n 0) 1, xqc (.getfield 31) 3 4 4 262, xz, xz, xq (.iload_n 1) 1, xq .iaload 1, xqa (.goto 4) 3 18, xz, xz, xqv (.iconst (-1)) 1 (-1), xq .ireturn 1]
-- TermReader$Parts.next(I)I
def xc_64 : List (Option xRow) := [xq (.aload_n 0) 1, xq (.iload_n 1) 1, xqc (.invokevirtual 44) 3 59 2 763, xz, xz, xqa (.ifCond .eq 12) 3 17, xz, xz, xq (.aload_n 0) 1, xqc (.getfield 34) 3 4 5 263, xz, xz, xq (.iload_n 1) 1, xq .iaload 1, xqa (.goto 4) 3 18, xz, xz, xqv (.iconst (-1)) 1 (-1), xq .ireturn 1]
-- TermReader$Parts.second(I)I
def xc_65 : List (Option xRow) := [xq (.aload_n 0) 1, xq (.aload_n 0) 1, xq (.iload_n 1) 1, xqc (.invokevirtual 48) 3 63 2 965, xz, xz, xqc (.invokevirtual 52) 3 64 2 770, xz, xz, xq .ireturn 1]
-- TermReader$Parts.depth(I)I
def xc_66 : List (Option xRow) := [xq (.aload_n 0) 1, xq (.iload_n 1) 1, xqc (.invokevirtual 44) 3 59 2 763, xz, xz, xqa (.ifCond .eq 12) 3 17, xz, xz, xq (.aload_n 0) 1, xqc (.getfield 37) 3 4 6 264, xz, xz, xq (.iload_n 1) 1, xq .iaload 1, xqa (.goto 4) 3 18, xz, xz, xqv (.iconst 0) 1 0, xq .ireturn 1]
-- TermReader$Parts.link(II)V
def xc_67 : List (Option xRow) := [xq (.aload_n 0) 1, xq (.iload_n 1) 1, xqc (.invokevirtual 44) 3 59 2 763, xz, xz, xqa (.ifCond .eq 10) 3 15, xz, xz, xq (.aload_n 0) 1, xqc (.getfield 34) 3 4 5 263, xz, xz, xq (.iload_n 1) 1, xq (.iload_n 2) 1, xq .iastore 1, xq .return_ 1]
-- TermReader$Parts.isNamed(I)Z
def xc_68 : List (Option xRow) := [xq (.aload_n 0) 1, xq (.iload_n 1) 1, xqc (.invokevirtual 55) 3 60 2 973, xz, xz, xq (.istore_n 2) 1, xq (.iload_n 2) 1, xqv (.iconst 2) 1 2, xqa (.if_icmp .eq 8) 3 16, xz, xz, xq (.iload_n 2) 1, xqv (.iconst 3) 1 3, xqa (.if_icmp .ne 7) 3 20, xz, xz, xqv (.iconst 1) 1 1, xqa (.goto 4) 3 21, xz, xz, xqv (.iconst 0) 1 0, xq .ireturn 1]
-- TermReader$Parts.key(I)J
def xc_69 : List (Option xRow) := [xq (.aload_n 0) 1, xq (.iload_n 1) 1, xqc (.invokevirtual 55) 3 60 2 973, xz, xz, xq (.istore_n 2) 1, xq (.iload_n 2) 1, xqv (.iconst 2) 1 2, xqa (.if_icmp .eq 8) 3 16, xz, xz, xq (.iload_n 2) 1, xqv (.iconst 3) 1 3, xqa (.if_icmp .ne 23) 3 36, xz, xz, xq (.aload_n 0) 1, xqc (.getfield 9) 3 4 0 258, xz, xz, xq (.aload_n 0) 1, xq (.iload_n 1) 1, xqc (.invokevirtual 58) 3 61 2 974, xz, xz, xq (.aload_n 0) 1, xq (.iload_n 1) 1, xqc (.invokevirtual 61) 3 62 2 975, xz, xz, xqc (.invokestatic 64) 3 212 3 976, xz, xz, xqa (.goto 4) 3 37, xz, xz, xq (.lconst 0) 1, xq .lreturn 1]
-- TermReader$Parts.arity(I)I
def xc_70 : List (Option xRow) := [xqv (.iconst 0) 1 0, xq (.istore_n 2) 1, xq (.aload_n 0) 1, xq (.iload_n 1) 1, xqc (.invokevirtual 48) 3 63 2 965, xz, xz, xq (.istore_n 3) 1, xqv (.iconst 0) 1 0, xq (.istore 4) 2, xz, xq (.iload 4) 2, xz, xqv (.bipush 6) 2 6, xz, xqa (.if_icmp .ge 23) 3 38, xz, xz, xq (.iload_n 3) 1, xqv (.iconst (-1)) 1 (-1), xqa (.if_icmp .eq 18) 3 38, xz, xz, xqv (.iinc 2 1) 3 1, xz, xz, xq (.aload_n 0) 1, xq (.iload_n 3) 1, xqc (.invokevirtual 52) 3 64 2 770, xz, xz, xq (.istore_n 3) 1, xqv (.iinc 4 1) 3 1, xz, xz, xqa (.goto (-24)) 3 11, xz, xz, xq (.iload_n 2) 1, xq .ireturn 1]
-- TermReader$Parts.isNil(I)Z
def xc_71 : List (Option xRow) := [xq (.aload_n 0) 1, xq (.iload_n 1) 1, xqc (.invokevirtual 55) 3 60 2 973, xz, xz, xqv (.iconst 2) 1 2, xqa (.if_icmp .ne 19) 3 25, xz, xz, xq (.aload_n 0) 1, xq (.iload_n 1) 1, xqc (.invokevirtual 70) 3 69 2 1028, xz, xz, xqk (.ldc2_w 74) 3 0 0 1039 23899, xz, xz, xq .lcmp 1, xqa (.ifCond .ne 7) 3 25, xz, xz, xqv (.iconst 1) 1 1, xqa (.goto 4) 3 26, xz, xz, xqv (.iconst 0) 1 0, xq .ireturn 1]
-- TermReader$Parts.isList(I)Z
def xc_72 : List (Option xRow) := [xq (.aload_n 0) 1, xq (.iload_n 1) 1, xqc (.invokevirtual 55) 3 60 2 973, xz, xz, xqv (.iconst 3) 1 3, xqa (.if_icmp .ne 28) 3 34, xz, xz, xq (.aload_n 0) 1, xq (.iload_n 1) 1, xqc (.invokevirtual 70) 3 69 2 1028, xz, xz, xqk (.ldc2_w 76) 3 0 0 1029 46, xz, xz, xq .lcmp 1, xqa (.ifCond .ne 16) 3 34, xz, xz, xq (.aload_n 0) 1, xq (.iload_n 1) 1, xqc (.invokevirtual 78) 3 70 2 1030, xz, xz, xqv (.iconst 2) 1 2, xqa (.if_icmp .ne 7) 3 34, xz, xz, xqv (.iconst 1) 1 1, xqa (.goto 4) 3 35, xz, xz, xqv (.iconst 0) 1 0, xq .ireturn 1]
-- TermReader$Parts.isBraces(I)Z
def xc_73 : List (Option xRow) := [xq (.aload_n 0) 1, xq (.iload_n 1) 1, xqc (.invokevirtual 55) 3 60 2 973, xz, xz, xqv (.iconst 3) 1 3, xqa (.if_icmp .ne 28) 3 34, xz, xz, xq (.aload_n 0) 1, xq (.iload_n 1) 1, xqc (.invokevirtual 70) 3 69 2 1028, xz, xz, xqk (.ldc2_w 81) 3 0 0 1044 32123, xz, xz, xq .lcmp 1, xqa (.ifCond .ne 16) 3 34, xz, xz, xq (.aload_n 0) 1, xq (.iload_n 1) 1, xqc (.invokevirtual 78) 3 70 2 1030, xz, xz, xqv (.iconst 1) 1 1, xqa (.if_icmp .ne 7) 3 34, xz, xz, xqv (.iconst 1) 1 1, xqa (.goto 4) 3 35, xz, xz, xqv (.iconst 0) 1 0, xq .ireturn 1]
-- TermReader$Parts.add(IIIII)I
def xc_74 : List (Option xRow) := [xq (.aload_n 0) 1, xqc (.getfield 40) 3 4 7 265, xz, xz, xqa (.ifCond .lt 13) 3 17, xz, xz, xq (.aload_n 0) 1, xqc (.getfield 40) 3 4 7 265, xz, xz, xqv (.sipush 840) 3 840, xz, xz, xqa (.if_icmp .lt 5) 3 19, xz, xz, xqv (.iconst (-1)) 1 (-1), xq .ireturn 1, xq (.aload_n 0) 1, xqc (.getfield 21) 3 4 1 259, xz, xz, xq (.aload_n 0) 1, xqc (.getfield 40) 3 4 7 265, xz, xz, xq (.iload_n 1) 1, xq .iastore 1, xq (.aload_n 0) 1, xqc (.getfield 25) 3 4 2 260, xz, xz, xq (.aload_n 0) 1, xqc (.getfield 40) 3 4 7 265, xz, xz, xq (.iload_n 2) 1, xq .iastore 1, xq (.aload_n 0) 1, xqc (.getfield 28) 3 4 3 261, xz, xz, xq (.aload_n 0) 1, xqc (.getfield 40) 3 4 7 265, xz, xz, xq (.iload_n 3) 1, xq .iastore 1, xq (.aload_n 0) 1, xqc (.getfield 31) 3 4 4 262, xz, xz, xq (.aload_n 0) 1, xqc (.getfield 40) 3 4 7 265, xz, xz, xq (.iload 4) 2, xz, xq .iastore 1, xq (.aload_n 0) 1, xqc (.getfield 34) 3 4 5 263, xz, xz, xq (.aload_n 0) 1, xqc (.getfield 40) 3 4 7 265, xz, xz, xqv (.iconst (-1)) 1 (-1), xq .iastore 1, xq (.aload_n 0) 1, xqc (.getfield 37) 3 4 6 264, xz, xz, xq (.aload_n 0) 1, xqc (.getfield 40) 3 4 7 265, xz, xz, xq (.iload 5) 2, xz, xq .iastore 1, xq (.aload_n 0) 1, xq .dup 1, xqc (.getfield 40) 3 4 7 265, xz, xz, xqv (.iconst 1) 1 1, xq .iadd 1, xqc (.putfield 40) 3 4 7 265, xz, xz, xq (.aload_n 0) 1, xqc (.getfield 40) 3 4 7 265, xz, xz, xqv (.iconst 1) 1 1, xq .isub 1, xq .ireturn 1]
-- TermReader$Parts.addVariable(I)I
def xc_75 : List (Option xRow) := [xq (.aload_n 0) 1, xqv (.iconst 0) 1 0, xq (.iload_n 1) 1, xqv (.iconst 0) 1 0, xqv (.iconst (-1)) 1 (-1), xqv (.iconst 1) 1 1, xqc (.invokevirtual 83) 3 74 6 774, xz, xz, xq .ireturn 1]
-- TermReader$Parts.addInteger(I)I
def xc_76 : List (Option xRow) := [xq (.aload_n 0) 1, xqv (.iconst 1) 1 1, xq (.iload_n 1) 1, xqv (.iconst 0) 1 0, xqv (.iconst (-1)) 1 (-1), xqv (.iconst 1) 1 1, xqc (.invokevirtual 83) 3 74 6 774, xz, xz, xq .ireturn 1]
-- TermReader$Parts.addAtom(II)I
def xc_77 : List (Option xRow) := [xq (.aload_n 0) 1, xqv (.iconst 2) 1 2, xq (.iload_n 1) 1, xq (.iload_n 2) 1, xqv (.iconst (-1)) 1 (-1), xqv (.iconst 1) 1 1, xqc (.invokevirtual 83) 3 74 6 774, xz, xz, xq .ireturn 1]
-- TermReader$Parts.addCompound(III)I
def xc_78 : List (Option xRow) := [xqv (.iconst 0) 1 0, xq (.istore 4) 2, xz, xq (.iload_n 3) 1, xq (.istore 5) 2, xz, xqv (.iconst 0) 1 0, xq (.istore 6) 2, xz, xq (.iload 6) 2, xz, xqv (.bipush 6) 2 6, xz, xqa (.if_icmp .ge 36) 3 49, xz, xz, xq (.iload 5) 2, xz, xqv (.iconst (-1)) 1 (-1), xqa (.if_icmp .eq 30) 3 49, xz, xz, xq (.iload 4) 2, xz, xq (.aload_n 0) 1, xq (.iload 5) 2, xz, xqc (.invokevirtual 86) 3 66 2 759, xz, xz, xqc (.invokestatic 89) 3 1001 2 767, xz, xz, xq (.istore 4) 2, xz, xq (.aload_n 0) 1, xq (.iload 5) 2, xz, xqc (.invokevirtual 52) 3 64 2 770, xz, xz, xq (.istore 5) 2, xz, xqv (.iinc 6 1) 3 1, xz, xz, xqa (.goto (-37)) 3 9, xz, xz, xq (.iload 4) 2, xz, xqa (.ifCond .le 14) 3 65, xz, xz, xq (.iload 4) 2, xz, xqv (.bipush 14) 2 14, xz, xqa (.if_icmp .ge 7) 3 65, xz, xz, xqv (.iconst 1) 1 1, xqa (.goto 4) 3 66, xz, xz, xqv (.iconst 0) 1 0, xq (.istore 6) 2, xz, xq (.iload 6) 2, xz, xqa (.ifCond .eq 18) 3 88, xz, xz, xq (.aload_n 0) 1, xqv (.iconst 3) 1 3, xq (.iload_n 1) 1, xq (.iload_n 2) 1, xq (.iload_n 3) 1, xq (.iload 4) 2, xz, xqv (.iconst 1) 1 1, xq .iadd 1, xqc (.invokevirtual 83) 3 74 6 774, xz, xz, xqa (.goto 4) 3 89, xz, xz, xqv (.iconst (-1)) 1 (-1), xq .ireturn 1]
-- TermReader$Parts.addPair(IIII)I
def xc_79 : List (Option xRow) := [xq (.iload_n 3) 1, xqv (.iconst (-1)) 1 (-1), xqa (.if_icmp .eq 9) 3 11, xz, xz, xq (.iload 4) 2, xz, xqv (.iconst (-1)) 1 (-1), xqa (.if_icmp .ne 5) 3 13, xz, xz, xqv (.iconst (-1)) 1 (-1), xq .ireturn 1, xq (.aload_n 0) 1, xq (.iload_n 3) 1, xq (.iload 4) 2, xz, xqc (.invokevirtual 95) 3 67 3 802, xz, xz, xq (.aload_n 0) 1, xq (.iload 4) 2, xz, xqv (.iconst (-1)) 1 (-1), xqc (.invokevirtual 95) 3 67 3 802, xz, xz, xq (.aload_n 0) 1, xq (.iload_n 1) 1, xq (.iload_n 2) 1, xq (.iload_n 3) 1, xqc (.invokevirtual 99) 3 78 4 806, xz, xz, xq .ireturn 1]
-- TermReader$Parts.same(III)Z
def xc_80 : List (Option xRow) := [xq (.iload_n 3) 1, xqv (.bipush 14) 2 14, xz, xqa (.if_icmp .gt 16) 3 19, xz, xz, xq (.aload_n 0) 1, xq (.iload_n 1) 1, xqc (.invokevirtual 55) 3 60 2 973, xz, xz, xq (.aload_n 0) 1, xq (.iload_n 2) 1, xqc (.invokevirtual 55) 3 60 2 973, xz, xz, xqa (.if_icmp .eq 5) 3 21, xz, xz, xqv (.iconst 0) 1 0, xq .ireturn 1, xq (.aload_n 0) 1, xq (.iload_n 1) 1, xqc (.invokevirtual 103) 3 68 2 1061, xz, xz, xqa (.ifCond .ne 22) 3 48, xz, xz, xq (.aload_n 0) 1, xq (.iload_n 1) 1, xqc (.invokevirtual 58) 3 61 2 974, xz, xz, xq (.aload_n 0) 1, xq (.iload_n 2) 1, xqc (.invokevirtual 58) 3 61 2 974, xz, xz, xqa (.if_icmp .ne 7) 3 46, xz, xz, xqv (.iconst 1) 1 1, xqa (.goto 4) 3 47, xz, xz, xqv (.iconst 0) 1 0, xq .ireturn 1, xq (.aload_n 0) 1, xq (.iload_n 1) 1, xq (.iload_n 2) 1, xqc (.invokevirtual 106) 3 81 3 1065, xz, xz, xqa (.ifCond .ne 5) 3 59, xz, xz, xqv (.iconst 0) 1 0, xq .ireturn 1, xq (.aload_n 0) 1, xq (.iload_n 1) 1, xqc (.invokevirtual 48) 3 63 2 965, xz, xz, xq (.istore 4) 2, xz, xq (.aload_n 0) 1, xq (.iload_n 2) 1, xqc (.invokevirtual 48) 3 63 2 965, xz, xz, xq (.istore 5) 2, xz, xqv (.iconst 0) 1 0, xq (.istore 6) 2, xz, xq (.iload 6) 2, xz, xqv (.bipush 6) 2 6, xz, xqa (.if_icmp .ge 53) 3 133, xz, xz, xq (.iload 4) 2, xz, xqv (.iconst (-1)) 1 (-1), xqa (.if_icmp .eq 47) 3 133, xz, xz, xq (.iload 5) 2, xz, xqv (.iconst (-1)) 1 (-1), xqa (.if_icmp .eq 41) 3 133, xz, xz, xq (.aload_n 0) 1, xq (.iload 4) 2, xz, xq (.iload 5) 2, xz, xq (.iload_n 3) 1, xqv (.iconst 1) 1 1, xq .iadd 1, xqc (.invokevirtual 110) 3 80 4 1070, xz, xz, xqa (.ifCond .ne 5) 3 111, xz, xz, xqv (.iconst 0) 1 0, xq .ireturn 1, xq (.aload_n 0) 1, xq (.iload 4) 2, xz, xqc (.invokevirtual 52) 3 64 2 770, xz, xz, xq (.istore 4) 2, xz, xq (.aload_n 0) 1, xq (.iload 5) 2, xz, xqc (.invokevirtual 52) 3 64 2 770, xz, xz, xq (.istore 5) 2, xz, xqv (.iinc 6 1) 3 1, xz, xz, xqa (.goto (-54)) 3 76, xz, xz, xq (.iload 4) 2, xz, xqv (.iconst (-1)) 1 (-1), xqa (.if_icmp .ne 13) 3 149, xz, xz, xq (.iload 5) 2, xz, xqv (.iconst (-1)) 1 (-1), xqa (.if_icmp .ne 7) 3 149, xz, xz, xqv (.iconst 1) 1 1, xqa (.goto 4) 3 150, xz, xz, xqv (.iconst 0) 1 0, xq .ireturn 1]
-- TermReader$Parts.isSameName(II)Z
def xc_81 : List (Option xRow) := [xq (.aload_n 0) 1, xq (.iload_n 1) 1, xqc (.invokevirtual 61) 3 62 2 975, xz, xz, xq (.istore_n 3) 1, xq (.iload_n 3) 1, xq (.aload_n 0) 1, xq (.iload_n 2) 1, xqc (.invokevirtual 61) 3 62 2 975, xz, xz, xqa (.if_icmp .eq 5) 3 17, xz, xz, xqv (.iconst 0) 1 0, xq .ireturn 1, xqv (.iconst 0) 1 0, xq (.istore 4) 2, xz, xq (.iload 4) 2, xz, xq (.iload_n 3) 1, xqa (.if_icmp .ge 44) 3 67, xz, xz, xq (.aload_n 0) 1, xqc (.getfield 9) 3 4 0 258, xz, xz, xq (.aload_n 0) 1, xq (.iload_n 1) 1, xqc (.invokevirtual 58) 3 61 2 974, xz, xz, xq (.iload 4) 2, xz, xq .iadd 1, xqc (.invokevirtual 114) 3 13 2 1069, xz, xz, xq (.aload_n 0) 1, xqc (.getfield 9) 3 4 0 258, xz, xz, xq (.aload_n 0) 1, xq (.iload_n 2) 1, xqc (.invokevirtual 58) 3 61 2 974, xz, xz, xq (.iload 4) 2, xz, xq .iadd 1, xqc (.invokevirtual 114) 3 13 2 1069, xz, xz, xqa (.if_icmp .eq 5) 3 61, xz, xz, xqv (.iconst 0) 1 0, xq .ireturn 1, xqv (.iinc 4 1) 3 1, xz, xz, xqa (.goto (-44)) 3 20, xz, xz, xqv (.iconst 1) 1 1, xq .ireturn 1]
-- TermReader$Tokens.<init>(LTermReader$CharRow;LTermReader$CharRow;)V
def xc_82 : List (Option xRow) := [xq (.aload_n 0) 1, xqc (.invokespecial 3) 3 1000 1 288, xz, xz, xq (.aload_n 0) 1, xq (.aload_n 1) 1, xqc (.putfield 9) 3 5 0 289, xz, xz, xq (.aload_n 0) 1, xq (.aload_n 2) 1, xqc (.putfield 15) 3 5 1 290, xz, xz, xq (.aload_n 0) 1, xqv (.bipush 120) 2 120, xz, xqc (.newarray .int) 2 0 0 246, xz, xqc (.putfield 18) 3 5 2 291, xz, xz, xq (.aload_n 0) 1, xqv (.bipush 120) 2 120, xz, xqc (.newarray .int) 2 0 0 246, xz, xqc (.putfield 22) 3 5 3 292, xz, xz, xq (.aload_n 0) 1, xqv (.bipush 120) 2 120, xz, xqc (.newarray .int) 2 0 0 246, xz, xqc (.putfield 25) 3 5 4 293, xz, xz, xq (.aload_n 0) 1, xqv (.bipush 120) 2 120, xz, xqc (.newarray .int) 2 0 0 246, xz, xqc (.putfield 28) 3 5 5 294, xz, xz, xq (.aload_n 0) 1, xqv (.bipush 120) 2 120, xz, xqc (.newarray .int) 2 0 0 246, xz, xqc (.putfield 31) 3 5 6 295, xz, xz, xq (.aload_n 0) 1, xqv (.bipush 120) 2 120, xz, xqc (.newarray .long) 2 0 0 245, xz, xqc (.putfield 34) 3 5 7 296, xz, xz, xq (.aload_n 0) 1, xqv (.iconst 0) 1 0, xqc (.putfield 38) 3 5 8 297, xz, xz, xq (.aload_n 0) 1, xqv (.iconst 0) 1 0, xqc (.putfield 42) 3 5 9 298, xz, xz, xq (.aload_n 0) 1, xqv (.iconst 0) 1 0, xqc (.putfield 45) 3 5 10 299, xz, xz, xq .return_ 1]
-- TermReader$Tokens.scan()Z
def xc_83 : List (Option xRow) := [xq (.aload_n 0) 1, xqv (.iconst 0) 1 0, xqc (.putfield 38) 3 5 8 297, xz, xz, xq (.aload_n 0) 1, xqv (.iconst 0) 1 0, xqc (.putfield 42) 3 5 9 298, xz, xz, xq (.aload_n 0) 1, xqv (.iconst 0) 1 0, xqc (.putfield 45) 3 5 10 299, xz, xz, xqv (.iconst 0) 1 0, xq (.istore_n 1) 1, xq (.iload_n 1) 1, xqv (.bipush 120) 2 120, xz, xqa (.if_icmp .ge 40) 3 60, xz, xz, xq (.aload_n 0) 1, xqc (.invokevirtual 48) 3 97 1 570, xz, xz, xqa (.ifCond .eq 10) 3 37, xz, xz, xq (.aload_n 0) 1, xqc (.invokevirtual 52) 3 99 1 580, xz, xz, xqa (.ifCond .ne 5) 3 39, xz, xz, xqv (.iconst 0) 1 0, xq .ireturn 1, xq (.aload_n 0) 1, xq (.aload_n 0) 1, xqc (.getfield 38) 3 5 8 297, xz, xz, xqv (.iconst 1) 1 1, xq .isub 1, xqc (.invokevirtual 55) 3 85 2 662, xz, xz, xqa (.ifCond .ne 5) 3 54, xz, xz, xqv (.iconst 1) 1 1, xq .ireturn 1, xqv (.iinc 1 1) 3 1, xz, xz, xqa (.goto (-40)) 3 17, xz, xz, xqv (.iconst 0) 1 0, xq .ireturn 1]
-- TermReader$Tokens.isToken(I)Z
def xc_84 : List (Option xRow) := [xq (.iload_n 1) 1, xqa (.ifCond .lt 21) 3 22, xz, xz, xq (.iload_n 1) 1, xq (.aload_n 0) 1, xqc (.getfield 38) 3 5 8 297, xz, xz, xqa (.if_icmp .ge 13) 3 22, xz, xz, xq (.iload_n 1) 1, xqv (.bipush 120) 2 120, xz, xqa (.if_icmp .ge 7) 3 22, xz, xz, xqv (.iconst 1) 1 1, xqa (.goto 4) 3 23, xz, xz, xqv (.iconst 0) 1 0, xq .ireturn 1]
-- TermReader$Tokens.kind(I)I
def xc_85 : List (Option xRow) := [xq (.aload_n 0) 1, xq (.iload_n 1) 1, xqc (.invokevirtual 59) 3 84 2 666, xz, xz, xqa (.ifCond .eq 12) 3 17, xz, xz, xq (.aload_n 0) 1, xqc (.getfield 18) 3 5 2 291, xz, xz, xq (.iload_n 1) 1, xq .iaload 1, xqa (.goto 4) 3 18, xz, xz, xqv (.iconst 0) 1 0, xq .ireturn 1]
-- TermReader$Tokens.end(I)I
def xc_86 : List (Option xRow) := [xq (.aload_n 0) 1, xq (.iload_n 1) 1, xqc (.invokevirtual 59) 3 84 2 666, xz, xz, xqa (.ifCond .eq 12) 3 17, xz, xz, xq (.aload_n 0) 1, xqc (.getfield 25) 3 5 4 293, xz, xz, xq (.iload_n 1) 1, xq .iaload 1, xqa (.goto 10) 3 24, xz, xz, xq (.aload_n 0) 1, xqc (.getfield 9) 3 5 0 289, xz, xz, xqc (.invokevirtual 63) 3 12 1 575, xz, xz, xq .ireturn 1]
-- TermReader$Tokens.value(I)I
def xc_87 : List (Option xRow) := [xq (.aload_n 0) 1, xq (.iload_n 1) 1, xqc (.invokevirtual 59) 3 84 2 666, xz, xz, xqa (.ifCond .eq 12) 3 17, xz, xz, xq (.aload_n 0) 1, xqc (.getfield 28) 3 5 5 294, xz, xz, xq (.iload_n 1) 1, xq .iaload 1, xqa (.goto 4) 3 18, xz, xz, xqv (.iconst 0) 1 0, xq .ireturn 1]
-- TermReader$Tokens.size(I)I
def xc_88 : List (Option xRow) := [xq (.aload_n 0) 1, xq (.iload_n 1) 1, xqc (.invokevirtual 59) 3 84 2 666, xz, xz, xqa (.ifCond .eq 12) 3 17, xz, xz, xq (.aload_n 0) 1, xqc (.getfield 31) 3 5 6 295, xz, xz, xq (.iload_n 1) 1, xq .iaload 1, xqa (.goto 4) 3 18, xz, xz, xqv (.iconst 0) 1 0, xq .ireturn 1]
-- TermReader$Tokens.key(I)J
def xc_89 : List (Option xRow) := [xq (.aload_n 0) 1, xq (.iload_n 1) 1, xqc (.invokevirtual 59) 3 84 2 666, xz, xz, xqa (.ifCond .eq 12) 3 17, xz, xz, xq (.aload_n 0) 1, xqc (.getfield 34) 3 5 7 296, xz, xz, xq (.iload_n 1) 1, xq .laload 1, xqa (.goto 4) 3 18, xz, xz, xq (.lconst 0) 1, xq .lreturn 1]
-- TermReader$Tokens.stringCharacter(II)I
def xc_90 : List (Option xRow) := [xq (.aload_n 0) 1, xqc (.getfield 9) 3 5 0 289, xz, xz, xq (.aload_n 0) 1, xq (.iload_n 1) 1, xqc (.invokevirtual 69) 3 87 2 695, xz, xz, xq (.iload_n 2) 1, xq .iadd 1, xqc (.invokevirtual 72) 3 13 2 574, xz, xz, xq .ireturn 1]
-- TermReader$Tokens.isMark(II)Z
def xc_91 : List (Option xRow) := [xq (.aload_n 0) 1, xq (.iload_n 1) 1, xqc (.invokevirtual 55) 3 85 2 662, xz, xz, xqv (.iconst 5) 1 5, xqa (.if_icmp .ne 16) 3 22, xz, xz, xq (.aload_n 0) 1, xq (.iload_n 1) 1, xqc (.invokevirtual 69) 3 87 2 695, xz, xz, xq (.iload_n 2) 1, xqa (.if_icmp .ne 7) 3 22, xz, xz, xqv (.iconst 1) 1 1, xqa (.goto 4) 3 23, xz, xz, xqv (.iconst 0) 1 0, xq .ireturn 1]
-- TermReader$Tokens.isNextTo(I)Z
def xc_92 : List (Option xRow) := [xq (.aload_n 0) 1, xq (.iload_n 1) 1, xqc (.invokevirtual 59) 3 84 2 666, xz, xz, xqa (.ifCond .eq 34) 3 39, xz, xz, xq (.aload_n 0) 1, xq (.iload_n 1) 1, xqv (.iconst 1) 1 1, xq .iadd 1, xqc (.invokevirtual 59) 3 84 2 666, xz, xz, xqa (.ifCond .eq 24) 3 39, xz, xz, xq (.aload_n 0) 1, xqc (.getfield 25) 3 5 4 293, xz, xz, xq (.iload_n 1) 1, xq .iaload 1, xq (.aload_n 0) 1, xqc (.getfield 22) 3 5 3 292, xz, xz, xq (.iload_n 1) 1, xqv (.iconst 1) 1 1, xq .iadd 1, xq .iaload 1, xqa (.if_icmp .ne 7) 3 39, xz, xz, xqv (.iconst 1) 1 1, xqa (.goto 4) 3 40, xz, xz, xqv (.iconst 0) 1 0, xq .ireturn 1]
-- TermReader$Tokens.isCall(I)Z
def xc_93 : List (Option xRow) := [xq (.aload_n 0) 1, xq (.iload_n 1) 1, xqc (.invokevirtual 55) 3 85 2 662, xz, xz, xqv (.iconst 1) 1 1, xqa (.if_icmp .ne 27) 3 33, xz, xz, xq (.aload_n 0) 1, xq (.iload_n 1) 1, xqc (.invokevirtual 75) 3 92 2 687, xz, xz, xqa (.ifCond .eq 19) 3 33, xz, xz, xq (.aload_n 0) 1, xq (.iload_n 1) 1, xqv (.iconst 1) 1 1, xq .iadd 1, xqv (.bipush 40) 2 40, xz, xqc (.invokevirtual 78) 3 91 3 691, xz, xz, xqa (.ifCond .eq 7) 3 33, xz, xz, xqv (.iconst 1) 1 1, xqa (.goto 4) 3 34, xz, xz, xqv (.iconst 0) 1 0, xq .ireturn 1]
-- TermReader$Tokens.isMinusOfInteger(I)Z
def xc_94 : List (Option xRow) := [xq (.aload_n 0) 1, xq (.iload_n 1) 1, xqc (.invokevirtual 55) 3 85 2 662, xz, xz, xqv (.iconst 1) 1 1, xqa (.if_icmp .ne 46) 3 52, xz, xz, xq (.aload_n 0) 1, xq (.iload_n 1) 1, xqc (.invokevirtual 82) 3 89 2 703, xz, xz, xqk (.ldc2_w 86) 3 0 0 707 45, xz, xz, xq .lcmp 1, xqa (.ifCond .ne 34) 3 52, xz, xz, xq (.aload_n 0) 1, xq (.iload_n 1) 1, xqc (.invokevirtual 75) 3 92 2 687, xz, xz, xqa (.ifCond .eq 26) 3 52, xz, xz, xq (.aload_n 0) 1, xq (.iload_n 1) 1, xqv (.iconst 1) 1 1, xq .iadd 1, xqc (.invokevirtual 55) 3 85 2 662, xz, xz, xqv (.iconst 3) 1 3, xqa (.if_icmp .ne 15) 3 52, xz, xz, xq (.aload_n 0) 1, xq (.iload_n 1) 1, xqc (.invokevirtual 88) 3 95 2 708, xz, xz, xqa (.ifCond .ne 7) 3 52, xz, xz, xqv (.iconst 1) 1 1, xqa (.goto 4) 3 53, xz, xz, xqv (.iconst 0) 1 0, xq .ireturn 1]
-- TermReader$Tokens.isQuoted(I)Z
def xc_95 : List (Option xRow) := [xq (.aload_n 0) 1, xq (.iload_n 1) 1, xqc (.invokevirtual 59) 3 84 2 666, xz, xz, xqa (.ifCond .eq 25) 3 30, xz, xz, xq (.aload_n 0) 1, xqc (.getfield 9) 3 5 0 289, xz, xz, xq (.aload_n 0) 1, xqc (.getfield 22) 3 5 3 292, xz, xz, xq (.iload_n 1) 1, xq .iaload 1, xqc (.invokevirtual 72) 3 13 2 574, xz, xz, xqv (.bipush 39) 2 39, xz, xqa (.if_icmp .ne 7) 3 30, xz, xz, xqv (.iconst 1) 1 1, xqa (.goto 4) 3 31, xz, xz, xqv (.iconst 0) 1 0, xq .ireturn 1]
-- TermReader$Tokens.beginsTerm(I)Z
def xc_96 : List (Option xRow) := [xq (.aload_n 0) 1, xq (.iload_n 1) 1, xqc (.invokevirtual 55) 3 85 2 662, xz, xz, xqs (.lookupswitch 65 #[(0, 27), (5, 29)]) 27 70 [(0, 32), (5, 34)], xz, xz, xz, xz, xz, xz, xz, xz, xz, xz, xz, xz, xz, xz, xz, xz, xz, xz, xz, xz, xz, xz, xz, xz, xz, xz, xqv (.iconst 0) 1 0, xq .ireturn 1, xq (.aload_n 0) 1, xq (.iload_n 1) 1, xqv (.bipush 40) 2 40, xz, xqc (.invokevirtual 78) 3 91 3 691, xz, xz, xqa (.ifCond .ne 23) 3 64, xz, xz, xq (.aload_n 0) 1, xq (.iload_n 1) 1, xqv (.bipush 91) 2 91, xz, xqc (.invokevirtual 78) 3 91 3 691, xz, xz, xqa (.ifCond .ne 13) 3 64, xz, xz, xq (.aload_n 0) 1, xq (.iload_n 1) 1, xqv (.bipush 123) 2 123, xz, xqc (.invokevirtual 78) 3 91 3 691, xz, xz, xqa (.ifCond .eq 7) 3 68, xz, xz, xqv (.iconst 1) 1 1, xqa (.goto 4) 3 69, xz, xz, xqv (.iconst 0) 1 0, xq .ireturn 1, xqv (.iconst 1) 1 1, xq .ireturn 1]
-- TermReader$Tokens.skipLayout()Z
def xc_97 : List (Option xRow) := [xqv (.iconst 0) 1 0, xq (.istore_n 1) 1, xq (.iload_n 1) 1, xqv (.bipush 120) 2 120, xz, xqa (.if_icmp .gt 112) 3 117, xz, xz, xq (.aload_n 0) 1, xqc (.getfield 9) 3 5 0 289, xz, xz, xq (.aload_n 0) 1, xqc (.getfield 42) 3 5 9 298, xz, xz, xqc (.invokevirtual 72) 3 13 2 574, xz, xz, xq (.istore_n 2) 1, xq (.iload_n 2) 1, xqv (.bipush 32) 2 32, xz, xqa (.if_icmp .ne 16) 3 39, xz, xz, xq (.aload_n 0) 1, xq .dup 1, xqc (.getfield 42) 3 5 9 298, xz, xz, xqv (.iconst 1) 1 1, xq .iadd 1, xqc (.putfield 42) 3 5 9 298, xz, xz, xqa (.goto 75) 3 111, xz, xz, xq (.iload_n 2) 1, xqv (.bipush 37) 2 37, xz, xqa (.if_icmp .ne 17) 3 59, xz, xz, xq (.aload_n 0) 1, xq (.aload_n 0) 1, xqc (.getfield 9) 3 5 0 289, xz, xz, xqc (.invokevirtual 63) 3 12 1 575, xz, xz, xqc (.putfield 42) 3 5 9 298, xz, xz, xqa (.goto 55) 3 111, xz, xz, xq (.iload_n 2) 1, xqv (.bipush 47) 2 47, xz, xqa (.if_icmp .ne 47) 3 109, xz, xz, xq (.aload_n 0) 1, xqc (.getfield 9) 3 5 0 289, xz, xz, xq (.aload_n 0) 1, xqc (.getfield 42) 3 5 9 298, xz, xz, xqv (.iconst 1) 1 1, xq .iadd 1, xqc (.invokevirtual 72) 3 13 2 574, xz, xz, xqv (.bipush 42) 2 42, xz, xqa (.if_icmp .ne 29) 3 109, xz, xz, xq (.aload_n 0) 1, xq (.aload_n 0) 1, xqc (.getfield 42) 3 5 9 298, xz, xz, xqv (.iconst 2) 1 2, xq .iadd 1, xqc (.invokevirtual 91) 3 98 2 576, xz, xz, xq (.istore_n 3) 1, xq (.iload_n 3) 1, xqv (.iconst (-1)) 1 (-1), xqa (.if_icmp .ne 5) 3 101, xz, xz, xqv (.iconst 0) 1 0, xq .ireturn 1, xq (.aload_n 0) 1, xq (.iload_n 3) 1, xqc (.putfield 42) 3 5 9 298, xz, xz, xqa (.goto 5) 3 111, xz, xz, xqv (.iconst 1) 1 1, xq .ireturn 1, xqv (.iinc 1 1) 3 1, xz, xz, xqa (.goto (-112)) 3 2, xz, xz, xqv (.iconst 1) 1 1, xq .ireturn 1]
-- TermReader$Tokens.behindComment(I)I
def xc_98 : List (Option xRow) := [xq (.iload_n 1) 1, xq (.istore_n 2) 1, xq (.iload_n 2) 1, xq (.aload_n 0) 1, xqc (.getfield 9) 3 5 0 289, xz, xz, xqc (.invokevirtual 63) 3 12 1 575, xz, xz, xqa (.if_icmp .ge 41) 3 51, xz, xz, xq (.aload_n 0) 1, xqc (.getfield 9) 3 5 0 289, xz, xz, xq (.iload_n 2) 1, xqc (.invokevirtual 72) 3 13 2 574, xz, xz, xqv (.bipush 42) 2 42, xz, xqa (.if_icmp .ne 22) 3 45, xz, xz, xq (.aload_n 0) 1, xqc (.getfield 9) 3 5 0 289, xz, xz, xq (.iload_n 2) 1, xqv (.iconst 1) 1 1, xq .iadd 1, xqc (.invokevirtual 72) 3 13 2 574, xz, xz, xqv (.bipush 47) 2 47, xz, xqa (.if_icmp .ne 7) 3 45, xz, xz, xq (.iload_n 2) 1, xqv (.iconst 2) 1 2, xq .iadd 1, xq .ireturn 1, xqv (.iinc 2 1) 3 1, xz, xz, xqa (.goto (-46)) 3 2, xz, xz, xqv (.iconst (-1)) 1 (-1), xq .ireturn 1]
-- TermReader$Tokens.scanToken()Z
def xc_99 : List (Option xRow) := [xq (.aload_n 0) 1, xqc (.getfield 9) 3 5 0 289, xz, xz, xq (.aload_n 0) 1, xqc (.getfield 42) 3 5 9 298, xz, xz, xqc (.invokevirtual 72) 3 13 2 574, xz, xz, xq (.istore_n 1) 1, xq (.aload_n 0) 1, xqc (.getfield 9) 3 5 0 289, xz, xz, xq (.aload_n 0) 1, xqc (.getfield 42) 3 5 9 298, xz, xz, xqv (.iconst 1) 1 1, xq .iadd 1, xqc (.invokevirtual 72) 3 13 2 574, xz, xz, xq (.istore_n 2) 1, xq (.iload_n 1) 1, xqc (.invokestatic 94) 3 201 1 584, xz, xz, xqa (.ifCond .eq 13) 3 43, xz, xz, xq (.aload_n 0) 1, xq (.aload_n 0) 1, xqv (.iconst 0) 1 0, xqc (.invokevirtual 99) 3 101 2 585, xz, xz, xqc (.invokevirtual 103) 3 103 2 600, xz, xz, xq .ireturn 1, xq (.iload_n 1) 1, xqc (.invokestatic 106) 3 202 1 617, xz, xz, xqa (.ifCond .ne 9) 3 56, xz, xz, xq (.iload_n 1) 1, xqv (.bipush 95) 2 95, xz, xqa (.if_icmp .ne 13) 3 66, xz, xz, xq (.aload_n 0) 1, xq (.aload_n 0) 1, xqv (.iconst 0) 1 0, xqc (.invokevirtual 99) 3 101 2 585, xz, xz, xqc (.invokevirtual 109) 3 107 2 618, xz, xz, xq .ireturn 1, xq (.iload_n 1) 1, xqc (.invokestatic 112) 3 203 1 630, xz, xz, xqa (.ifCond .eq 10) 3 80, xz, xz, xq (.aload_n 0) 1, xq (.iload_n 1) 1, xq (.iload_n 2) 1, xqc (.invokevirtual 115) 3 110 3 631, xz, xz, xq .ireturn 1, xq (.iload_n 1) 1, xqc (.invokestatic 118) 3 205 1 589, xz, xz, xqa (.ifCond .eq 35) 3 119, xz, xz, xq (.aload_n 0) 1, xqv (.iconst 1) 1 1, xqc (.invokevirtual 99) 3 101 2 585, xz, xz, xq (.istore_n 3) 1, xq (.aload_n 0) 1, xq (.iload_n 3) 1, xqc (.invokevirtual 121) 3 102 2 643, xz, xz, xqa (.ifCond .eq 15) 3 113, xz, xz, xq (.aload_n 0) 1, xqv (.iconst 0) 1 0, xq (.iload_n 3) 1, xqv (.iconst 0) 1 0, xqv (.iconst 1) 1 1, xq (.lconst 0) 1, xqc (.invokevirtual 124) 3 100 6 613, xz, xz, xqa (.goto 8) 3 118, xz, xz, xq (.aload_n 0) 1, xq (.iload_n 3) 1, xqc (.invokevirtual 103) 3 103 2 600, xz, xz, xq .ireturn 1, xq (.iload_n 1) 1, xqv (.bipush 39) 2 39, xz, xqa (.if_icmp .ne 8) 3 130, xz, xz, xq (.aload_n 0) 1, xqc (.invokevirtual 128) 3 105 1 647, xz, xz, xq .ireturn 1, xq (.iload_n 1) 1, xqv (.bipush 34) 2 34, xz, xqa (.if_icmp .ne 8) 3 141, xz, xz, xq (.aload_n 0) 1, xqc (.invokevirtual 131) 3 112 1 654, xz, xz, xq .ireturn 1, xq (.iload_n 1) 1, xqv (.bipush 33) 2 33, xz, xqa (.if_icmp .eq 9) 3 153, xz, xz, xq (.iload_n 1) 1, xqv (.bipush 59) 2 59, xz, xqa (.if_icmp .ne 14) 3 164, xz, xz, xq (.aload_n 0) 1, xq (.aload_n 0) 1, xqc (.getfield 42) 3 5 9 298, xz, xz, xqv (.iconst 1) 1 1, xq .iadd 1, xqc (.invokevirtual 103) 3 103 2 600, xz, xz, xq .ireturn 1, xq (.iload_n 1) 1, xqv (.bipush 91) 2 91, xz, xqa (.if_icmp .ne 9) 3 176, xz, xz, xq (.iload_n 2) 1, xqv (.bipush 93) 2 93, xz, xqa (.if_icmp .eq 15) 3 188, xz, xz, xq (.iload_n 1) 1, xqv (.bipush 123) 2 123, xz, xqa (.if_icmp .ne 20) 3 199, xz, xz, xq (.iload_n 2) 1, xqv (.bipush 125) 2 125, xz, xqa (.if_icmp .ne 14) 3 199, xz, xz, xq (.aload_n 0) 1, xq (.aload_n 0) 1, xqc (.getfield 42) 3 5 9 298, xz, xz, xqv (.iconst 2) 1 2, xq .iadd 1, xqc (.invokevirtual 103) 3 103 2 600, xz, xz, xq .ireturn 1, xq (.iload_n 1) 1, xqc (.invokestatic 134) 3 206 1 658, xz, xz, xqa (.ifCond .eq 36) 3 239, xz, xz, xq (.aload_n 0) 1, xqv (.iconst 5) 1 5, xq (.aload_n 0) 1, xqc (.getfield 42) 3 5 9 298, xz, xz, xqv (.iconst 1) 1 1, xq .iadd 1, xq (.iload_n 1) 1, xqv (.iconst 1) 1 1, xq (.iload_n 1) 1, xqv (.bipush 44) 2 44, xz, xqa (.if_icmp .ne 9) 3 228, xz, xz, xqk (.ldc2_w 137) 3 0 0 661 44, xz, xz, xqa (.goto 4) 3 229, xz, xz, xq (.lconst 0) 1, xqc (.invokevirtual 124) 3 100 6 613, xz, xz, xqa (.ifCond .eq 7) 3 239, xz, xz, xqv (.iconst 1) 1 1, xqa (.goto 4) 3 240, xz, xz, xqv (.iconst 0) 1 0, xq .ireturn 1]
-- TermReader$Tokens.add(IIIIJ)Z
def xc_100 : List (Option xRow) := [xq (.aload_n 0) 1, xqc (.getfield 38) 3 5 8 297, xz, xz, xqa (.ifCond .lt 12) 3 16, xz, xz, xq (.aload_n 0) 1, xqc (.getfield 38) 3 5 8 297, xz, xz, xqv (.bipush 120) 2 120, xz, xqa (.if_icmp .lt 5) 3 18, xz, xz, xqv (.iconst 0) 1 0, xq .ireturn 1, xq (.aload_n 0) 1, xqc (.getfield 18) 3 5 2 291, xz, xz, xq (.aload_n 0) 1, xqc (.getfield 38) 3 5 8 297, xz, xz, xq (.iload_n 1) 1, xq .iastore 1, xq (.aload_n 0) 1, xqc (.getfield 22) 3 5 3 292, xz, xz, xq (.aload_n 0) 1, xqc (.getfield 38) 3 5 8 297, xz, xz, xq (.aload_n 0) 1, xqc (.getfield 42) 3 5 9 298, xz, xz, xq .iastore 1, xq (.aload_n 0) 1, xqc (.getfield 25) 3 5 4 293, xz, xz, xq (.aload_n 0) 1, xqc (.getfield 38) 3 5 8 297, xz, xz, xq (.iload_n 2) 1, xq .iastore 1, xq (.aload_n 0) 1, xqc (.getfield 28) 3 5 5 294, xz, xz, xq (.aload_n 0) 1, xqc (.getfield 38) 3 5 8 297, xz, xz, xq (.iload_n 3) 1, xq .iastore 1, xq (.aload_n 0) 1, xqc (.getfield 31) 3 5 6 295, xz, xz, xq (.aload_n 0) 1, xqc (.getfield 38) 3 5 8 297, xz, xz, xq (.iload 4) 2, xz, xq .iastore 1, xq (.aload_n 0) 1, xqc (.getfield 34) 3 5 7 296, xz, xz, xq (.aload_n 0) 1, xqc (.getfield 38) 3 5 8 297, xz, xz, xq (.lload 5) 2, xz, xq .lastore 1, xq (.aload_n 0) 1, xq .dup 1, xqc (.getfield 38) 3 5 8 297, xz, xz, xqv (.iconst 1) 1 1, xq .iadd 1, xqc (.putfield 38) 3 5 8 297, xz, xz, xq (.aload_n 0) 1, xq (.iload_n 2) 1, xqc (.putfield 42) 3 5 9 298, xz, xz, xqv (.iconst 1) 1 1, xq .ireturn 1]
-- TermReader$Tokens.behindRow(Z)I
def xc_101 : List (Option xRow) := [xq (.aload_n 0) 1, xqc (.getfield 42) 3 5 9 298, xz, xz, xq (.istore_n 2) 1, xq (.iload_n 2) 1, xq (.aload_n 0) 1, xqc (.getfield 9) 3 5 0 289, xz, xz, xqc (.invokevirtual 63) 3 12 1 575, xz, xz, xqa (.if_icmp .ge 41) 3 54, xz, xz, xq (.aload_n 0) 1, xqc (.getfield 9) 3 5 0 289, xz, xz, xq (.iload_n 2) 1, xqc (.invokevirtual 72) 3 13 2 574, xz, xz, xq (.istore_n 3) 1, xq (.iload_n 1) 1, xqa (.ifCond .eq 13) 3 39, xz, xz, xq (.iload_n 3) 1, xqc (.invokestatic 118) 3 205 1 589, xz, xz, xqa (.ifCond .ne 15) 3 48, xz, xz, xqa (.goto 10) 3 46, xz, xz, xq (.iload_n 3) 1, xqc (.invokestatic 139) 3 204 1 590, xz, xz, xqa (.ifCond .ne 5) 3 48, xz, xz, xq (.iload_n 2) 1, xq .ireturn 1, xqv (.iinc 2 1) 3 1, xz, xz, xqa (.goto (-46)) 3 5, xz, xz, xq (.aload_n 0) 1, xqc (.getfield 9) 3 5 0 289, xz, xz, xqc (.invokevirtual 63) 3 12 1 575, xz, xz, xq .ireturn 1]
-- TermReader$Tokens.isEnd(I)Z
def xc_102 : List (Option xRow) := [xq (.aload_n 0) 1, xqc (.getfield 9) 3 5 0 289, xz, xz, xq (.iload_n 1) 1, xqc (.invokevirtual 72) 3 13 2 574, xz, xz, xq (.istore_n 2) 1, xq (.iload_n 1) 1, xq (.aload_n 0) 1, xqc (.getfield 42) 3 5 9 298, xz, xz, xq .isub 1, xqv (.iconst 1) 1 1, xqa (.if_icmp .ne 40) 3 56, xz, xz, xq (.aload_n 0) 1, xqc (.getfield 9) 3 5 0 289, xz, xz, xq (.aload_n 0) 1, xqc (.getfield 42) 3 5 9 298, xz, xz, xqc (.invokevirtual 72) 3 13 2 574, xz, xz, xqv (.bipush 46) 2 46, xz, xqa (.if_icmp .ne 24) 3 56, xz, xz, xq (.iload_n 2) 1, xqv (.bipush 32) 2 32, xz, xqa (.if_icmp .eq 14) 3 52, xz, xz, xq (.iload_n 2) 1, xqv (.bipush 37) 2 37, xz, xqa (.if_icmp .eq 8) 3 52, xz, xz, xq (.iload_n 2) 1, xqv (.iconst (-1)) 1 (-1), xqa (.if_icmp .ne 7) 3 56, xz, xz, xqv (.iconst 1) 1 1, xqa (.goto 4) 3 57, xz, xz, xqv (.iconst 0) 1 0, xq .ireturn 1]
-- TermReader$Tokens.addPlainName(I)Z
def xc_103 : List (Option xRow) := [xq (.aload_n 0) 1, xqc (.getfield 15) 3 5 1 290, xz, xz, xqc (.invokevirtual 63) 3 12 1 575, xz, xz, xq (.istore_n 2) 1, xq (.aload_n 0) 1, xqc (.getfield 42) 3 5 9 298, xz, xz, xq (.istore_n 3) 1, xq (.iload_n 3) 1, xq (.iload_n 1) 1, xqa (.if_icmp .ge 35) 3 50, xz, xz, xq (.iload_n 3) 1, xq (.aload_n 0) 1, xqc (.getfield 9) 3 5 0 289, xz, xz, xqc (.invokevirtual 63) 3 12 1 575, xz, xz, xqa (.if_icmp .ge 24) 3 50, xz, xz, xq (.aload_n 0) 1, xqc (.getfield 15) 3 5 1 290, xz, xz, xq (.aload_n 0) 1, xqc (.getfield 9) 3 5 0 289, xz, xz, xq (.iload_n 3) 1, xqc (.invokevirtual 72) 3 13 2 574, xz, xz, xqc (.invokevirtual 142) 3 14 2 604, xz, xz, xqv (.iinc 3 1) 3 1, xz, xz, xqa (.goto (-34)) 3 13, xz, xz, xq (.aload_n 0) 1, xq (.iload_n 2) 1, xq (.iload_n 1) 1, xqc (.invokevirtual 145) 3 104 3 605, xz, xz, xq .ireturn 1]
-- TermReader$Tokens.addName(II)Z
def xc_104 : List (Option xRow) := [xq (.aload_n 0) 1, xqc (.getfield 15) 3 5 1 290, xz, xz, xqc (.invokevirtual 63) 3 12 1 575, xz, xz, xq (.iload_n 1) 1, xq .isub 1, xq (.istore_n 3) 1, xq (.iload_n 3) 1, xqv (.bipush 24) 2 24, xz, xqa (.if_icmp .gt 27) 3 40, xz, xz, xq (.aload_n 0) 1, xqv (.iconst 1) 1 1, xq (.iload_n 2) 1, xq (.iload_n 1) 1, xq (.iload_n 3) 1, xq (.aload_n 0) 1, xqc (.getfield 15) 3 5 1 290, xz, xz, xq (.iload_n 1) 1, xq (.iload_n 3) 1, xqc (.invokestatic 148) 3 212 3 609, xz, xz, xqc (.invokevirtual 124) 3 100 6 613, xz, xz, xqa (.ifCond .eq 7) 3 40, xz, xz, xqv (.iconst 1) 1 1, xqa (.goto 4) 3 41, xz, xz, xqv (.iconst 0) 1 0, xq .ireturn 1]
-- TermReader$Tokens.addQuotedName()Z
def xc_105 : List (Option xRow) := [xq (.aload_n 0) 1, xqc (.getfield 15) 3 5 1 290, xz, xz, xqc (.invokevirtual 63) 3 12 1 575, xz, xz, xq (.istore_n 1) 1, xq (.aload_n 0) 1, xqc (.getfield 42) 3 5 9 298, xz, xz, xqv (.iconst 1) 1 1, xq .iadd 1, xq (.istore_n 2) 1, xqv (.iconst 0) 1 0, xq (.istore_n 3) 1, xq (.iload_n 3) 1, xqv (.bipush 120) 2 120, xz, xqa (.if_icmp .ge 120) 3 140, xz, xz, xq (.aload_n 0) 1, xqc (.getfield 9) 3 5 0 289, xz, xz, xq (.iload_n 2) 1, xqc (.invokevirtual 72) 3 13 2 574, xz, xz, xq (.istore 4) 2, xz, xq (.aload_n 0) 1, xqc (.getfield 9) 3 5 0 289, xz, xz, xq (.iload_n 2) 1, xqv (.iconst 1) 1 1, xq .iadd 1, xqc (.invokevirtual 72) 3 13 2 574, xz, xz, xq (.istore 5) 2, xz, xq (.iload 4) 2, xz, xqv (.iconst (-1)) 1 (-1), xqa (.if_icmp .ne 5) 3 53, xz, xz, xqv (.iconst 0) 1 0, xq .ireturn 1, xq (.iload 4) 2, xz, xqv (.bipush 39) 2 39, xz, xqa (.if_icmp .ne 19) 3 76, xz, xz, xq (.iload 5) 2, xz, xqv (.bipush 39) 2 39, xz, xqa (.if_icmp .eq 12) 3 76, xz, xz, xq (.aload_n 0) 1, xq (.iload_n 1) 1, xq (.iload_n 2) 1, xqv (.iconst 1) 1 1, xq .iadd 1, xqc (.invokevirtual 145) 3 104 3 605, xz, xz, xq .ireturn 1, xq (.iload 4) 2, xz, xqv (.bipush 92) 2 92, xz, xqa (.if_icmp .ne 11) 3 91, xz, xz, xq (.iload 5) 2, xz, xqc (.invokestatic 154) 3 106 1 651, xz, xz, xqa (.goto 5) 3 93, xz, xz, xq (.iload 4) 2, xz, xq (.istore 6) 2, xz, xq (.iload 6) 2, xz, xqv (.iconst (-1)) 1 (-1), xqa (.if_icmp .ne 5) 3 103, xz, xz, xqv (.iconst 0) 1 0, xq .ireturn 1, xq (.aload_n 0) 1, xqc (.getfield 15) 3 5 1 290, xz, xz, xq (.iload 6) 2, xz, xqc (.invokevirtual 142) 3 14 2 604, xz, xz, xq (.iload_n 2) 1, xq (.iload 4) 2, xz, xqv (.bipush 39) 2 39, xz, xqa (.if_icmp .eq 10) 3 127, xz, xz, xq (.iload 4) 2, xz, xqv (.bipush 92) 2 92, xz, xqa (.if_icmp .ne 7) 3 131, xz, xz, xqv (.iconst 2) 1 2, xqa (.goto 4) 3 132, xz, xz, xqv (.iconst 1) 1 1, xq .iadd 1, xq (.istore_n 2) 1, xqv (.iinc 3 1) 3 1, xz, xz, xqa (.goto (-120)) 3 17, xz, xz, xqv (.iconst 0) 1 0, xq .ireturn 1]
-- TermReader$Tokens.escaped(I)I
def xc_106 : List (Option xRow) := [xq (.iload_n 0) 1, xqs (.lookupswitch 51 #[(39, 49), (92, 49), (110, 43), (116, 46)]) 43 52 [(39, 50), (92, 50), (110, 44), (116, 47)], xz, xz, xz, xz, xz, xz, xz, xz, xz, xz, xz, xz, xz, xz, xz, xz, xz, xz, xz, xz, xz, xz, xz, xz, xz, xz, xz, xz, xz, xz, xz, xz, xz, xz, xz, xz, xz, xz, xz, xz, xz, xz, xqv (.bipush 10) 2 10, xz, xq .ireturn 1, xqv (.bipush 9) 2 9, xz, xq .ireturn 1, xq (.iload_n 0) 1, xq .ireturn 1, xqv (.iconst (-1)) 1 (-1), xq .ireturn 1]
-- TermReader$Tokens.addVariable(I)Z
def xc_107 : List (Option xRow) := [xq (.iload_n 1) 1, xq (.aload_n 0) 1, xqc (.getfield 42) 3 5 9 298, xz, xz, xq .isub 1, xq (.istore_n 2) 1, xq (.iload_n 2) 1, xqv (.bipush 24) 2 24, xz, xqa (.if_icmp .gt 23) 3 33, xz, xz, xq (.aload_n 0) 1, xqv (.iconst 2) 1 2, xq (.iload_n 1) 1, xq (.aload_n 0) 1, xq (.iload_n 2) 1, xqc (.invokevirtual 157) 3 108 2 622, xz, xz, xq (.iload_n 2) 1, xq (.lconst 0) 1, xqc (.invokevirtual 124) 3 100 6 613, xz, xz, xqa (.ifCond .eq 7) 3 33, xz, xz, xqv (.iconst 1) 1 1, xqa (.goto 4) 3 34, xz, xz, xqv (.iconst 0) 1 0, xq .ireturn 1]
-- TermReader$Tokens.variableNumber(I)I
def xc_108 : List (Option xRow) := [xq (.iload_n 1) 1, xqv (.iconst 1) 1 1, xqa (.if_icmp .ne 23) 3 25, xz, xz, xq (.aload_n 0) 1, xqc (.getfield 9) 3 5 0 289, xz, xz, xq (.aload_n 0) 1, xqc (.getfield 42) 3 5 9 298, xz, xz, xqc (.invokevirtual 72) 3 13 2 574, xz, xz, xqv (.bipush 95) 2 95, xz, xqa (.if_icmp .ne 7) 3 25, xz, xz, xqv (.iconst 1) 1 1, xqa (.goto 4) 3 26, xz, xz, xqv (.iconst 0) 1 0, xq (.istore_n 2) 1, xqv (.iconst 0) 1 0, xq (.istore_n 3) 1, xq (.iload_n 3) 1, xq (.aload_n 0) 1, xqc (.getfield 38) 3 5 8 297, xz, xz, xqa (.if_icmp .ge 60) 3 94, xz, xz, xq (.iload_n 3) 1, xqv (.bipush 120) 2 120, xz, xqa (.if_icmp .ge 54) 3 94, xz, xz, xq (.iload_n 2) 1, xqa (.ifCond .ne 50) 3 94, xz, xz, xq (.aload_n 0) 1, xqc (.getfield 18) 3 5 2 291, xz, xz, xq (.iload_n 3) 1, xq .iaload 1, xqv (.iconst 2) 1 2, xqa (.if_icmp .ne 34) 3 88, xz, xz, xq (.aload_n 0) 1, xqc (.getfield 31) 3 5 6 295, xz, xz, xq (.iload_n 3) 1, xq .iaload 1, xq (.iload_n 1) 1, xqa (.if_icmp .ne 24) 3 88, xz, xz, xq (.aload_n 0) 1, xq (.aload_n 0) 1, xqc (.getfield 22) 3 5 3 292, xz, xz, xq (.iload_n 3) 1, xq .iaload 1, xq (.iload_n 1) 1, xqc (.invokevirtual 160) 3 109 3 626, xz, xz, xqa (.ifCond .eq 10) 3 88, xz, xz, xq (.aload_n 0) 1, xqc (.getfield 28) 3 5 5 294, xz, xz, xq (.iload_n 3) 1, xq .iaload 1, xq .ireturn 1, xqv (.iinc 3 1) 3 1, xz, xz, xqa (.goto (-62)) 3 29, xz, xz, xq (.aload_n 0) 1, xq .dup 1, xqc (.getfield 45) 3 5 10 299, xz, xz, xqv (.iconst 1) 1 1, xq .iadd 1, xqc (.putfield 45) 3 5 10 299, xz, xz, xq (.aload_n 0) 1, xqc (.getfield 45) 3 5 10 299, xz, xz, xqv (.iconst 1) 1 1, xq .isub 1, xq .ireturn 1]
-- TermReader$Tokens.isSameText(II)Z
def xc_109 : List (Option xRow) := [xqv (.iconst 0) 1 0, xq (.istore_n 3) 1, xq (.iload_n 3) 1, xq (.iload_n 2) 1, xqa (.if_icmp .ge 37) 3 41, xz, xz, xq (.aload_n 0) 1, xqc (.getfield 9) 3 5 0 289, xz, xz, xq (.iload_n 1) 1, xq (.iload_n 3) 1, xq .iadd 1, xqc (.invokevirtual 72) 3 13 2 574, xz, xz, xq (.aload_n 0) 1, xqc (.getfield 9) 3 5 0 289, xz, xz, xq (.aload_n 0) 1, xqc (.getfield 42) 3 5 9 298, xz, xz, xq (.iload_n 3) 1, xq .iadd 1, xqc (.invokevirtual 72) 3 13 2 574, xz, xz, xqa (.if_icmp .eq 5) 3 35, xz, xz, xqv (.iconst 0) 1 0, xq .ireturn 1, xqv (.iinc 3 1) 3 1, xz, xz, xqa (.goto (-36)) 3 2, xz, xz, xqv (.iconst 1) 1 1, xq .ireturn 1]
-- TermReader$Tokens.addInteger(II)Z
def xc_110 : List (Option xRow) := [xq (.iload_n 1) 1, xqv (.bipush 48) 2 48, xz, xqa (.if_icmp .ne 63) 3 66, xz, xz, xq (.iload_n 2) 1, xqv (.bipush 39) 2 39, xz, xqa (.if_icmp .ne 57) 3 66, xz, xz, xq (.aload_n 0) 1, xqc (.getfield 9) 3 5 0 289, xz, xz, xq (.aload_n 0) 1, xqc (.getfield 42) 3 5 9 298, xz, xz, xqv (.iconst 2) 1 2, xq .iadd 1, xqc (.invokevirtual 72) 3 13 2 574, xz, xz, xq (.istore_n 3) 1, xq (.iload_n 3) 1, xqv (.iconst (-1)) 1 (-1), xqa (.if_icmp .eq 36) 3 64, xz, xz, xq (.iload_n 3) 1, xqv (.bipush 39) 2 39, xz, xqa (.if_icmp .eq 30) 3 64, xz, xz, xq (.iload_n 3) 1, xqv (.bipush 92) 2 92, xz, xqa (.if_icmp .eq 24) 3 64, xz, xz, xq (.aload_n 0) 1, xqv (.iconst 3) 1 3, xq (.aload_n 0) 1, xqc (.getfield 42) 3 5 9 298, xz, xz, xqv (.iconst 3) 1 3, xq .iadd 1, xq (.iload_n 3) 1, xqv (.iconst 0) 1 0, xq (.lconst 0) 1, xqc (.invokevirtual 124) 3 100 6 613, xz, xz, xqa (.ifCond .eq 7) 3 64, xz, xz, xqv (.iconst 1) 1 1, xqa (.goto 4) 3 65, xz, xz, xqv (.iconst 0) 1 0, xq .ireturn 1, xq (.iload_n 1) 1, xqv (.bipush 48) 2 48, xz, xqa (.if_icmp .ne 44) 3 113, xz, xz, xq (.iload_n 2) 1, xqv (.bipush 120) 2 120, xz, xqa (.if_icmp .ne 38) 3 113, xz, xz, xq (.aload_n 0) 1, xqc (.getfield 9) 3 5 0 289, xz, xz, xq (.aload_n 0) 1, xqc (.getfield 42) 3 5 9 298, xz, xz, xqv (.iconst 2) 1 2, xq .iadd 1, xqc (.invokevirtual 72) 3 13 2 574, xz, xz, xqv (.bipush 16) 2 16, xz, xqc (.invokestatic 163) 3 207 2 635, xz, xz, xqv (.iconst (-1)) 1 (-1), xqa (.if_icmp .eq 16) 3 113, xz, xz, xq (.aload_n 0) 1, xq (.aload_n 0) 1, xqc (.getfield 42) 3 5 9 298, xz, xz, xqv (.iconst 2) 1 2, xq .iadd 1, xqv (.bipush 16) 2 16, xz, xqc (.invokevirtual 167) 3 111 3 638, xz, xz, xq .ireturn 1, xq (.aload_n 0) 1, xq (.aload_n 0) 1, xqc (.getfield 42) 3 5 9 298, xz, xz, xqv (.bipush 10) 2 10, xz, xqc (.invokevirtual 167) 3 111 3 638, xz, xz, xq .ireturn 1]
-- TermReader$Tokens.addDigits(II)Z
def xc_111 : List (Option xRow) := [xq (.lconst 0) 1, xq (.lstore_n 3) 1, xq (.iload_n 1) 1, xq (.istore 5) 2, xz, xq (.iload_n 1) 1, xq (.istore 6) 2, xz, xq (.iload 6) 2, xz, xq (.aload_n 0) 1, xqc (.getfield 9) 3 5 0 289, xz, xz, xqc (.invokevirtual 63) 3 12 1 575, xz, xz, xqa (.if_icmp .ge 58) 3 75, xz, xz, xq (.aload_n 0) 1, xqc (.getfield 9) 3 5 0 289, xz, xz, xq (.iload 6) 2, xz, xqc (.invokevirtual 72) 3 13 2 574, xz, xz, xq (.iload_n 2) 1, xqc (.invokestatic 163) 3 207 2 635, xz, xz, xq (.istore 7) 2, xz, xq (.iload 7) 2, xz, xqv (.iconst (-1)) 1 (-1), xqa (.if_icmp .ne 6) 3 44, xz, xz, xqa (.goto 34) 3 75, xz, xz, xq (.lload_n 3) 1, xq (.iload_n 2) 1, xq .i2l 1, xq .lmul 1, xq (.iload 7) 2, xz, xq .i2l 1, xq .ladd 1, xq (.lstore_n 3) 1, xq (.lload_n 3) 1, xqk (.ldc2_w 170) 3 0 0 642 2147483647, xz, xz, xq .lcmp 1, xqa (.ifCond .le 5) 3 63, xz, xz, xqv (.iconst 0) 1 0, xq .ireturn 1, xq (.iload 6) 2, xz, xqv (.iconst 1) 1 1, xq .iadd 1, xq (.istore 5) 2, xz, xqv (.iinc 6 1) 3 1, xz, xz, xqa (.goto (-64)) 3 8, xz, xz, xq (.aload_n 0) 1, xqv (.iconst 3) 1 3, xq (.iload 5) 2, xz, xq (.lload_n 3) 1, xq .l2i 1, xqv (.iconst 0) 1 0, xq (.lconst 0) 1, xqc (.invokevirtual 124) 3 100 6 613, xz, xz, xq .ireturn 1]
-- TermReader$Tokens.addString()Z
def xc_112 : List (Option xRow) := [xq (.aload_n 0) 1, xqc (.getfield 42) 3 5 9 298, xz, xz, xqv (.iconst 1) 1 1, xq .iadd 1, xq (.istore_n 1) 1, xq (.iload_n 1) 1, xq (.istore_n 2) 1, xq (.iload_n 2) 1, xq (.aload_n 0) 1, xqc (.getfield 9) 3 5 0 289, xz, xz, xqc (.invokevirtual 63) 3 12 1 575, xz, xz, xqa (.if_icmp .ge 65) 3 82, xz, xz, xq (.aload_n 0) 1, xqc (.getfield 9) 3 5 0 289, xz, xz, xq (.iload_n 2) 1, xqc (.invokevirtual 72) 3 13 2 574, xz, xz, xq (.istore_n 3) 1, xq (.iload_n 3) 1, xqv (.bipush 34) 2 34, xz, xqa (.if_icmp .ne 36) 3 68, xz, xz, xq (.iload_n 2) 1, xq (.iload_n 1) 1, xq .isub 1, xq (.istore 4) 2, xz, xq (.iload 4) 2, xz, xqv (.bipush 12) 2 12, xz, xqa (.if_icmp .gt 22) 3 66, xz, xz, xq (.aload_n 0) 1, xqv (.iconst 4) 1 4, xq (.iload_n 2) 1, xqv (.iconst 1) 1 1, xq .iadd 1, xq (.iload_n 1) 1, xq (.iload 4) 2, xz, xq (.lconst 0) 1, xqc (.invokevirtual 124) 3 100 6 613, xz, xz, xqa (.ifCond .eq 7) 3 66, xz, xz, xqv (.iconst 1) 1 1, xqa (.goto 4) 3 67, xz, xz, xqv (.iconst 0) 1 0, xq .ireturn 1, xq (.iload_n 3) 1, xqv (.bipush 92) 2 92, xz, xqa (.if_icmp .ne 5) 3 76, xz, xz, xqv (.iconst 0) 1 0, xq .ireturn 1, xqv (.iinc 2 1) 3 1, xz, xz, xqa (.goto (-70)) 3 9, xz, xz, xqv (.iconst 0) 1 0, xq .ireturn 1]
-- TermReader$Writer.<init>(LTermReader$CharRow;LTermReader$CharRow;LTermReader$Operators;LTermReader$Parts;)V
def xc_113 : List (Option xRow) := [xq (.aload_n 0) 1, xqc (.invokespecial 3) 3 1000 1 350, xz, xz, xq (.aload_n 0) 1, xq (.aload_n 1) 1, xqc (.putfield 9) 3 6 0 351, xz, xz, xq (.aload_n 0) 1, xq (.aload_n 2) 1, xqc (.putfield 15) 3 6 1 352, xz, xz, xq (.aload_n 0) 1, xq (.aload_n 3) 1, xqc (.putfield 18) 3 6 2 353, xz, xz, xq (.aload_n 0) 1, xq (.aload 4) 2, xz, xqc (.putfield 22) 3 6 3 354, xz, xz, xq .return_ 1]
-- TermReader$Writer.whole(I)V
def xc_114 : List (Option xRow) := [xq (.aload_n 0) 1, xqc (.getfield 9) 3 6 0 351, xz, xz, xqv (.iconst 0) 1 0, xqc (.invokevirtual 26) 3 15 2 911, xz, xz, xq (.aload_n 0) 1, xq (.iload_n 1) 1, xqv (.sipush 1200) 3 1200, xz, xz, xqv (.iconst 1) 1 1, xqc (.invokevirtual 32) 3 115 4 912, xz, xz, xq .return_ 1]
-- TermReader$Writer.part(III)V
def xc_115 : List (Option xRow) := [xq (.iload_n 3) 1, xqv (.bipush 14) 2 14, xz, xqa (.if_icmp .le 4) 3 7, xz, xz, xq .return_ 1, xq (.aload_n 0) 1, xqc (.getfield 22) 3 6 3 354, xz, xz, xq (.iload_n 1) 1, xqc (.invokevirtual 36) 3 60 2 916, xz, xz, xqs (.tableswitch 72 0 2 #[25, 49, 64]) 25 87 [(0, 40), (1, 64), (2, 79)], xz, xz, xz, xz, xz, xz, xz, xz, xz, xz, xz, xz, xz, xz, xz, xz, xz, xz, xz, xz, xz, xz, xz, xz, xq (.aload_n 0) 1, xqc (.getfield 9) 3 6 0 351, xz, xz, xqv (.bipush 95) 2 95, xz, xqc (.invokevirtual 42) 3 14 2 920, xz, xz, xq (.aload_n 0) 1, xq (.aload_n 0) 1, xqc (.getfield 22) 3 6 3 354, xz, xz, xq (.iload_n 1) 1, xqc (.invokevirtual 45) 3 61 2 921, xz, xz, xqc (.invokevirtual 48) 3 125 2 925, xz, xz, xqa (.goto 33) 3 94, xz, xz, xq (.aload_n 0) 1, xq (.aload_n 0) 1, xqc (.getfield 22) 3 6 3 354, xz, xz, xq (.iload_n 1) 1, xqc (.invokevirtual 45) 3 61 2 921, xz, xz, xqc (.invokevirtual 48) 3 125 2 925, xz, xz, xqa (.goto 18) 3 94, xz, xz, xq (.aload_n 0) 1, xq (.iload_n 1) 1, xqc (.invokevirtual 51) 3 126 2 930, xz, xz, xqa (.goto 10) 3 94, xz, xz, xq (.aload_n 0) 1, xq (.iload_n 1) 1, xq (.iload_n 2) 1, xq (.iload_n 3) 1, xqc (.invokevirtual 54) 3 116 4 953, xz, xz, xq .return_ 1]
-- TermReader$Writer.compound(III)V
def xc_116 : List (Option xRow) := [xq (.aload_n 0) 1, xq (.iload_n 1) 1, xqc (.invokevirtual 57) 3 117 2 957, xz, xz, xq (.istore 4) 2, xz, xq (.iload 4) 2, xz, xqv (.iconst (-1)) 1 (-1), xqa (.if_icmp .eq 15) 3 25, xz, xz, xq (.aload_n 0) 1, xq (.iload_n 1) 1, xq (.iload 4) 2, xz, xq (.iload_n 2) 1, xq (.iload_n 3) 1, xqc (.invokevirtual 60) 3 118 5 984, xz, xz, xqa (.goto 84) 3 106, xz, xz, xq (.aload_n 0) 1, xqc (.getfield 22) 3 6 3 354, xz, xz, xq (.iload_n 1) 1, xqc (.invokevirtual 64) 3 72 2 1024, xz, xz, xqa (.ifCond .eq 12) 3 45, xz, xz, xq (.aload_n 0) 1, xq (.iload_n 1) 1, xq (.iload_n 3) 1, xqc (.invokevirtual 68) 3 123 3 1031, xz, xz, xqa (.goto 64) 3 106, xz, xz, xq (.aload_n 0) 1, xqc (.getfield 22) 3 6 3 354, xz, xz, xq (.iload_n 1) 1, xqc (.invokevirtual 72) 3 73 2 1040, xz, xz, xqa (.ifCond .eq 42) 3 95, xz, xz, xq (.aload_n 0) 1, xqc (.getfield 9) 3 6 0 351, xz, xz, xqv (.bipush 123) 2 123, xz, xqc (.invokevirtual 42) 3 14 2 920, xz, xz, xq (.aload_n 0) 1, xq (.aload_n 0) 1, xqc (.getfield 22) 3 6 3 354, xz, xz, xq (.iload_n 1) 1, xqc (.invokevirtual 75) 3 63 2 993, xz, xz, xqv (.sipush 1200) 3 1200, xz, xz, xq (.iload_n 3) 1, xqv (.iconst 1) 1 1, xq .iadd 1, xqc (.invokevirtual 32) 3 115 4 912, xz, xz, xq (.aload_n 0) 1, xqc (.getfield 9) 3 6 0 351, xz, xz, xqv (.bipush 125) 2 125, xz, xqc (.invokevirtual 42) 3 14 2 920, xz, xz, xqa (.goto 14) 3 106, xz, xz, xq (.aload_n 0) 1, xq (.iload_n 1) 1, xqc (.invokevirtual 51) 3 126 2 930, xz, xz, xq (.aload_n 0) 1, xq (.iload_n 1) 1, xq (.iload_n 3) 1, xqc (.invokevirtual 78) 3 124 3 1045, xz, xz, xq .return_ 1]
-- TermReader$Writer.slotOf(I)I
def xc_117 : List (Option xRow) := [xq (.aload_n 0) 1, xqc (.getfield 22) 3 6 3 354, xz, xz, xq (.iload_n 1) 1, xqc (.invokevirtual 36) 3 60 2 916, xz, xz, xqv (.iconst 3) 1 3, xqa (.if_icmp .eq 5) 3 14, xz, xz, xqv (.iconst (-1)) 1 (-1), xq .ireturn 1, xq (.aload_n 0) 1, xqc (.getfield 22) 3 6 3 354, xz, xz, xq (.iload_n 1) 1, xqc (.invokevirtual 81) 3 70 2 961, xz, xz, xq (.istore_n 2) 1, xq (.aload_n 0) 1, xqc (.getfield 22) 3 6 3 354, xz, xz, xq (.iload_n 1) 1, xqc (.invokevirtual 84) 3 69 2 969, xz, xz, xq (.lstore_n 3) 1, xq (.aload_n 0) 1, xqc (.getfield 18) 3 6 2 353, xz, xz, xq (.lload_n 3) 1, xqc (.invokevirtual 88) 3 23 2 977, xz, xz, xq (.istore 5) 2, xz, xq (.iload_n 2) 1, xqv (.iconst 1) 1 1, xqa (.if_icmp .ne 12) 3 56, xz, xz, xq (.iload 5) 2, xz, xqv (.iconst (-1)) 1 (-1), xqa (.if_icmp .eq 6) 3 56, xz, xz, xq (.iload 5) 2, xz, xq .ireturn 1, xq (.aload_n 0) 1, xqc (.getfield 18) 3 6 2 353, xz, xz, xq (.lload_n 3) 1, xqc (.invokevirtual 94) 3 24 2 978, xz, xz, xq (.istore 6) 2, xz, xq (.iload_n 2) 1, xqv (.iconst 1) 1 1, xqa (.if_icmp .ne 15) 3 83, xz, xz, xq (.aload_n 0) 1, xqc (.getfield 18) 3 6 2 353, xz, xz, xq (.iload 6) 2, xz, xqc (.invokevirtual 97) 3 32 2 979, xz, xz, xqa (.ifCond .ne 20) 3 100, xz, xz, xq (.iload_n 2) 1, xqv (.iconst 2) 1 2, xqa (.if_icmp .ne 19) 3 104, xz, xz, xq (.aload_n 0) 1, xqc (.getfield 18) 3 6 2 353, xz, xz, xq (.iload 6) 2, xz, xqc (.invokevirtual 100) 3 33 2 983, xz, xz, xqa (.ifCond .eq 7) 3 104, xz, xz, xqv (.iconst 1) 1 1, xqa (.goto 4) 3 105, xz, xz, xqv (.iconst 0) 1 0, xq (.istore 7) 2, xz, xq (.iload 7) 2, xz, xqa (.ifCond .eq 8) 3 117, xz, xz, xq (.iload 6) 2, xz, xqa (.goto 4) 3 118, xz, xz, xqv (.iconst (-1)) 1 (-1), xq .ireturn 1]
-- TermReader$Writer.bracketed(IIII)V
def xc_118 : List (Option xRow) := [xq (.aload_n 0) 1, xqc (.getfield 18) 3 6 2 353, xz, xz, xq (.iload_n 2) 1, xqc (.invokevirtual 103) 3 29 2 988, xz, xz, xq (.iload_n 3) 1, xqa (.if_icmp .le 7) 3 16, xz, xz, xqv (.iconst 1) 1 1, xqa (.goto 4) 3 17, xz, xz, xqv (.iconst 0) 1 0, xq (.istore 5) 2, xz, xq (.iload 5) 2, xz, xqa (.ifCond .eq 12) 3 33, xz, xz, xq (.aload_n 0) 1, xqc (.getfield 9) 3 6 0 351, xz, xz, xqv (.bipush 40) 2 40, xz, xqc (.invokevirtual 42) 3 14 2 920, xz, xz, xq (.aload_n 0) 1, xq (.iload_n 1) 1, xq (.iload_n 2) 1, xq (.iload 4) 2, xz, xqc (.invokevirtual 106) 3 119 4 989, xz, xz, xq (.iload 5) 2, xz, xqa (.ifCond .eq 12) 3 55, xz, xz, xq (.aload_n 0) 1, xqc (.getfield 9) 3 6 0 351, xz, xz, xqv (.bipush 41) 2 41, xz, xqc (.invokevirtual 42) 3 14 2 920, xz, xz, xq .return_ 1]
-- TermReader$Writer.operated(III)V
def xc_119 : List (Option xRow) := [xq (.aload_n 0) 1, xqc (.getfield 22) 3 6 3 354, xz, xz, xq (.iload_n 1) 1, xqc (.invokevirtual 75) 3 63 2 993, xz, xz, xq (.istore 4) 2, xz, xq (.aload_n 0) 1, xqc (.getfield 18) 3 6 2 353, xz, xz, xq (.iload_n 2) 1, xqc (.invokevirtual 109) 3 31 2 994, xz, xz, xqa (.ifCond .eq 35) 3 53, xz, xz, xq (.aload_n 0) 1, xq (.iload_n 1) 1, xqc (.invokevirtual 51) 3 126 2 930, xz, xz, xq (.aload_n 0) 1, xqc (.getfield 9) 3 6 0 351, xz, xz, xqv (.bipush 32) 2 32, xz, xqc (.invokevirtual 42) 3 14 2 920, xz, xz, xq (.aload_n 0) 1, xq (.iload 4) 2, xz, xq (.aload_n 0) 1, xqc (.getfield 18) 3 6 2 353, xz, xz, xq (.iload_n 2) 1, xqc (.invokevirtual 112) 3 36 2 998, xz, xz, xq (.iload_n 3) 1, xqv (.iconst 1) 1 1, xq .iadd 1, xqc (.invokevirtual 115) 3 122 4 999, xz, xz, xq .return_ 1, xq (.aload_n 0) 1, xq (.iload 4) 2, xz, xq (.aload_n 0) 1, xq (.iload 4) 2, xz, xq (.iload_n 2) 1, xqc (.invokevirtual 118) 3 121 3 1009, xz, xz, xq (.iload_n 3) 1, xqv (.iconst 1) 1 1, xq .iadd 1, xqc (.invokevirtual 115) 3 122 4 999, xz, xz, xq (.aload_n 0) 1, xqc (.getfield 18) 3 6 2 353, xz, xz, xq (.iload_n 2) 1, xqc (.invokevirtual 97) 3 32 2 979, xz, xz, xqa (.ifCond .eq 18) 3 95, xz, xz, xq (.aload_n 0) 1, xqc (.getfield 9) 3 6 0 351, xz, xz, xqv (.bipush 32) 2 32, xz, xqc (.invokevirtual 42) 3 14 2 920, xz, xz, xq (.aload_n 0) 1, xq (.iload_n 1) 1, xqc (.invokevirtual 51) 3 126 2 930, xz, xz, xq .return_ 1, xq (.aload_n 0) 1, xq (.iload_n 1) 1, xqc (.invokevirtual 122) 3 120 2 1015, xz, xz, xq (.aload_n 0) 1, xq (.aload_n 0) 1, xqc (.getfield 22) 3 6 3 354, xz, xz, xq (.iload_n 1) 1, xqc (.invokevirtual 125) 3 65 2 1020, xz, xz, xq (.aload_n 0) 1, xqc (.getfield 18) 3 6 2 353, xz, xz, xq (.iload_n 2) 1, xqc (.invokevirtual 112) 3 36 2 998, xz, xz, xq (.iload_n 3) 1, xqv (.iconst 1) 1 1, xq .iadd 1, xqc (.invokevirtual 115) 3 122 4 999, xz, xz, xq .return_ 1]
-- TermReader$Writer.infixName(I)V
def xc_120 : List (Option xRow) := [xq (.aload_n 0) 1, xqc (.getfield 22) 3 6 3 354, xz, xz, xq (.iload_n 1) 1, xqc (.invokevirtual 84) 3 69 2 969, xz, xz, xqk (.ldc2_w 128) 3 0 0 1019 44, xz, xz, xq .lcmp 1, xqa (.ifCond .ne 13) 3 25, xz, xz, xq (.aload_n 0) 1, xqc (.getfield 9) 3 6 0 351, xz, xz, xqv (.bipush 44) 2 44, xz, xqc (.invokevirtual 42) 3 14 2 920, xz, xz, xq .return_ 1, xq (.aload_n 0) 1, xqc (.getfield 9) 3 6 0 351, xz, xz, xqv (.bipush 32) 2 32, xz, xqc (.invokevirtual 42) 3 14 2 920, xz, xz, xq (.aload_n 0) 1, xq (.iload_n 1) 1, xqc (.invokevirtual 51) 3 126 2 930, xz, xz, xq (.aload_n 0) 1, xqc (.getfield 9) 3 6 0 351, xz, xz, xqv (.bipush 32) 2 32, xz, xqc (.invokevirtual 42) 3 14 2 920, xz, xz, xq .return_ 1]
-- TermReader$Writer.leftMost(II)I
def xc_121 : List (Option xRow) := [xq (.aload_n 0) 1, xqc (.getfield 18) 3 6 2 353, xz, xz, xq (.aload_n 0) 1, xq (.iload_n 1) 1, xqc (.invokevirtual 57) 3 117 2 957, xz, xz, xqc (.invokevirtual 130) 3 34 2 1013, xz, xz, xqa (.ifCond .eq 16) 3 28, xz, xz, xq (.aload_n 0) 1, xqc (.getfield 18) 3 6 2 353, xz, xz, xq (.iload_n 2) 1, xqc (.invokevirtual 103) 3 29 2 988, xz, xz, xqv (.iconst 1) 1 1, xq .isub 1, xqa (.goto 11) 3 36, xz, xz, xq (.aload_n 0) 1, xqc (.getfield 18) 3 6 2 353, xz, xz, xq (.iload_n 2) 1, xqc (.invokevirtual 133) 3 35 2 1014, xz, xz, xq .ireturn 1]
-- TermReader$Writer.operand(III)V
def xc_122 : List (Option xRow) := [xq (.aload_n 0) 1, xqc (.getfield 22) 3 6 3 354, xz, xz, xq (.iload_n 1) 1, xqc (.invokevirtual 36) 3 60 2 916, xz, xz, xqv (.iconst 2) 1 2, xqa (.if_icmp .ne 25) 3 34, xz, xz, xq (.aload_n 0) 1, xqc (.getfield 18) 3 6 2 353, xz, xz, xq (.aload_n 0) 1, xqc (.getfield 22) 3 6 3 354, xz, xz, xq (.iload_n 1) 1, xqc (.invokevirtual 84) 3 69 2 969, xz, xz, xqc (.invokevirtual 135) 3 25 2 1003, xz, xz, xqa (.ifCond .eq 7) 3 34, xz, xz, xqv (.iconst 1) 1 1, xqa (.goto 4) 3 35, xz, xz, xqv (.iconst 0) 1 0, xq (.istore 4) 2, xz, xq (.iload 4) 2, xz, xqa (.ifCond .eq 12) 3 51, xz, xz, xq (.aload_n 0) 1, xqc (.getfield 9) 3 6 0 351, xz, xz, xqv (.bipush 40) 2 40, xz, xqc (.invokevirtual 42) 3 14 2 920, xz, xz, xq (.aload_n 0) 1, xq (.iload_n 1) 1, xq (.iload_n 2) 1, xq (.iload_n 3) 1, xqc (.invokevirtual 32) 3 115 4 912, xz, xz, xq (.iload 4) 2, xz, xqa (.ifCond .eq 12) 3 72, xz, xz, xq (.aload_n 0) 1, xqc (.getfield 9) 3 6 0 351, xz, xz, xqv (.bipush 41) 2 41, xz, xqc (.invokevirtual 42) 3 14 2 920, xz, xz, xq .return_ 1]
-- TermReader$Writer.list(II)V
def xc_123 : List (Option xRow) := [xq (.aload_n 0) 1, xqc (.getfield 9) 3 6 0 351, xz, xz, xqv (.bipush 91) 2 91, xz, xqc (.invokevirtual 42) 3 14 2 920, xz, xz, xq (.aload_n 0) 1, xq (.aload_n 0) 1, xqc (.getfield 22) 3 6 3 354, xz, xz, xq (.iload_n 1) 1, xqc (.invokevirtual 75) 3 63 2 993, xz, xz, xqv (.sipush 999) 3 999, xz, xz, xq (.iload_n 2) 1, xqv (.iconst 1) 1 1, xq .iadd 1, xqc (.invokevirtual 32) 3 115 4 912, xz, xz, xq (.aload_n 0) 1, xqc (.getfield 22) 3 6 3 354, xz, xz, xq (.iload_n 1) 1, xqc (.invokevirtual 125) 3 65 2 1020, xz, xz, xq (.istore_n 3) 1, xq (.iload_n 2) 1, xqv (.iconst 1) 1 1, xq .iadd 1, xq (.istore 4) 2, xz, xqv (.iconst 0) 1 0, xq (.istore 5) 2, xz, xq (.iload 5) 2, xz, xqv (.bipush 14) 2 14, xz, xqa (.if_icmp .ge 58) 3 106, xz, xz, xq (.aload_n 0) 1, xqc (.getfield 22) 3 6 3 354, xz, xz, xq (.iload_n 3) 1, xqc (.invokevirtual 64) 3 72 2 1024, xz, xz, xqa (.ifCond .eq 47) 3 106, xz, xz, xqv (.iinc 4 1) 3 1, xz, xz, xq (.aload_n 0) 1, xqc (.getfield 9) 3 6 0 351, xz, xz, xqv (.bipush 44) 2 44, xz, xqc (.invokevirtual 42) 3 14 2 920, xz, xz, xq (.aload_n 0) 1, xq (.aload_n 0) 1, xqc (.getfield 22) 3 6 3 354, xz, xz, xq (.iload_n 3) 1, xqc (.invokevirtual 75) 3 63 2 993, xz, xz, xqv (.sipush 999) 3 999, xz, xz, xq (.iload 4) 2, xz, xqc (.invokevirtual 32) 3 115 4 912, xz, xz, xq (.aload_n 0) 1, xqc (.getfield 22) 3 6 3 354, xz, xz, xq (.iload_n 3) 1, xqc (.invokevirtual 125) 3 65 2 1020, xz, xz, xq (.istore_n 3) 1, xqv (.iinc 5 1) 3 1, xz, xz, xqa (.goto (-59)) 3 44, xz, xz, xq (.aload_n 0) 1, xqc (.getfield 22) 3 6 3 354, xz, xz, xq (.iload_n 3) 1, xqc (.invokevirtual 139) 3 71 2 1035, xz, xz, xqa (.ifCond .ne 22) 3 136, xz, xz, xq (.aload_n 0) 1, xqc (.getfield 9) 3 6 0 351, xz, xz, xqv (.bipush 124) 2 124, xz, xqc (.invokevirtual 42) 3 14 2 920, xz, xz, xq (.aload_n 0) 1, xq (.iload_n 3) 1, xqv (.sipush 999) 3 999, xz, xz, xq (.iload 4) 2, xz, xqc (.invokevirtual 32) 3 115 4 912, xz, xz, xq (.aload_n 0) 1, xqc (.getfield 9) 3 6 0 351, xz, xz, xqv (.bipush 93) 2 93, xz, xqc (.invokevirtual 42) 3 14 2 920, xz, xz, xq .return_ 1]
-- TermReader$Writer.arguments(II)V
def xc_124 : List (Option xRow) := [xq (.aload_n 0) 1, xqc (.getfield 22) 3 6 3 354, xz, xz, xq (.iload_n 1) 1, xqc (.invokevirtual 75) 3 63 2 993, xz, xz, xq (.istore_n 3) 1, xqv (.iconst 0) 1 0, xq (.istore 4) 2, xz, xq (.iload 4) 2, xz, xqv (.bipush 6) 2 6, xz, xqa (.if_icmp .ge 53) 3 69, xz, xz, xq (.iload_n 3) 1, xqv (.iconst (-1)) 1 (-1), xqa (.if_icmp .eq 48) 3 69, xz, xz, xq (.aload_n 0) 1, xqc (.getfield 9) 3 6 0 351, xz, xz, xq (.iload 4) 2, xz, xqa (.ifCond .ne 8) 3 38, xz, xz, xqv (.bipush 40) 2 40, xz, xqa (.goto 5) 3 40, xz, xz, xqv (.bipush 44) 2 44, xz, xqc (.invokevirtual 42) 3 14 2 920, xz, xz, xq (.aload_n 0) 1, xq (.iload_n 3) 1, xqv (.sipush 999) 3 999, xz, xz, xq (.iload_n 2) 1, xqv (.iconst 1) 1 1, xq .iadd 1, xqc (.invokevirtual 32) 3 115 4 912, xz, xz, xq (.aload_n 0) 1, xqc (.getfield 22) 3 6 3 354, xz, xz, xq (.iload_n 3) 1, xqc (.invokevirtual 142) 3 64 2 1049, xz, xz, xq (.istore_n 3) 1, xqv (.iinc 4 1) 3 1, xz, xz, xqa (.goto (-54)) 3 12, xz, xz, xq (.aload_n 0) 1, xqc (.getfield 9) 3 6 0 351, xz, xz, xqv (.bipush 41) 2 41, xz, xqc (.invokevirtual 42) 3 14 2 920, xz, xz, xq .return_ 1]
-- TermReader$Writer.integer(I)V
def xc_125 : List (Option xRow) := [xq (.iload_n 1) 1, xq .i2l 1, xq (.lstore_n 2) 1, xq (.lload_n 2) 1, xq (.lconst 0) 1, xq .lcmp 1, xqa (.ifCond .ge 15) 3 21, xz, xz, xq (.aload_n 0) 1, xqc (.getfield 9) 3 6 0 351, xz, xz, xqv (.bipush 45) 2 45, xz, xqc (.invokevirtual 42) 3 14 2 920, xz, xz, xq (.lload_n 2) 1, xq .lneg 1, xq (.lstore_n 2) 1, xq (.lconst 1) 1, xq (.lstore 4) 2, xz, xqv (.iconst 0) 1 0, xq (.istore 6) 2, xz, xq (.iload 6) 2, xz, xqv (.bipush 10) 2 10, xz, xqa (.if_icmp .ge 28) 3 59, xz, xz, xq (.lload 4) 2, xz, xqk (.ldc2_w 145) 3 0 0 929 10, xz, xz, xq .lmul 1, xq (.lload_n 2) 1, xq .lcmp 1, xqa (.ifCond .gt 17) 3 59, xz, xz, xq (.lload 4) 2, xz, xqk (.ldc2_w 145) 3 0 0 929 10, xz, xz, xq .lmul 1, xq (.lstore 4) 2, xz, xqv (.iinc 6 1) 3 1, xz, xz, xqa (.goto (-29)) 3 27, xz, xz, xqv (.iconst 0) 1 0, xq (.istore 6) 2, xz, xq (.iload 6) 2, xz, xqv (.bipush 11) 2 11, xz, xqa (.if_icmp .ge 43) 3 109, xz, xz, xq (.lload 4) 2, xz, xq (.lconst 0) 1, xq .lcmp 1, xqa (.ifCond .le 36) 3 109, xz, xz, xq (.aload_n 0) 1, xqc (.getfield 9) 3 6 0 351, xz, xz, xqv (.bipush 48) 2 48, xz, xq (.lload_n 2) 1, xq (.lload 4) 2, xz, xq .ldiv 1, xqk (.ldc2_w 145) 3 0 0 929 10, xz, xz, xq .lrem 1, xq .l2i 1, xq .iadd 1, xqc (.invokevirtual 42) 3 14 2 920, xz, xz, xq (.lload 4) 2, xz, xqk (.ldc2_w 145) 3 0 0 929 10, xz, xz, xq .ldiv 1, xq (.lstore 4) 2, xz, xqv (.iinc 6 1) 3 1, xz, xz, xqa (.goto (-44)) 3 62, xz, xz, xq .return_ 1]
-- TermReader$Writer.name(I)V
def xc_126 : List (Option xRow) := [xq (.aload_n 0) 1, xqc (.getfield 22) 3 6 3 354, xz, xz, xq (.iload_n 1) 1, xqc (.invokevirtual 45) 3 61 2 921, xz, xz, xq (.istore_n 2) 1, xq (.aload_n 0) 1, xqc (.getfield 22) 3 6 3 354, xz, xz, xq (.iload_n 1) 1, xqc (.invokevirtual 147) 3 62 2 934, xz, xz, xq (.istore_n 3) 1, xq (.aload_n 0) 1, xq (.iload_n 2) 1, xq (.iload_n 3) 1, xqc (.invokevirtual 150) 3 128 3 938, xz, xz, xqa (.ifCond .ne 7) 3 31, xz, xz, xqv (.iconst 1) 1 1, xqa (.goto 4) 3 32, xz, xz, xqv (.iconst 0) 1 0, xq (.istore 4) 2, xz, xq (.iload 4) 2, xz, xqa (.ifCond .eq 12) 3 48, xz, xz, xq (.aload_n 0) 1, xqc (.getfield 9) 3 6 0 351, xz, xz, xqv (.bipush 39) 2 39, xz, xqc (.invokevirtual 42) 3 14 2 920, xz, xz, xqv (.iconst 0) 1 0, xq (.istore 5) 2, xz, xq (.iload 5) 2, xz, xq (.iload_n 3) 1, xqa (.if_icmp .ge 73) 3 127, xz, xz, xq (.aload_n 0) 1, xqc (.getfield 15) 3 6 1 352, xz, xz, xq (.iload_n 2) 1, xq (.iload 5) 2, xz, xq .iadd 1, xqc (.invokevirtual 154) 3 13 2 942, xz, xz, xq (.istore 6) 2, xz, xq (.iload 4) 2, xz, xqa (.ifCond .eq 11) 3 83, xz, xz, xq (.iload 6) 2, xz, xqc (.invokestatic 157) 3 127 1 950, xz, xz, xqa (.goto 4) 3 84, xz, xz, xqv (.iconst (-1)) 1 (-1), xq (.istore 7) 2, xz, xq (.iload 7) 2, xz, xqv (.iconst (-1)) 1 (-1), xqa (.if_icmp .eq 12) 3 101, xz, xz, xq (.aload_n 0) 1, xqc (.getfield 9) 3 6 0 351, xz, xz, xqv (.bipush 92) 2 92, xz, xqc (.invokevirtual 42) 3 14 2 920, xz, xz, xq (.aload_n 0) 1, xqc (.getfield 9) 3 6 0 351, xz, xz, xq (.iload 7) 2, xz, xqv (.iconst (-1)) 1 (-1), xqa (.if_icmp .eq 8) 3 116, xz, xz, xq (.iload 7) 2, xz, xqa (.goto 5) 3 118, xz, xz, xq (.iload 6) 2, xz, xqc (.invokevirtual 42) 3 14 2 920, xz, xz, xqv (.iinc 5 1) 3 1, xz, xz, xqa (.goto (-73)) 3 51, xz, xz, xq (.iload 4) 2, xz, xqa (.ifCond .eq 12) 3 141, xz, xz, xq (.aload_n 0) 1, xqc (.getfield 9) 3 6 0 351, xz, xz, xqv (.bipush 39) 2 39, xz, xqc (.invokevirtual 42) 3 14 2 920, xz, xz, xq .return_ 1]
-- TermReader$Writer.escapeOf(I)I
def xc_127 : List (Option xRow) := [xq (.iload_n 0) 1, xqs (.lookupswitch 51 #[(9, 46), (10, 43), (39, 49), (92, 49)]) 43 52 [(9, 47), (10, 44), (39, 50), (92, 50)], xz, xz, xz, xz, xz, xz, xz, xz, xz, xz, xz, xz, xz, xz, xz, xz, xz, xz, xz, xz, xz, xz, xz, xz, xz, xz, xz, xz, xz, xz, xz, xz, xz, xz, xz, xz, xz, xz, xz, xz, xz, xz, xqv (.bipush 110) 2 110, xz, xq .ireturn 1, xqv (.bipush 116) 2 116, xz, xq .ireturn 1, xq (.iload_n 0) 1, xq .ireturn 1, xqv (.iconst (-1)) 1 (-1), xq .ireturn 1]
-- TermReader$Writer.isPlain(II)Z
def xc_128 : List (Option xRow) := [xq (.iload_n 2) 1, xqa (.ifCond .le 14) 3 15, xz, xz, xq (.aload_n 0) 1, xqc (.getfield 15) 3 6 1 352, xz, xz, xq (.iload_n 1) 1, xqc (.invokevirtual 154) 3 13 2 942, xz, xz, xqa (.goto 4) 3 16, xz, xz, xqv (.iconst (-1)) 1 (-1), xq (.istore_n 3) 1, xq (.iload_n 2) 1, xqv (.iconst 1) 1 1, xqa (.if_icmp .le 16) 3 35, xz, xz, xq (.aload_n 0) 1, xqc (.getfield 15) 3 6 1 352, xz, xz, xq (.iload_n 1) 1, xqv (.iconst 1) 1 1, xq .iadd 1, xqc (.invokevirtual 154) 3 13 2 942, xz, xz, xqa (.goto 4) 3 36, xz, xz, xqv (.iconst (-1)) 1 (-1), xq (.istore 4) 2, xz, xq (.iload_n 2) 1, xqv (.iconst 1) 1 1, xqa (.if_icmp .ne 17) 3 57, xz, xz, xq (.iload_n 3) 1, xqv (.bipush 33) 2 33, xz, xqa (.if_icmp .eq 9) 3 55, xz, xz, xq (.iload_n 3) 1, xqv (.bipush 59) 2 59, xz, xqa (.if_icmp .ne 5) 3 57, xz, xz, xqv (.iconst 1) 1 1, xq .ireturn 1, xq (.iload_n 2) 1, xqv (.iconst 2) 1 2, xqa (.if_icmp .ne 31) 3 90, xz, xz, xq (.iload_n 3) 1, xqv (.bipush 91) 2 91, xz, xqa (.if_icmp .ne 10) 3 75, xz, xz, xq (.iload 4) 2, xz, xqv (.bipush 93) 2 93, xz, xqa (.if_icmp .eq 16) 3 88, xz, xz, xq (.iload_n 3) 1, xqv (.bipush 123) 2 123, xz, xqa (.if_icmp .ne 12) 3 90, xz, xz, xq (.iload 4) 2, xz, xqv (.bipush 125) 2 125, xz, xqa (.if_icmp .ne 5) 3 90, xz, xz, xqv (.iconst 1) 1 1, xq .ireturn 1, xq (.iload_n 3) 1, xqc (.invokestatic 160) 3 201 1 943, xz, xz, xqa (.ifCond .eq 11) 3 105, xz, xz, xq (.aload_n 0) 1, xq (.iload_n 1) 1, xq (.iload_n 2) 1, xqv (.iconst 0) 1 0, xqc (.invokevirtual 165) 3 129 4 944, xz, xz, xq .ireturn 1, xq (.iload_n 2) 1, xqv (.iconst 1) 1 1, xqa (.if_icmp .ne 9) 3 116, xz, xz, xq (.iload_n 3) 1, xqv (.bipush 46) 2 46, xz, xqa (.if_icmp .eq 16) 3 129, xz, xz, xq (.iload_n 3) 1, xqv (.bipush 47) 2 47, xz, xqa (.if_icmp .ne 14) 3 133, xz, xz, xq (.iload 4) 2, xz, xqv (.bipush 42) 2 42, xz, xqa (.if_icmp .ne 7) 3 133, xz, xz, xqv (.iconst 1) 1 1, xqa (.goto 4) 3 134, xz, xz, xqv (.iconst 0) 1 0, xq (.istore 5) 2, xz, xq (.iload_n 2) 1, xqa (.ifCond .le 22) 3 159, xz, xz, xq (.iload 5) 2, xz, xqa (.ifCond .ne 17) 3 159, xz, xz, xq (.aload_n 0) 1, xq (.iload_n 1) 1, xq (.iload_n 2) 1, xqv (.iconst 1) 1 1, xqc (.invokevirtual 165) 3 129 4 944, xz, xz, xqa (.ifCond .eq 7) 3 159, xz, xz, xqv (.iconst 1) 1 1, xqa (.goto 4) 3 160, xz, xz, xqv (.iconst 0) 1 0, xq .ireturn 1]
-- TermReader$Writer.isRow(IIZ)Z
def xc_129 : List (Option xRow) := [xqv (.iconst 0) 1 0, xq (.istore 4) 2, xz, xq (.iload 4) 2, xz, xq (.iload_n 2) 1, xqa (.if_icmp .ge 47) 3 53, xz, xz, xq (.aload_n 0) 1, xqc (.getfield 15) 3 6 1 352, xz, xz, xq (.iload_n 1) 1, xq (.iload 4) 2, xz, xq .iadd 1, xqc (.invokevirtual 154) 3 13 2 942, xz, xz, xq (.istore 5) 2, xz, xq (.iload_n 3) 1, xqa (.ifCond .eq 14) 3 37, xz, xz, xq (.iload 5) 2, xz, xqc (.invokestatic 169) 3 205 1 948, xz, xz, xqa (.ifCond .ne 16) 3 47, xz, xz, xqa (.goto 11) 3 45, xz, xz, xq (.iload 5) 2, xz, xqc (.invokestatic 172) 3 204 1 949, xz, xz, xqa (.ifCond .ne 5) 3 47, xz, xz, xqv (.iconst 0) 1 0, xq .ireturn 1, xqv (.iinc 4 1) 3 1, xz, xz, xqa (.goto (-47)) 3 3, xz, xz, xqv (.iconst 1) 1 1, xq .ireturn 1]
-- TermReaderModel.<init>()V
def xc_130 : List (Option xRow) := [xq (.aload_n 0) 1, xqc (.invokespecial 1) 3 1000 1 1102, xz, xz, xq (.aload_n 0) 1, xqv (.bipush 120) 2 120, xz, xqc (.newarray .int) 2 0 0 246, xz, xqc (.putfield 7) 3 7 2 1116, xz, xz, xq (.aload_n 0) 1, xqv (.bipush 64) 2 64, xz, xqc (.newarray .long) 2 0 0 245, xz, xqc (.putfield 13) 3 7 4 1118, xz, xz, xq (.aload_n 0) 1, xqv (.bipush 64) 2 64, xz, xqc (.newarray .int) 2 0 0 246, xz, xqc (.putfield 17) 3 7 5 1119, xz, xz, xq (.aload_n 0) 1, xqv (.bipush 64) 2 64, xz, xqc (.newarray .int) 2 0 0 246, xz, xqc (.putfield 20) 3 7 6 1120, xz, xz, xq (.aload_n 0) 1, xqv (.bipush 64) 2 64, xz, xqc (.newarray .int) 2 0 0 246, xz, xqc (.putfield 23) 3 7 7 1121, xz, xz, xq (.aload_n 0) 1, xqv (.bipush 64) 2 64, xz, xqc (.newarray .int) 2 0 0 246, xz, xqc (.putfield 26) 3 7 8 1122, xz, xz, xq (.aload_n 0) 1, xqv (.sipush 1500) 3 1500, xz, xz, xqc (.newarray .int) 2 0 0 246, xz, xqc (.putfield 29) 3 7 10 1124, xz, xz, xq (.aload_n 0) 1, xqv (.sipush 1500) 3 1500, xz, xz, xqc (.newarray .int) 2 0 0 246, xz, xqc (.putfield 32) 3 7 11 1125, xz, xz, xq (.aload_n 0) 1, xqv (.sipush 4600) 3 4600, xz, xz, xqc (.newarray .int) 2 0 0 246, xz, xqc (.putfield 35) 3 7 13 1127, xz, xz, xq (.aload_n 0) 1, xqv (.bipush 41) 2 41, xz, xqc (.newarray .int) 2 0 0 246, xz, xqc (.putfield 38) 3 7 15 1129, xz, xz, xq (.aload_n 0) 1, xqv (.sipush 1000) 3 1000, xz, xz, xqc (.newarray .int) 2 0 0 246, xz, xqc (.putfield 41) 3 7 17 1131, xz, xz, xq (.aload_n 0) 1, xqv (.sipush 1000) 3 1000, xz, xz, xqc (.newarray .int) 2 0 0 246, xz, xqc (.putfield 44) 3 7 18 1132, xz, xz, xq (.aload_n 0) 1, xqv (.sipush 1000) 3 1000, xz, xz, xqc (.newarray .int) 2 0 0 246, xz, xqc (.putfield 47) 3 7 19 1133, xz, xz, xq (.aload_n 0) 1, xqv (.sipush 130) 3 130, xz, xz, xqc (.newarray .int) 2 0 0 246, xz, xqc (.putfield 50) 3 7 26 1140, xz, xz, xq (.aload_n 0) 1, xqv (.bipush 32) 2 32, xz, xqc (.newarray .int) 2 0 0 246, xz, xqc (.putfield 53) 3 7 30 1144, xz, xz, xq (.aload_n 0) 1, xqv (.bipush 32) 2 32, xz, xqc (.newarray .int) 2 0 0 246, xz, xqc (.putfield 56) 3 7 31 1145, xz, xz, xq (.aload_n 0) 1, xqv (.bipush 32) 2 32, xz, xqc (.newarray .int) 2 0 0 246, xz, xqc (.putfield 59) 3 7 32 1146, xz, xz, xq (.aload_n 0) 1, xqv (.bipush 32) 2 32, xz, xqc (.newarray .int) 2 0 0 246, xz, xqc (.putfield 62) 3 7 33 1147, xz, xz, xq (.aload_n 0) 1, xqv (.bipush 32) 2 32, xz, xqc (.newarray .int) 2 0 0 246, xz, xqc (.putfield 65) 3 7 34 1148, xz, xz, xq (.aload_n 0) 1, xqv (.sipush 130) 3 130, xz, xz, xqc (.newarray .int) 2 0 0 246, xz, xqc (.putfield 68) 3 7 36 1150, xz, xz, xq (.aload_n 0) 1, xqv (.sipush 900) 3 900, xz, xz, xqc (.newarray .int) 2 0 0 246, xz, xqc (.putfield 71) 3 7 38 1152, xz, xz, xq (.aload_n 0) 1, xqv (.sipush 900) 3 900, xz, xz, xqc (.newarray .int) 2 0 0 246, xz, xqc (.putfield 74) 3 7 39 1153, xz, xz, xq (.aload_n 0) 1, xqv (.sipush 2600) 3 2600, xz, xz, xqc (.newarray .int) 2 0 0 246, xz, xqc (.putfield 77) 3 7 41 1155, xz, xz, xq (.aload_n 0) 1, xqv (.sipush 2600) 3 2600, xz, xz, xqc (.newarray .int) 2 0 0 246, xz, xqc (.putfield 80) 3 7 43 1157, xz, xz, xq (.aload_n 0) 1, xqv (.bipush 58) 2 58, xz, xqv (.bipush 45) 2 45, xz, xqv (.iconst 0) 1 0, xqc (.invokestatic 83) 3 133 3 1103, xz, xz, xqv (.sipush 1200) 3 1200, xz, xz, xqv (.iconst 0) 1 0, xqc (.invokevirtual 87) 3 135 4 1106, xz, xz, xq (.aload_n 0) 1, xqv (.bipush 58) 2 58, xz, xqv (.bipush 45) 2 45, xz, xqv (.iconst 0) 1 0, xqc (.invokestatic 83) 3 133 3 1103, xz, xz, xqv (.sipush 1200) 3 1200, xz, xz, xqv (.iconst 4) 1 4, xqc (.invokevirtual 87) 3 135 4 1106, xz, xz, xq (.aload_n 0) 1, xqv (.bipush 59) 2 59, xz, xqv (.iconst 0) 1 0, xqv (.iconst 0) 1 0, xqc (.invokestatic 83) 3 133 3 1103, xz, xz, xqv (.sipush 1100) 3 1100, xz, xz, xqv (.iconst 1) 1 1, xqc (.invokevirtual 87) 3 135 4 1106, xz, xz, xq (.aload_n 0) 1, xqv (.bipush 45) 2 45, xz, xqv (.bipush 62) 2 62, xz, xqv (.iconst 0) 1 0, xqc (.invokestatic 83) 3 133 3 1103, xz, xz, xqv (.sipush 1050) 3 1050, xz, xz, xqv (.iconst 1) 1 1, xqc (.invokevirtual 87) 3 135 4 1106, xz, xz, xq (.aload_n 0) 1, xqv (.bipush 92) 2 92, xz, xqv (.bipush 43) 2 43, xz, xqv (.iconst 0) 1 0, xqc (.invokestatic 83) 3 133 3 1103, xz, xz, xqv (.sipush 900) 3 900, xz, xz, xqv (.iconst 3) 1 3, xqc (.invokevirtual 87) 3 135 4 1106, xz, xz, xq (.aload_n 0) 1, xqv (.bipush 61) 2 61, xz, xqv (.iconst 0) 1 0, xqv (.iconst 0) 1 0, xqc (.invokestatic 83) 3 133 3 1103, xz, xz, xqv (.sipush 700) 3 700, xz, xz, xqv (.iconst 0) 1 0, xqc (.invokevirtual 87) 3 135 4 1106, xz, xz, xq (.aload_n 0) 1, xqv (.bipush 60) 2 60, xz, xqv (.iconst 0) 1 0, xqv (.iconst 0) 1 0, xqc (.invokestatic 83) 3 133 3 1103, xz, xz, xqv (.sipush 700) 3 700, xz, xz, xqv (.iconst 0) 1 0, xqc (.invokevirtual 87) 3 135 4 1106, xz, xz, xq (.aload_n 0) 1, xqv (.bipush 105) 2 105, xz, xqv (.bipush 115) 2 115, xz, xqv (.iconst 0) 1 0, xqc (.invokestatic 83) 3 133 3 1103, xz, xz, xqv (.sipush 700) 3 700, xz, xz, xqv (.iconst 0) 1 0, xqc (.invokevirtual 87) 3 135 4 1106, xz, xz, xq (.aload_n 0) 1, xqv (.bipush 43) 2 43, xz, xqv (.iconst 0) 1 0, xqv (.iconst 0) 1 0, xqc (.invokestatic 83) 3 133 3 1103, xz, xz, xqv (.sipush 500) 3 500, xz, xz, xqv (.iconst 2) 1 2, xqc (.invokevirtual 87) 3 135 4 1106, xz, xz, xq (.aload_n 0) 1, xqv (.bipush 45) 2 45, xz, xqv (.iconst 0) 1 0, xqv (.iconst 0) 1 0, xqc (.invokestatic 83) 3 133 3 1103, xz, xz, xqv (.sipush 500) 3 500, xz, xz, xqv (.iconst 2) 1 2, xqc (.invokevirtual 87) 3 135 4 1106, xz, xz, xq (.aload_n 0) 1, xqv (.bipush 42) 2 42, xz, xqv (.iconst 0) 1 0, xqv (.iconst 0) 1 0, xqc (.invokestatic 83) 3 133 3 1103, xz, xz, xqv (.sipush 400) 3 400, xz, xz, xqv (.iconst 2) 1 2, xqc (.invokevirtual 87) 3 135 4 1106, xz, xz, xq (.aload_n 0) 1, xqv (.bipush 47) 2 47, xz, xqv (.iconst 0) 1 0, xqv (.iconst 0) 1 0, xqc (.invokestatic 83) 3 133 3 1103, xz, xz, xqv (.sipush 400) 3 400, xz, xz, xqv (.iconst 2) 1 2, xqc (.invokevirtual 87) 3 135 4 1106, xz, xz, xq (.aload_n 0) 1, xqv (.bipush 94) 2 94, xz, xqv (.iconst 0) 1 0, xqv (.iconst 0) 1 0, xqc (.invokestatic 83) 3 133 3 1103, xz, xz, xqv (.sipush 200) 3 200, xz, xz, xqv (.iconst 1) 1 1, xqc (.invokevirtual 87) 3 135 4 1106, xz, xz, xq (.aload_n 0) 1, xqv (.bipush 45) 2 45, xz, xqv (.iconst 0) 1 0, xqv (.iconst 0) 1 0, xqc (.invokestatic 83) 3 133 3 1103, xz, xz, xqv (.sipush 200) 3 200, xz, xz, xqv (.iconst 3) 1 3, xqc (.invokevirtual 87) 3 135 4 1106, xz, xz, xq .return_ 1]
-- TermReaderModel.thrown()I
def xc_131 : List (Option xRow) := [xq (.aload_n 0) 1, xqc (.getfield 91) 3 7 0 1114, xz, xz, xq .ireturn 1]
-- TermReaderModel.refuse(I)I
def xc_132 : List (Option xRow) := [xq (.aload_n 0) 1, xq (.iload_n 1) 1, xqc (.putfield 91) 3 7 0 1114, xz, xz, xqv (.iconst 0) 1 0, xq .ireturn 1]
-- TermReaderModel.pack(III)J
def xc_133 : List (Option xRow) := [xq (.iload_n 0) 1, xq .i2l 1, xq (.iload_n 1) 1, xq .i2l 1, xqv (.bipush 8) 2 8, xz, xq .lshl 1, xq .lor 1, xq (.iload_n 2) 1, xq .i2l 1, xqv (.bipush 16) 2 16, xz, xq .lshl 1, xq .lor 1, xq .lreturn 1]
-- TermReaderModel.opAt(J)I
def xc_134 : List (Option xRow) := [xqv (.iconst 0) 1 0, xq (.istore_n 3) 1, xq (.iload_n 3) 1, xq (.aload_n 0) 1, xqc (.getfield 95) 3 7 3 1117, xz, xz, xqa (.if_icmp .ge 22) 3 29, xz, xz, xq (.aload_n 0) 1, xqc (.getfield 13) 3 7 4 1118, xz, xz, xq (.iload_n 3) 1, xq .laload 1, xq (.lload_n 1) 1, xq .lcmp 1, xqa (.ifCond .ne 5) 3 23, xz, xz, xq (.iload_n 3) 1, xq .ireturn 1, xqv (.iinc 3 1) 3 1, xz, xz, xqa (.goto (-24)) 3 2, xz, xz, xqv (.iconst (-1)) 1 (-1), xq .ireturn 1]
-- TermReaderModel.tell(JII)V
def xc_135 : List (Option xRow) := [xq (.aload_n 0) 1, xq (.lload_n 1) 1, xqc (.invokevirtual 98) 3 134 2 1110, xz, xz, xq (.istore 5) 2, xz, xq (.iload 5) 2, xz, xqa (.ifCond .ge 43) 3 52, xz, xz, xq (.aload_n 0) 1, xqc (.getfield 95) 3 7 3 1117, xz, xz, xq (.istore 5) 2, xz, xq (.aload_n 0) 1, xq .dup 1, xqc (.getfield 95) 3 7 3 1117, xz, xz, xqv (.iconst 1) 1 1, xq .iadd 1, xqc (.putfield 95) 3 7 3 1117, xz, xz, xq (.aload_n 0) 1, xqc (.getfield 13) 3 7 4 1118, xz, xz, xq (.iload 5) 2, xz, xq (.lload_n 1) 1, xq .lastore 1, xq (.aload_n 0) 1, xqc (.getfield 17) 3 7 5 1119, xz, xz, xq (.iload 5) 2, xz, xqv (.iconst 0) 1 0, xq .iastore 1, xq (.aload_n 0) 1, xqc (.getfield 23) 3 7 7 1121, xz, xz, xq (.iload 5) 2, xz, xqv (.iconst 0) 1 0, xq .iastore 1, xq (.iload 4) 2, xz, xqv (.iconst 3) 1 3, xqa (.if_icmp .eq 9) 3 64, xz, xz, xq (.iload 4) 2, xz, xqv (.iconst 4) 1 4, xqa (.if_icmp .ne 23) 3 84, xz, xz, xq (.aload_n 0) 1, xqc (.getfield 17) 3 7 5 1119, xz, xz, xq (.iload 5) 2, xz, xq (.iload_n 3) 1, xq .iastore 1, xq (.aload_n 0) 1, xqc (.getfield 20) 3 7 6 1120, xz, xz, xq (.iload 5) 2, xz, xq (.iload 4) 2, xz, xq .iastore 1, xqa (.goto 20) 3 101, xz, xz, xq (.aload_n 0) 1, xqc (.getfield 23) 3 7 7 1121, xz, xz, xq (.iload 5) 2, xz, xq (.iload_n 3) 1, xq .iastore 1, xq (.aload_n 0) 1, xqc (.getfield 26) 3 7 8 1122, xz, xz, xq (.iload 5) 2, xz, xq (.iload 4) 2, xz, xq .iastore 1, xq (.aload_n 0) 1, xqc (.getfield 17) 3 7 5 1119, xz, xz, xq (.iload 5) 2, xz, xq .iaload 1, xqa (.ifCond .gt 13) 3 121, xz, xz, xq (.aload_n 0) 1, xqc (.getfield 23) 3 7 7 1121, xz, xz, xq (.iload 5) 2, xz, xq .iaload 1, xqa (.ifCond .le 4) 3 122, xz, xz, xq .return_ 1, xq (.aload_n 0) 1, xq .dup 1, xqc (.getfield 95) 3 7 3 1117, xz, xz, xqv (.iconst 1) 1 1, xq .isub 1, xqc (.putfield 95) 3 7 3 1117, xz, xz, xq (.aload_n 0) 1, xqc (.getfield 13) 3 7 4 1118, xz, xz, xq (.iload 5) 2, xz, xq (.aload_n 0) 1, xqc (.getfield 13) 3 7 4 1118, xz, xz, xq (.aload_n 0) 1, xqc (.getfield 95) 3 7 3 1117, xz, xz, xq .laload 1, xq .lastore 1, xq (.aload_n 0) 1, xqc (.getfield 17) 3 7 5 1119, xz, xz, xq (.iload 5) 2, xz, xq (.aload_n 0) 1, xqc (.getfield 17) 3 7 5 1119, xz, xz, xq (.aload_n 0) 1, xqc (.getfield 95) 3 7 3 1117, xz, xz, xq .iaload 1, xq .iastore 1, xq (.aload_n 0) 1, xqc (.getfield 20) 3 7 6 1120, xz, xz, xq (.iload 5) 2, xz, xq (.aload_n 0) 1, xqc (.getfield 20) 3 7 6 1120, xz, xz, xq (.aload_n 0) 1, xqc (.getfield 95) 3 7 3 1117, xz, xz, xq .iaload 1, xq .iastore 1, xq (.aload_n 0) 1, xqc (.getfield 23) 3 7 7 1121, xz, xz, xq (.iload 5) 2, xz, xq (.aload_n 0) 1, xqc (.getfield 23) 3 7 7 1121, xz, xz, xq (.aload_n 0) 1, xqc (.getfield 95) 3 7 3 1117, xz, xz, xq .iaload 1, xq .iastore 1, xq (.aload_n 0) 1, xqc (.getfield 26) 3 7 8 1122, xz, xz, xq (.iload 5) 2, xz, xq (.aload_n 0) 1, xqc (.getfield 26) 3 7 8 1122, xz, xz, xq (.aload_n 0) 1, xqc (.getfield 95) 3 7 3 1117, xz, xz, xq .iaload 1, xq .iastore 1, xq .return_ 1]
-- TermReaderModel.operators()I
def xc_136 : List (Option xRow) := [xqv (.iconst 0) 1 0, xq (.istore_n 1) 1, xqv (.iconst 0) 1 0, xq (.istore_n 2) 1, xq (.iload_n 2) 1, xq (.aload_n 0) 1, xqc (.getfield 95) 3 7 3 1117, xz, xz, xqa (.if_icmp .ge 41) 3 50, xz, xz, xq (.iload_n 1) 1, xq (.aload_n 0) 1, xqc (.getfield 17) 3 7 5 1119, xz, xz, xq (.iload_n 2) 1, xq .iaload 1, xqa (.ifCond .le 7) 3 26, xz, xz, xqv (.iconst 1) 1 1, xqa (.goto 4) 3 27, xz, xz, xqv (.iconst 0) 1 0, xq (.aload_n 0) 1, xqc (.getfield 23) 3 7 7 1121, xz, xz, xq (.iload_n 2) 1, xq .iaload 1, xqa (.ifCond .le 7) 3 40, xz, xz, xqv (.iconst 1) 1 1, xqa (.goto 4) 3 41, xz, xz, xqv (.iconst 0) 1 0, xq .iadd 1, xq .iadd 1, xq (.istore_n 1) 1, xqv (.iinc 2 1) 3 1, xz, xz, xqa (.goto (-43)) 3 4, xz, xz, xq (.iload_n 1) 1, xq .ireturn 1]
-- TermReaderModel.prefixOf(J)I
def xc_137 : List (Option xRow) := [xq (.aload_n 0) 1, xq (.lload_n 1) 1, xqc (.invokevirtual 98) 3 134 2 1110, xz, xz, xq (.istore_n 3) 1, xq (.iload_n 3) 1, xqa (.ifCond .ge 7) 3 14, xz, xz, xqv (.iconst 0) 1 0, xqa (.goto 9) 3 20, xz, xz, xq (.aload_n 0) 1, xqc (.getfield 17) 3 7 5 1119, xz, xz, xq (.iload_n 3) 1, xq .iaload 1, xq .ireturn 1]
-- TermReaderModel.isInfixType(I)Z
def xc_138 : List (Option xRow) := [xq (.iload_n 0) 1, xqv (.iconst 3) 1 3, xqa (.if_icmp .ge 7) 3 9, xz, xz, xqv (.iconst 1) 1 1, xqa (.goto 4) 3 10, xz, xz, xqv (.iconst 0) 1 0, xq .ireturn 1]
-- TermReaderModel.infixOf(J)I
def xc_139 : List (Option xRow) := [xq (.lload_n 1) 1, xqk (.ldc2_w 102) 3 0 0 1379 44, xz, xz, xq .lcmp 1, xqa (.ifCond .ne 7) 3 12, xz, xz, xqv (.sipush 1000) 3 1000, xz, xz, xq .ireturn 1, xq (.aload_n 0) 1, xq (.lload_n 1) 1, xqc (.invokevirtual 98) 3 134 2 1110, xz, xz, xq (.istore_n 3) 1, xq (.iload_n 3) 1, xqa (.ifCond .lt 15) 3 34, xz, xz, xq (.aload_n 0) 1, xqc (.getfield 26) 3 7 8 1122, xz, xz, xq (.iload_n 3) 1, xq .iaload 1, xqc (.invokestatic 104) 3 138 1 1271, xz, xz, xqa (.ifCond .ne 7) 3 38, xz, xz, xqv (.iconst 0) 1 0, xqa (.goto 9) 3 44, xz, xz, xq (.aload_n 0) 1, xqc (.getfield 23) 3 7 7 1121, xz, xz, xq (.iload_n 3) 1, xq .iaload 1, xq .ireturn 1]
-- TermReaderModel.postfixOf(J)I
def xc_140 : List (Option xRow) := [xq (.aload_n 0) 1, xq (.lload_n 1) 1, xqc (.invokevirtual 98) 3 134 2 1110, xz, xz, xq (.istore_n 3) 1, xq (.iload_n 3) 1, xqa (.ifCond .lt 15) 3 22, xz, xz, xq (.aload_n 0) 1, xqc (.getfield 26) 3 7 8 1122, xz, xz, xq (.iload_n 3) 1, xq .iaload 1, xqc (.invokestatic 104) 3 138 1 1271, xz, xz, xqa (.ifCond .eq 7) 3 26, xz, xz, xqv (.iconst 0) 1 0, xqa (.goto 9) 3 32, xz, xz, xq (.aload_n 0) 1, xqc (.getfield 23) 3 7 7 1121, xz, xz, xq (.iload_n 3) 1, xq .iaload 1, xq .ireturn 1]
-- TermReaderModel.leftOf(J)I
def xc_141 : List (Option xRow) := [xq (.lload_n 1) 1, xqk (.ldc2_w 102) 3 0 0 1379 44, xz, xz, xq .lcmp 1, xqa (.ifCond .ne 7) 3 12, xz, xz, xqv (.sipush 999) 3 999, xz, xz, xq .ireturn 1, xq (.aload_n 0) 1, xq (.lload_n 1) 1, xqc (.invokevirtual 98) 3 134 2 1110, xz, xz, xq (.istore_n 3) 1, xq (.aload_n 0) 1, xqc (.getfield 26) 3 7 8 1122, xz, xz, xq (.iload_n 3) 1, xq .iaload 1, xqv (.iconst 2) 1 2, xqa (.if_icmp .eq 14) 3 39, xz, xz, xq (.aload_n 0) 1, xqc (.getfield 26) 3 7 8 1122, xz, xz, xq (.iload_n 3) 1, xq .iaload 1, xqv (.bipush 6) 2 6, xz, xqa (.if_icmp .ne 12) 3 48, xz, xz, xq (.aload_n 0) 1, xqc (.getfield 23) 3 7 7 1121, xz, xz, xq (.iload_n 3) 1, xq .iaload 1, xqa (.goto 11) 3 56, xz, xz, xq (.aload_n 0) 1, xqc (.getfield 23) 3 7 7 1121, xz, xz, xq (.iload_n 3) 1, xq .iaload 1, xqv (.iconst 1) 1 1, xq .isub 1, xq .ireturn 1]
-- TermReaderModel.rightOf(J)I
def xc_142 : List (Option xRow) := [xq (.lload_n 1) 1, xqk (.ldc2_w 102) 3 0 0 1379 44, xz, xz, xq .lcmp 1, xqa (.ifCond .ne 7) 3 12, xz, xz, xqv (.sipush 1000) 3 1000, xz, xz, xq .ireturn 1, xq (.aload_n 0) 1, xq (.lload_n 1) 1, xqc (.invokevirtual 98) 3 134 2 1110, xz, xz, xq (.istore_n 3) 1, xq (.aload_n 0) 1, xqc (.getfield 26) 3 7 8 1122, xz, xz, xq (.iload_n 3) 1, xq .iaload 1, xqv (.iconst 1) 1 1, xqa (.if_icmp .ne 12) 3 37, xz, xz, xq (.aload_n 0) 1, xqc (.getfield 23) 3 7 7 1121, xz, xz, xq (.iload_n 3) 1, xq .iaload 1, xqa (.goto 11) 3 45, xz, xz, xq (.aload_n 0) 1, xqc (.getfield 23) 3 7 7 1121, xz, xz, xq (.iload_n 3) 1, xq .iaload 1, xqv (.iconst 1) 1 1, xq .isub 1, xq .ireturn 1]
-- TermReaderModel.leftUpTo(J)I
def xc_143 : List (Option xRow) := [xq (.aload_n 0) 1, xq (.lload_n 1) 1, xqc (.invokevirtual 108) 3 139 2 1375, xz, xz, xq (.aload_n 0) 1, xq (.lload_n 1) 1, xqc (.invokevirtual 111) 3 140 2 1380, xz, xz, xq .iadd 1, xqa (.ifCond .le 11) 3 22, xz, xz, xq (.aload_n 0) 1, xq (.lload_n 1) 1, xqc (.invokevirtual 114) 3 141 2 1396, xz, xz, xqa (.goto 4) 3 23, xz, xz, xqv (.iconst 0) 1 0, xq .ireturn 1]
-- TermReaderModel.operandOf(J)I
def xc_144 : List (Option xRow) := [xq (.aload_n 0) 1, xq (.lload_n 1) 1, xqc (.invokevirtual 98) 3 134 2 1110, xz, xz, xq (.istore_n 3) 1, xq (.aload_n 0) 1, xqc (.getfield 20) 3 7 6 1120, xz, xz, xq (.iload_n 3) 1, xq .iaload 1, xqv (.iconst 3) 1 3, xqa (.if_icmp .ne 12) 3 25, xz, xz, xq (.aload_n 0) 1, xqc (.getfield 17) 3 7 5 1119, xz, xz, xq (.iload_n 3) 1, xq .iaload 1, xqa (.goto 11) 3 33, xz, xz, xq (.aload_n 0) 1, xqc (.getfield 17) 3 7 5 1119, xz, xz, xq (.iload_n 3) 1, xq .iaload 1, xqv (.iconst 1) 1 1, xq .isub 1, xq .ireturn 1]
-- TermReaderModel.isSign(I)Z
def xc_145 : List (Option xRow) := [xq (.iload_n 0) 1, xqv (.bipush 43) 2 43, xz, xqa (.if_icmp .eq 99) 3 102, xz, xz, xq (.iload_n 0) 1, xqv (.bipush 45) 2 45, xz, xqa (.if_icmp .eq 93) 3 102, xz, xz, xq (.iload_n 0) 1, xqv (.bipush 42) 2 42, xz, xqa (.if_icmp .eq 87) 3 102, xz, xz, xq (.iload_n 0) 1, xqv (.bipush 47) 2 47, xz, xqa (.if_icmp .eq 81) 3 102, xz, xz, xq (.iload_n 0) 1, xqv (.bipush 92) 2 92, xz, xqa (.if_icmp .eq 75) 3 102, xz, xz, xq (.iload_n 0) 1, xqv (.bipush 94) 2 94, xz, xqa (.if_icmp .eq 69) 3 102, xz, xz, xq (.iload_n 0) 1, xqv (.bipush 60) 2 60, xz, xqa (.if_icmp .eq 63) 3 102, xz, xz, xq (.iload_n 0) 1, xqv (.bipush 62) 2 62, xz, xqa (.if_icmp .eq 57) 3 102, xz, xz, xq (.iload_n 0) 1, xqv (.bipush 61) 2 61, xz, xqa (.if_icmp .eq 51) 3 102, xz, xz, xq (.iload_n 0) 1, xqv (.bipush 126) 2 126, xz, xqa (.if_icmp .eq 45) 3 102, xz, xz, xq (.iload_n 0) 1, xqv (.bipush 58) 2 58, xz, xqa (.if_icmp .eq 39) 3 102, xz, xz, xq (.iload_n 0) 1, xqv (.bipush 46) 2 46, xz, xqa (.if_icmp .eq 33) 3 102, xz, xz, xq (.iload_n 0) 1, xqv (.bipush 63) 2 63, xz, xqa (.if_icmp .eq 27) 3 102, xz, xz, xq (.iload_n 0) 1, xqv (.bipush 64) 2 64, xz, xqa (.if_icmp .eq 21) 3 102, xz, xz, xq (.iload_n 0) 1, xqv (.bipush 35) 2 35, xz, xqa (.if_icmp .eq 15) 3 102, xz, xz, xq (.iload_n 0) 1, xqv (.bipush 38) 2 38, xz, xqa (.if_icmp .eq 9) 3 102, xz, xz, xq (.iload_n 0) 1, xqv (.bipush 36) 2 36, xz, xqa (.if_icmp .ne 7) 3 106, xz, xz, xqv (.iconst 1) 1 1, xqa (.goto 4) 3 107, xz, xz, xqv (.iconst 0) 1 0, xq .ireturn 1]
-- TermReaderModel.isSmall(I)Z
def xc_146 : List (Option xRow) := [xq (.iload_n 0) 1, xqv (.bipush 97) 2 97, xz, xqa (.if_icmp .lt 13) 3 16, xz, xz, xq (.iload_n 0) 1, xqv (.bipush 122) 2 122, xz, xqa (.if_icmp .gt 7) 3 16, xz, xz, xqv (.iconst 1) 1 1, xqa (.goto 4) 3 17, xz, xz, xqv (.iconst 0) 1 0, xq .ireturn 1]
-- TermReaderModel.isGreat(I)Z
def xc_147 : List (Option xRow) := [xq (.iload_n 0) 1, xqv (.bipush 65) 2 65, xz, xqa (.if_icmp .lt 9) 3 12, xz, xz, xq (.iload_n 0) 1, xqv (.bipush 90) 2 90, xz, xqa (.if_icmp .le 9) 3 18, xz, xz, xq (.iload_n 0) 1, xqv (.bipush 95) 2 95, xz, xqa (.if_icmp .ne 7) 3 22, xz, xz, xqv (.iconst 1) 1 1, xqa (.goto 4) 3 23, xz, xz, xqv (.iconst 0) 1 0, xq .ireturn 1]
-- TermReaderModel.isDigit(I)Z
def xc_148 : List (Option xRow) := [xq (.iload_n 0) 1, xqv (.bipush 48) 2 48, xz, xqa (.if_icmp .lt 13) 3 16, xz, xz, xq (.iload_n 0) 1, xqv (.bipush 57) 2 57, xz, xqa (.if_icmp .gt 7) 3 16, xz, xz, xqv (.iconst 1) 1 1, xqa (.goto 4) 3 17, xz, xz, xqv (.iconst 0) 1 0, xq .ireturn 1]
-- TermReaderModel.characters(J)I
def xc_149 : List (Option xRow) := [xqv (.iconst 0) 1 0, xq (.istore_n 2) 1, xq (.iload_n 2) 1, xqv (.bipush 8) 2 8, xz, xqa (.if_icmp .ge 24) 3 29, xz, xz, xq (.lload_n 0) 1, xqv (.bipush 8) 2 8, xz, xq (.iload_n 2) 1, xq .imul 1, xq .lushr 1, xqk (.ldc2_w 117) 3 0 0 1258 255, xz, xz, xq .land 1, xq (.lconst 0) 1, xq .lcmp 1, xqa (.ifCond .eq 9) 3 29, xz, xz, xqv (.iinc 2 1) 3 1, xz, xz, xqa (.goto (-24)) 3 2, xz, xz, xq (.iload_n 2) 1, xq .ireturn 1]
-- TermReaderModel.canBe(JI)Z
def xc_150 : List (Option xRow) := [xq (.iload_n 2) 1, xqa (.ifCond .le 7) 3 8, xz, xz, xqv (.iconst 1) 1 1, xqa (.goto 4) 3 9, xz, xz, xqv (.iconst 0) 1 0, xq (.istore_n 3) 1, xq (.iload_n 2) 1, xqa (.ifCond .le 7) 3 18, xz, xz, xqv (.iconst 1) 1 1, xqa (.goto 4) 3 19, xz, xz, xqv (.iconst 0) 1 0, xq (.istore 4) 2, xz, xqv (.iconst 0) 1 0, xq (.istore 5) 2, xz, xq (.iload 5) 2, xz, xq (.iload_n 2) 1, xqa (.if_icmp .ge 61) 3 88, xz, xz, xq (.lload_n 0) 1, xqv (.bipush 8) 2 8, xz, xq (.iload 5) 2, xz, xq .imul 1, xq .lushr 1, xqk (.ldc2_w 117) 3 0 0 1258 255, xz, xz, xq .land 1, xq .l2i 1, xq (.istore 6) 2, xz, xq (.iload_n 3) 1, xqa (.ifCond .eq 15) 3 60, xz, xz, xq (.iload 6) 2, xz, xqc (.invokestatic 119) 3 146 1 1262, xz, xz, xqa (.ifCond .eq 7) 3 60, xz, xz, xqv (.iconst 1) 1 1, xqa (.goto 4) 3 61, xz, xz, xqv (.iconst 0) 1 0, xq (.istore_n 3) 1, xq (.iload 4) 2, xz, xqa (.ifCond .eq 15) 3 79, xz, xz, xq (.iload 6) 2, xz, xqc (.invokestatic 122) 3 145 1 1265, xz, xz, xqa (.ifCond .eq 7) 3 79, xz, xz, xqv (.iconst 1) 1 1, xqa (.goto 4) 3 80, xz, xz, xqv (.iconst 0) 1 0, xq (.istore 4) 2, xz, xqv (.iinc 5 1) 3 1, xz, xz, xqa (.goto (-61)) 3 24, xz, xz, xq (.iload_n 2) 1, xqv (.iconst 1) 1 1, xqa (.if_icmp .ne 15) 3 105, xz, xz, xq (.lload_n 0) 1, xqk (.ldc2_w 117) 3 0 0 1258 255, xz, xz, xq .land 1, xqk (.ldc2_w 125) 3 0 0 1268 46, xz, xz, xq .lcmp 1, xqa (.ifCond .eq 35) 3 137, xz, xz, xq (.iload_n 2) 1, xqv (.iconst 1) 1 1, xqa (.if_icmp .le 34) 3 141, xz, xz, xq (.lload_n 0) 1, xqk (.ldc2_w 117) 3 0 0 1258 255, xz, xz, xq .land 1, xqk (.ldc2_w 127) 3 0 0 1269 47, xz, xz, xq .lcmp 1, xqa (.ifCond .ne 22) 3 141, xz, xz, xq (.lload_n 0) 1, xqv (.bipush 8) 2 8, xz, xq .lushr 1, xqk (.ldc2_w 117) 3 0 0 1258 255, xz, xz, xq .land 1, xqk (.ldc2_w 129) 3 0 0 1270 42, xz, xz, xq .lcmp 1, xqa (.ifCond .ne 7) 3 141, xz, xz, xqv (.iconst 1) 1 1, xqa (.goto 4) 3 142, xz, xz, xqv (.iconst 0) 1 0, xq (.istore 5) 2, xz, xq (.iload_n 3) 1, xqa (.ifCond .ne 13) 3 158, xz, xz, xq (.iload 4) 2, xz, xqa (.ifCond .eq 12) 3 162, xz, xz, xq (.iload 5) 2, xz, xqa (.ifCond .ne 7) 3 162, xz, xz, xqv (.iconst 1) 1 1, xqa (.goto 4) 3 163, xz, xz, xqv (.iconst 0) 1 0, xq .ireturn 1]
-- TermReaderModel.op(IIJ)V
def xc_151 : List (Option xRow) := [xq (.lload_n 3) 1, xqc (.invokestatic 131) 3 149 1 1255, xz, xz, xq (.istore 5) 2, xz, xq (.aload_n 0) 1, xq (.iload_n 1) 1, xqa (.ifCond .lt 29) 3 37, xz, xz, xq (.iload_n 1) 1, xqv (.sipush 1200) 3 1200, xz, xz, xqa (.if_icmp .gt 22) 3 37, xz, xz, xq (.iload_n 2) 1, xqa (.ifCond .lt 18) 3 37, xz, xz, xq (.iload_n 2) 1, xqv (.bipush 6) 2 6, xz, xqa (.if_icmp .gt 12) 3 37, xz, xz, xq (.lload_n 3) 1, xq (.iload 5) 2, xz, xqc (.invokestatic 134) 3 150 2 1259, xz, xz, xqa (.ifCond .ne 7) 3 41, xz, xz, xqv (.iconst 1) 1 1, xqa (.goto 4) 3 42, xz, xz, xqv (.iconst 0) 1 0, xqc (.putfield 91) 3 7 0 1114, xz, xz, xq (.aload_n 0) 1, xqc (.getfield 91) 3 7 0 1114, xz, xz, xqa (.ifCond .le 4) 3 53, xz, xz, xq .return_ 1, xq (.iload 5) 2, xz, xqv (.bipush 8) 2 8, xz, xqa (.if_icmp .ne 7) 3 64, xz, xz, xq (.lload_n 3) 1, xqa (.goto 14) 3 75, xz, xz, xq (.lload_n 3) 1, xq (.lconst 1) 1, xqv (.bipush 8) 2 8, xz, xq (.iload 5) 2, xz, xq .imul 1, xq .lshl 1, xq (.lconst 1) 1, xq .lsub 1, xq .land 1, xq (.lstore 6) 2, xz, xq (.iload_n 2) 1, xqv (.iconst 3) 1 3, xqa (.if_icmp .eq 8) 3 87, xz, xz, xq (.iload_n 2) 1, xqv (.iconst 4) 1 4, xqa (.if_icmp .ne 7) 3 91, xz, xz, xqv (.iconst 1) 1 1, xqa (.goto 4) 3 92, xz, xz, xqv (.iconst 0) 1 0, xq (.istore 8) 2, xz, xq (.aload_n 0) 1, xq (.lload 6) 2, xz, xqc (.invokevirtual 98) 3 134 2 1110, xz, xz, xq (.istore 9) 2, xz, xq (.iload 9) 2, xz, xqa (.ifCond .lt 35) 3 139, xz, xz, xq (.iload 8) 2, xz, xqa (.ifCond .eq 16) 3 125, xz, xz, xq (.aload_n 0) 1, xqc (.getfield 17) 3 7 5 1119, xz, xz, xq (.iload 9) 2, xz, xq .iaload 1, xqa (.ifCond .le 20) 3 139, xz, xz, xqa (.goto 13) 3 135, xz, xz, xq (.aload_n 0) 1, xqc (.getfield 23) 3 7 7 1121, xz, xz, xq (.iload 9) 2, xz, xq .iaload 1, xqa (.ifCond .le 7) 3 139, xz, xz, xqv (.iconst 1) 1 1, xqa (.goto 4) 3 140, xz, xz, xqv (.iconst 0) 1 0, xq (.istore 10) 2, xz, xq (.iload_n 1) 1, xqa (.ifCond .le 34) 3 177, xz, xz, xq (.iload 8) 2, xz, xqa (.ifCond .ne 29) 3 177, xz, xz, xq (.iload 10) 2, xz, xqa (.ifCond .eq 24) 3 177, xz, xz, xq (.aload_n 0) 1, xqc (.getfield 26) 3 7 8 1122, xz, xz, xq (.iload 9) 2, xz, xq .iaload 1, xqc (.invokestatic 104) 3 138 1 1271, xz, xz, xq (.iload_n 2) 1, xqc (.invokestatic 104) 3 138 1 1271, xz, xz, xqa (.if_icmp .eq 7) 3 177, xz, xz, xqv (.iconst 1) 1 1, xqa (.goto 4) 3 178, xz, xz, xqv (.iconst 0) 1 0, xq (.istore 11) 2, xz, xq (.iload 11) 2, xz, xqa (.ifCond .ne 21) 3 203, xz, xz, xq (.iload_n 1) 1, xqa (.ifCond .le 23) 3 209, xz, xz, xq (.iload 10) 2, xz, xqa (.ifCond .ne 18) 3 209, xz, xz, xq (.aload_n 0) 1, xqc (.invokevirtual 138) 3 136 1 1274, xz, xz, xqv (.bipush 24) 2 24, xz, xqa (.if_icmp .ne 9) 3 209, xz, xz, xq (.aload_n 0) 1, xqv (.iconst 2) 1 2, xqc (.putfield 91) 3 7 0 1114, xz, xz, xq .return_ 1, xq (.iload_n 1) 1, xqa (.ifCond .gt 8) 3 218, xz, xz, xq (.iload 9) 2, xz, xqa (.ifCond .lt 11) 3 226, xz, xz, xq (.aload_n 0) 1, xq (.lload 6) 2, xz, xq (.iload_n 1) 1, xq (.iload_n 2) 1, xqc (.invokevirtual 87) 3 135 4 1106, xz, xz, xq .return_ 1]
-- TermReaderModel.text(J)Z
def xc_152 : List (Option xRow) := [xq (.aload_n 0) 1, xqv (.iconst 0) 1 0, xqc (.putfield 91) 3 7 0 1114, xz, xz, xq (.lload_n 1) 1, xqc (.invokestatic 131) 3 149 1 1255, xz, xz, xq (.istore_n 3) 1, xq (.iload_n 3) 1, xqa (.ifCond .le 18) 3 29, xz, xz, xq (.aload_n 0) 1, xqc (.getfield 142) 3 7 1 1115, xz, xz, xq (.iload_n 3) 1, xq .iadd 1, xqv (.bipush 120) 2 120, xz, xqa (.if_icmp .gt 7) 3 29, xz, xz, xqv (.iconst 1) 1 1, xqa (.goto 4) 3 30, xz, xz, xqv (.iconst 0) 1 0, xq (.istore 4) 2, xz, xqv (.iconst 0) 1 0, xq (.istore 5) 2, xz, xq (.iload 5) 2, xz, xq (.iload_n 3) 1, xqa (.if_icmp .ge 57) 3 95, xz, xz, xq (.iload 4) 2, xz, xqa (.ifCond .eq 43) 3 86, xz, xz, xq (.lload_n 1) 1, xqv (.bipush 8) 2 8, xz, xq (.iload 5) 2, xz, xq .imul 1, xq .lushr 1, xqk (.ldc2_w 117) 3 0 0 1258 255, xz, xz, xq .land 1, xqk (.ldc2_w 145) 3 0 0 1282 32, xz, xz, xq .lcmp 1, xqa (.ifCond .lt 25) 3 86, xz, xz, xq (.lload_n 1) 1, xqv (.bipush 8) 2 8, xz, xq (.iload 5) 2, xz, xq .imul 1, xq .lushr 1, xqk (.ldc2_w 117) 3 0 0 1258 255, xz, xz, xq .land 1, xqk (.ldc2_w 147) 3 0 0 1283 126, xz, xz, xq .lcmp 1, xqa (.ifCond .gt 7) 3 86, xz, xz, xqv (.iconst 1) 1 1, xqa (.goto 4) 3 87, xz, xz, xqv (.iconst 0) 1 0, xq (.istore 4) 2, xz, xqv (.iinc 5 1) 3 1, xz, xz, xqa (.goto (-57)) 3 35, xz, xz, xq (.iload 4) 2, xz, xqa (.ifCond .ne 5) 3 102, xz, xz, xqv (.iconst 0) 1 0, xq .ireturn 1, xqv (.iconst 0) 1 0, xq (.istore 5) 2, xz, xq (.iload 5) 2, xz, xq (.iload_n 3) 1, xqa (.if_icmp .ge 33) 3 141, xz, xz, xq (.aload_n 0) 1, xqc (.getfield 7) 3 7 2 1116, xz, xz, xq (.aload_n 0) 1, xqc (.getfield 142) 3 7 1 1115, xz, xz, xq (.iload 5) 2, xz, xq .iadd 1, xq (.lload_n 1) 1, xqv (.bipush 8) 2 8, xz, xq (.iload 5) 2, xz, xq .imul 1, xq .lushr 1, xqk (.ldc2_w 117) 3 0 0 1258 255, xz, xz, xq .land 1, xq .l2i 1, xq .iastore 1, xqv (.iinc 5 1) 3 1, xz, xz, xqa (.goto (-33)) 3 105, xz, xz, xq (.aload_n 0) 1, xq .dup 1, xqc (.getfield 142) 3 7 1 1115, xz, xz, xq (.iload_n 3) 1, xq .iadd 1, xqc (.putfield 142) 3 7 1 1115, xz, xz, xqv (.iconst 1) 1 1, xq .ireturn 1]
-- TermReaderModel.charAt(I)I
def xc_153 : List (Option xRow) := [xq (.iload_n 1) 1, xq (.aload_n 0) 1, xqc (.getfield 142) 3 7 1 1115, xz, xz, xqa (.if_icmp .ge 12) 3 17, xz, xz, xq (.aload_n 0) 1, xqc (.getfield 7) 3 7 2 1116, xz, xz, xq (.iload_n 1) 1, xq .iaload 1, xqa (.goto 4) 3 18, xz, xz, xqv (.iconst 0) 1 0, xq .ireturn 1]
-- TermReaderModel.behindLayout(I)I
def xc_154 : List (Option xRow) := [xq (.iload_n 1) 1, xq (.istore_n 2) 1, xqv (.iconst 1) 1 1, xq (.istore_n 3) 1, xq (.iload_n 3) 1, xqa (.ifCond .eq 132) 3 137, xz, xz, xqv (.iconst 0) 1 0, xq (.istore_n 3) 1, xq (.aload_n 0) 1, xq (.iload_n 2) 1, xqc (.invokevirtual 149) 3 153 2 1304, xz, xz, xqv (.bipush 32) 2 32, xz, xqa (.if_icmp .ne 9) 3 26, xz, xz, xqv (.iinc 2 1) 3 1, xz, xz, xqa (.goto (-13)) 3 10, xz, xz, xq (.aload_n 0) 1, xq (.iload_n 2) 1, xqc (.invokevirtual 149) 3 153 2 1304, xz, xz, xqv (.bipush 37) 2 37, xz, xqa (.if_icmp .ne 8) 3 41, xz, xz, xq (.aload_n 0) 1, xqc (.getfield 142) 3 7 1 1115, xz, xz, xq (.istore_n 2) 1, xq (.aload_n 0) 1, xq (.iload_n 2) 1, xqc (.invokevirtual 149) 3 153 2 1304, xz, xz, xqv (.bipush 47) 2 47, xz, xqa (.if_icmp .ne (-44)) 3 4, xz, xz, xq (.aload_n 0) 1, xq (.iload_n 2) 1, xqv (.iconst 1) 1 1, xq .iadd 1, xqc (.invokevirtual 149) 3 153 2 1304, xz, xz, xqv (.bipush 42) 2 42, xz, xqa (.if_icmp .ne (-56)) 3 4, xz, xz, xqv (.iinc 2 2) 3 2, xz, xz, xq (.iload_n 2) 1, xq (.aload_n 0) 1, xqc (.getfield 142) 3 7 1 1115, xz, xz, xqa (.if_icmp .ge 31) 3 102, xz, xz, xq (.aload_n 0) 1, xq (.iload_n 2) 1, xqc (.invokevirtual 149) 3 153 2 1304, xz, xz, xqv (.bipush 42) 2 42, xz, xqa (.if_icmp .ne 15) 3 96, xz, xz, xq (.aload_n 0) 1, xq (.iload_n 2) 1, xqv (.iconst 1) 1 1, xq .iadd 1, xqc (.invokevirtual 149) 3 153 2 1304, xz, xz, xqv (.bipush 47) 2 47, xz, xqa (.if_icmp .eq 9) 3 102, xz, xz, xqv (.iinc 2 1) 3 1, xz, xz, xqa (.goto (-33)) 3 66, xz, xz, xq (.iload_n 2) 1, xq (.aload_n 0) 1, xqc (.getfield 142) 3 7 1 1115, xz, xz, xqa (.if_icmp .ge 9) 3 116, xz, xz, xq (.iload_n 2) 1, xqv (.iconst 2) 1 2, xq .iadd 1, xqa (.goto 6) 3 119, xz, xz, xqv (.sipush 200) 3 200, xz, xz, xq (.istore_n 2) 1, xq (.iload_n 2) 1, xq (.aload_n 0) 1, xqc (.getfield 142) 3 7 1 1115, xz, xz, xqa (.if_icmp .gt 7) 3 132, xz, xz, xqv (.iconst 1) 1 1, xqa (.goto 4) 3 133, xz, xz, xqv (.iconst 0) 1 0, xq (.istore_n 3) 1, xqa (.goto (-130)) 3 4, xz, xz, xq (.iload_n 2) 1, xq .ireturn 1]
-- TermReaderModel.keep(I)V
def xc_155 : List (Option xRow) := [xq (.aload_n 0) 1, xqc (.getfield 50) 3 7 26 1140, xz, xz, xq (.aload_n 0) 1, xqc (.getfield 153) 3 7 25 1139, xz, xz, xq (.iload_n 1) 1, xq .iastore 1, xq (.aload_n 0) 1, xq .dup 1, xqc (.getfield 153) 3 7 25 1139, xz, xz, xqv (.iconst 1) 1 1, xq .iadd 1, xqc (.putfield 153) 3 7 25 1139, xz, xz, xq .return_ 1]
-- TermReaderModel.word(I)I
def xc_156 : List (Option xRow) := [xq (.iload_n 1) 1, xq (.istore_n 2) 1, xq (.aload_n 0) 1, xq (.iload_n 2) 1, xqc (.invokevirtual 149) 3 153 2 1304, xz, xz, xqc (.invokestatic 119) 3 146 1 1262, xz, xz, xqa (.ifCond .ne 25) 3 35, xz, xz, xq (.aload_n 0) 1, xq (.iload_n 2) 1, xqc (.invokevirtual 149) 3 153 2 1304, xz, xz, xqc (.invokestatic 156) 3 147 1 1308, xz, xz, xqa (.ifCond .ne 14) 3 35, xz, xz, xq (.aload_n 0) 1, xq (.iload_n 2) 1, xqc (.invokevirtual 149) 3 153 2 1304, xz, xz, xqc (.invokestatic 159) 3 148 1 1315, xz, xz, xqa (.ifCond .eq 18) 3 50, xz, xz, xq (.aload_n 0) 1, xq (.aload_n 0) 1, xq (.iload_n 2) 1, xqc (.invokevirtual 149) 3 153 2 1304, xz, xz, xqc (.invokevirtual 162) 3 155 2 1318, xz, xz, xqv (.iinc 2 1) 3 1, xz, xz, xqa (.goto (-45)) 3 2, xz, xz, xq (.iload_n 2) 1, xq .ireturn 1]
-- TermReaderModel.scan(I)V
def xc_157 : List (Option xRow) := [xq (.aload_n 0) 1, xq (.iload_n 1) 1, xqc (.invokevirtual 166) 3 154 2 1300, xz, xz, xq (.istore_n 2) 1, xq (.aload_n 0) 1, xqv (.iconst 0) 1 0, xqc (.putfield 153) 3 7 25 1139, xz, xz, xq (.aload_n 0) 1, xqv (.iconst 0) 1 0, xqc (.putfield 169) 3 7 24 1138, xz, xz, xq (.aload_n 0) 1, xqv (.iconst 0) 1 0, xqc (.putfield 173) 3 7 23 1137, xz, xz, xq (.aload_n 0) 1, xq (.iload_n 2) 1, xqc (.putfield 176) 3 7 21 1135, xz, xz, xq (.aload_n 0) 1, xq (.iload_n 2) 1, xqc (.invokevirtual 149) 3 153 2 1304, xz, xz, xq (.istore_n 3) 1, xq (.iload_n 2) 1, xq (.aload_n 0) 1, xqc (.getfield 142) 3 7 1 1115, xz, xz, xqa (.if_icmp .le 17) 3 54, xz, xz, xq (.aload_n 0) 1, xqv (.bipush 7) 2 7, xz, xqc (.putfield 179) 3 7 20 1134, xz, xz, xq (.aload_n 0) 1, xq (.iload_n 2) 1, xqc (.putfield 182) 3 7 22 1136, xz, xz, xqa (.goto 139) 3 190, xz, xz, xq (.iload_n 2) 1, xq (.aload_n 0) 1, xqc (.getfield 142) 3 7 1 1115, xz, xz, xqa (.if_icmp .ne 17) 3 76, xz, xz, xq (.aload_n 0) 1, xqv (.bipush 6) 2 6, xz, xqc (.putfield 179) 3 7 20 1134, xz, xz, xq (.aload_n 0) 1, xq (.iload_n 2) 1, xqc (.putfield 182) 3 7 22 1136, xz, xz, xqa (.goto 117) 3 190, xz, xz, xq (.iload_n 3) 1, xqc (.invokestatic 119) 3 146 1 1262, xz, xz, xqa (.ifCond .ne 10) 3 90, xz, xz, xq (.iload_n 3) 1, xqc (.invokestatic 156) 3 147 1 1308, xz, xz, xqa (.ifCond .eq 46) 3 133, xz, xz, xq (.aload_n 0) 1, xq (.iload_n 3) 1, xqc (.invokestatic 119) 3 146 1 1262, xz, xz, xqa (.ifCond .eq 7) 3 102, xz, xz, xqv (.iconst 4) 1 4, xqa (.goto 4) 3 103, xz, xz, xqv (.iconst 2) 1 2, xqc (.putfield 179) 3 7 20 1134, xz, xz, xq (.aload_n 0) 1, xq (.aload_n 0) 1, xq (.iload_n 2) 1, xqc (.invokevirtual 185) 3 156 2 1311, xz, xz, xqc (.putfield 182) 3 7 22 1136, xz, xz, xq (.aload_n 0) 1, xqc (.getfield 153) 3 7 25 1139, xz, xz, xqv (.bipush 24) 2 24, xz, xqa (.if_icmp .le 69) 3 190, xz, xz, xq (.aload_n 0) 1, xqv (.bipush 7) 2 7, xz, xqc (.putfield 179) 3 7 20 1134, xz, xz, xqa (.goto 60) 3 190, xz, xz, xq (.iload_n 3) 1, xqc (.invokestatic 159) 3 148 1 1315, xz, xz, xqa (.ifCond .eq 11) 3 148, xz, xz, xq (.aload_n 0) 1, xq (.iload_n 2) 1, xqc (.invokevirtual 188) 3 161 2 1322, xz, xz, xqa (.goto 45) 3 190, xz, xz, xq (.iload_n 3) 1, xqc (.invokestatic 122) 3 145 1 1265, xz, xz, xqa (.ifCond .eq 11) 3 163, xz, xz, xq (.aload_n 0) 1, xq (.iload_n 2) 1, xqc (.invokevirtual 191) 3 158 2 1330, xz, xz, xqa (.goto 30) 3 190, xz, xz, xq (.iload_n 3) 1, xqv (.bipush 39) 2 39, xz, xqa (.if_icmp .eq 9) 3 175, xz, xz, xq (.iload_n 3) 1, xqv (.bipush 34) 2 34, xz, xqa (.if_icmp .ne 12) 3 184, xz, xz, xq (.aload_n 0) 1, xq (.iload_n 2) 1, xq (.iload_n 3) 1, xqc (.invokevirtual 194) 3 162 3 1334, xz, xz, xqa (.goto 9) 3 190, xz, xz, xq (.aload_n 0) 1, xq (.iload_n 2) 1, xq (.iload_n 3) 1, xqc (.invokevirtual 198) 3 159 3 1338, xz, xz, xq .return_ 1]
-- TermReaderModel.signs(I)V
def xc_158 : List (Option xRow) := [xq (.iload_n 1) 1, xq (.istore_n 2) 1, xq (.aload_n 0) 1, xq (.iload_n 2) 1, xqc (.invokevirtual 149) 3 153 2 1304, xz, xz, xqc (.invokestatic 122) 3 145 1 1265, xz, xz, xqa (.ifCond .eq 18) 3 28, xz, xz, xq (.aload_n 0) 1, xq (.aload_n 0) 1, xq (.iload_n 2) 1, xqc (.invokevirtual 149) 3 153 2 1304, xz, xz, xqc (.invokevirtual 162) 3 155 2 1318, xz, xz, xqv (.iinc 2 1) 3 1, xz, xz, xqa (.goto (-23)) 3 2, xz, xz, xq (.aload_n 0) 1, xq (.iload_n 2) 1, xqc (.putfield 182) 3 7 22 1136, xz, xz, xq (.aload_n 0) 1, xqc (.getfield 153) 3 7 25 1139, xz, xz, xqv (.iconst 1) 1 1, xqa (.if_icmp .ne 46) 3 84, xz, xz, xq (.aload_n 0) 1, xqc (.getfield 50) 3 7 26 1140, xz, xz, xqv (.iconst 0) 1 0, xq .iaload 1, xqv (.bipush 46) 2 46, xz, xqa (.if_icmp .ne 35) 3 84, xz, xz, xq (.iload_n 2) 1, xq (.aload_n 0) 1, xqc (.getfield 142) 3 7 1 1115, xz, xz, xqa (.if_icmp .eq 23) 3 80, xz, xz, xq (.aload_n 0) 1, xq (.iload_n 2) 1, xqc (.invokevirtual 149) 3 153 2 1304, xz, xz, xqv (.bipush 32) 2 32, xz, xqa (.if_icmp .eq 13) 3 80, xz, xz, xq (.aload_n 0) 1, xq (.iload_n 2) 1, xqc (.invokevirtual 149) 3 153 2 1304, xz, xz, xqv (.bipush 37) 2 37, xz, xqa (.if_icmp .ne 7) 3 84, xz, xz, xqv (.iconst 1) 1 1, xqa (.goto 4) 3 85, xz, xz, xqv (.iconst 0) 1 0, xq (.istore_n 3) 1, xq (.aload_n 0) 1, xq (.iload_n 3) 1, xqa (.ifCond .eq 7) 3 95, xz, xz, xqv (.iconst 0) 1 0, xqa (.goto 18) 3 110, xz, xz, xq (.aload_n 0) 1, xqc (.getfield 153) 3 7 25 1139, xz, xz, xqv (.bipush 24) 2 24, xz, xqa (.if_icmp .le 8) 3 109, xz, xz, xqv (.bipush 7) 2 7, xz, xqa (.goto 4) 3 110, xz, xz, xqv (.iconst 4) 1 4, xqc (.putfield 179) 3 7 20 1134, xz, xz, xq .return_ 1]
-- TermReaderModel.single(II)V
def xc_159 : List (Option xRow) := [xq (.aload_n 0) 1, xq (.iload_n 1) 1, xqv (.iconst 1) 1 1, xq .iadd 1, xqc (.invokevirtual 149) 3 153 2 1304, xz, xz, xq (.istore_n 3) 1, xq (.iload_n 2) 1, xqv (.bipush 91) 2 91, xz, xqa (.if_icmp .ne 9) 3 20, xz, xz, xq (.iload_n 3) 1, xqv (.bipush 93) 2 93, xz, xqa (.if_icmp .eq 15) 3 32, xz, xz, xq (.iload_n 2) 1, xqv (.bipush 123) 2 123, xz, xqa (.if_icmp .ne 13) 3 36, xz, xz, xq (.iload_n 3) 1, xqv (.bipush 125) 2 125, xz, xqa (.if_icmp .ne 7) 3 36, xz, xz, xqv (.iconst 1) 1 1, xqa (.goto 4) 3 37, xz, xz, xqv (.iconst 0) 1 0, xq (.istore 4) 2, xz, xq (.iload 4) 2, xz, xqa (.ifCond .ne 15) 3 56, xz, xz, xq (.iload_n 2) 1, xqv (.bipush 33) 2 33, xz, xqa (.if_icmp .eq 9) 3 56, xz, xz, xq (.iload_n 2) 1, xqv (.bipush 59) 2 59, xz, xqa (.if_icmp .ne 40) 3 93, xz, xz, xq (.aload_n 0) 1, xqv (.iconst 4) 1 4, xqc (.putfield 179) 3 7 20 1134, xz, xz, xq (.aload_n 0) 1, xq (.iload_n 2) 1, xqc (.invokevirtual 162) 3 155 2 1318, xz, xz, xq (.iload 4) 2, xz, xqa (.ifCond .eq 8) 3 76, xz, xz, xq (.aload_n 0) 1, xq (.iload_n 3) 1, xqc (.invokevirtual 162) 3 155 2 1318, xz, xz, xq (.aload_n 0) 1, xq (.iload_n 1) 1, xq (.iload 4) 2, xz, xqa (.ifCond .eq 7) 3 87, xz, xz, xqv (.iconst 2) 1 2, xqa (.goto 4) 3 88, xz, xz, xqv (.iconst 1) 1 1, xq .iadd 1, xqc (.putfield 182) 3 7 22 1136, xz, xz, xq .return_ 1, xq (.iload_n 2) 1, xqv (.bipush 40) 2 40, xz, xqa (.if_icmp .eq 45) 3 141, xz, xz, xq (.iload_n 2) 1, xqv (.bipush 41) 2 41, xz, xqa (.if_icmp .eq 39) 3 141, xz, xz, xq (.iload_n 2) 1, xqv (.bipush 91) 2 91, xz, xqa (.if_icmp .eq 33) 3 141, xz, xz, xq (.iload_n 2) 1, xqv (.bipush 93) 2 93, xz, xqa (.if_icmp .eq 27) 3 141, xz, xz, xq (.iload_n 2) 1, xqv (.bipush 123) 2 123, xz, xqa (.if_icmp .eq 21) 3 141, xz, xz, xq (.iload_n 2) 1, xqv (.bipush 125) 2 125, xz, xqa (.if_icmp .eq 15) 3 141, xz, xz, xq (.iload_n 2) 1, xqv (.bipush 44) 2 44, xz, xqa (.if_icmp .eq 9) 3 141, xz, xz, xq (.iload_n 2) 1, xqv (.bipush 124) 2 124, xz, xqa (.if_icmp .ne 7) 3 145, xz, xz, xqv (.iconst 1) 1 1, xqa (.goto 4) 3 146, xz, xz, xqv (.iconst 0) 1 0, xq (.istore 5) 2, xz, xq (.aload_n 0) 1, xq (.iload 5) 2, xz, xqa (.ifCond .eq 7) 3 158, xz, xz, xqv (.iconst 5) 1 5, xqa (.goto 5) 3 160, xz, xz, xqv (.bipush 7) 2 7, xz, xqc (.putfield 179) 3 7 20 1134, xz, xz, xq (.aload_n 0) 1, xq (.iload_n 2) 1, xqc (.putfield 173) 3 7 23 1137, xz, xz, xq (.aload_n 0) 1, xq (.iload_n 1) 1, xqv (.iconst 1) 1 1, xq .iadd 1, xqc (.putfield 182) 3 7 22 1136, xz, xz, xq .return_ 1]
-- TermReaderModel.hex(I)I
def xc_160 : List (Option xRow) := [xq (.iload_n 0) 1, xqc (.invokestatic 159) 3 148 1 1315, xz, xz, xqa (.ifCond .eq 10) 3 14, xz, xz, xq (.iload_n 0) 1, xqv (.bipush 48) 2 48, xz, xq .isub 1, xqa (.goto 26) 3 37, xz, xz, xq (.iload_n 0) 1, xqv (.bipush 97) 2 97, xz, xqa (.if_icmp .lt 19) 3 36, xz, xz, xq (.iload_n 0) 1, xqv (.bipush 102) 2 102, xz, xqa (.if_icmp .gt 13) 3 36, xz, xz, xq (.iload_n 0) 1, xqv (.bipush 97) 2 97, xz, xq .isub 1, xqv (.bipush 10) 2 10, xz, xq .iadd 1, xqa (.goto 4) 3 37, xz, xz, xqv (.iconst (-1)) 1 (-1), xq .ireturn 1]
-- TermReaderModel.number(I)V
def xc_161 : List (Option xRow) := [xq (.iload_n 1) 1, xq (.istore_n 2) 1, xq (.aload_n 0) 1, xqv (.iconst 1) 1 1, xqc (.putfield 179) 3 7 20 1134, xz, xz, xq (.aload_n 0) 1, xq (.iload_n 2) 1, xqc (.invokevirtual 149) 3 153 2 1304, xz, xz, xqv (.bipush 48) 2 48, xz, xqa (.if_icmp .ne 68) 3 82, xz, xz, xq (.aload_n 0) 1, xq (.iload_n 2) 1, xqv (.iconst 1) 1 1, xq .iadd 1, xqc (.invokevirtual 149) 3 153 2 1304, xz, xz, xqv (.bipush 39) 2 39, xz, xqa (.if_icmp .ne 56) 3 82, xz, xz, xq (.aload_n 0) 1, xq (.iload_n 2) 1, xqv (.iconst 2) 1 2, xq .iadd 1, xqc (.invokevirtual 149) 3 153 2 1304, xz, xz, xq (.istore_n 3) 1, xq (.aload_n 0) 1, xq (.iload_n 2) 1, xqv (.iconst 2) 1 2, xq .iadd 1, xq (.aload_n 0) 1, xqc (.getfield 142) 3 7 1 1115, xz, xz, xqa (.if_icmp .ge 15) 3 60, xz, xz, xq (.iload_n 3) 1, xqv (.bipush 39) 2 39, xz, xqa (.if_icmp .eq 9) 3 60, xz, xz, xq (.iload_n 3) 1, xqv (.bipush 92) 2 92, xz, xqa (.if_icmp .ne 8) 3 65, xz, xz, xqv (.bipush 7) 2 7, xz, xqa (.goto 4) 3 66, xz, xz, xqv (.iconst 1) 1 1, xqc (.putfield 179) 3 7 20 1134, xz, xz, xq (.aload_n 0) 1, xq (.iload_n 3) 1, xqc (.putfield 173) 3 7 23 1137, xz, xz, xq (.aload_n 0) 1, xq (.iload_n 2) 1, xqv (.iconst 3) 1 3, xq .iadd 1, xqc (.putfield 182) 3 7 22 1136, xz, xz, xq .return_ 1, xq (.aload_n 0) 1, xq (.iload_n 2) 1, xqc (.invokevirtual 149) 3 153 2 1304, xz, xz, xqv (.bipush 48) 2 48, xz, xqa (.if_icmp .ne 32) 3 121, xz, xz, xq (.aload_n 0) 1, xq (.iload_n 2) 1, xqv (.iconst 1) 1 1, xq .iadd 1, xqc (.invokevirtual 149) 3 153 2 1304, xz, xz, xqv (.bipush 120) 2 120, xz, xqa (.if_icmp .ne 20) 3 121, xz, xz, xq (.aload_n 0) 1, xq (.iload_n 2) 1, xqv (.iconst 2) 1 2, xq .iadd 1, xqc (.invokevirtual 149) 3 153 2 1304, xz, xz, xqc (.invokestatic 201) 3 160 1 1326, xz, xz, xqa (.ifCond .lt 7) 3 121, xz, xz, xqv (.iconst 1) 1 1, xqa (.goto 4) 3 122, xz, xz, xqv (.iconst 0) 1 0, xq (.istore_n 3) 1, xq (.iload_n 3) 1, xqa (.ifCond .eq 8) 3 132, xz, xz, xqv (.bipush 16) 2 16, xz, xqa (.goto 5) 3 134, xz, xz, xqv (.bipush 10) 2 10, xz, xq (.istore 4) 2, xz, xq (.iload_n 2) 1, xq (.iload_n 3) 1, xqa (.ifCond .eq 7) 3 145, xz, xz, xqv (.iconst 2) 1 2, xqa (.goto 4) 3 146, xz, xz, xqv (.iconst 0) 1 0, xq .iadd 1, xq (.istore_n 2) 1, xq (.lconst 0) 1, xq (.lstore 5) 2, xz, xq (.iload_n 3) 1, xqa (.ifCond .eq 17) 3 169, xz, xz, xq (.aload_n 0) 1, xq (.iload_n 2) 1, xqc (.invokevirtual 149) 3 153 2 1304, xz, xz, xqc (.invokestatic 201) 3 160 1 1326, xz, xz, xqa (.ifCond .lt 55) 3 218, xz, xz, xqa (.goto 14) 3 180, xz, xz, xq (.aload_n 0) 1, xq (.iload_n 2) 1, xqc (.invokevirtual 149) 3 153 2 1304, xz, xz, xqc (.invokestatic 159) 3 148 1 1315, xz, xz, xqa (.ifCond .eq 41) 3 218, xz, xz, xq (.lload 5) 2, xz, xqk (.ldc2_w 204) 3 0 0 1329 2147483647, xz, xz, xq .lcmp 1, xqa (.ifCond .le 8) 3 194, xz, xz, xq (.lload 5) 2, xz, xqa (.goto 19) 3 210, xz, xz, xq (.lload 5) 2, xz, xq (.iload 4) 2, xz, xq .i2l 1, xq .lmul 1, xq (.aload_n 0) 1, xq (.iload_n 2) 1, xqc (.invokevirtual 149) 3 153 2 1304, xz, xz, xqc (.invokestatic 201) 3 160 1 1326, xz, xz, xq .i2l 1, xq .ladd 1, xq (.lstore 5) 2, xz, xqv (.iinc 2 1) 3 1, xz, xz, xqa (.goto (-64)) 3 151, xz, xz, xq (.aload_n 0) 1, xq (.iload_n 2) 1, xqc (.putfield 182) 3 7 22 1136, xz, xz, xq (.aload_n 0) 1, xq (.lload 5) 2, xz, xqk (.ldc2_w 204) 3 0 0 1329 2147483647, xz, xz, xq .lcmp 1, xqa (.ifCond .le 8) 3 238, xz, xz, xqv (.bipush 7) 2 7, xz, xqa (.goto 4) 3 239, xz, xz, xqv (.iconst 1) 1 1, xqc (.putfield 179) 3 7 20 1134, xz, xz, xq (.aload_n 0) 1, xq (.lload 5) 2, xz, xq .l2i 1, xqc (.putfield 173) 3 7 23 1137, xz, xz, xq .return_ 1]
-- TermReaderModel.quotes(II)V
def xc_162 : List (Option xRow) := [xq (.iload_n 1) 1, xqv (.iconst 1) 1 1, xq .iadd 1, xq (.istore_n 3) 1, xqv (.iconst 0) 1 0, xq (.istore 4) 2, xz, xq (.aload_n 0) 1, xq (.iload_n 2) 1, xqv (.bipush 34) 2 34, xz, xqa (.if_icmp .ne 7) 3 18, xz, xz, xqv (.iconst 3) 1 3, xqa (.goto 4) 3 19, xz, xz, xqv (.iconst 4) 1 4, xqc (.putfield 179) 3 7 20 1134, xz, xz, xq (.aload_n 0) 1, xqv (.iconst 1) 1 1, xqc (.putfield 169) 3 7 24 1138, xz, xz, xq (.iload 4) 2, xz, xqa (.ifCond .ne 191) 3 220, xz, xz, xq (.aload_n 0) 1, xqc (.getfield 179) 3 7 20 1134, xz, xz, xqv (.bipush 7) 2 7, xz, xqa (.if_icmp .eq 182) 3 220, xz, xz, xq (.aload_n 0) 1, xq (.iload_n 3) 1, xqc (.invokevirtual 149) 3 153 2 1304, xz, xz, xq (.istore 5) 2, xz, xq (.aload_n 0) 1, xq (.iload_n 3) 1, xqv (.iconst 1) 1 1, xq .iadd 1, xqc (.invokevirtual 149) 3 153 2 1304, xz, xz, xq (.istore 6) 2, xz, xq (.iload_n 3) 1, xq (.aload_n 0) 1, xqc (.getfield 142) 3 7 1 1115, xz, xz, xqa (.if_icmp .lt 12) 3 74, xz, xz, xq (.aload_n 0) 1, xqv (.bipush 7) 2 7, xz, xqc (.putfield 179) 3 7 20 1134, xz, xz, xqa (.goto 146) 3 217, xz, xz, xq (.iload 5) 2, xz, xq (.iload_n 2) 1, xqa (.if_icmp .ne 25) 3 102, xz, xz, xq (.iload_n 2) 1, xqv (.bipush 39) 2 39, xz, xqa (.if_icmp .ne 10) 3 93, xz, xz, xq (.iload 6) 2, xz, xqv (.bipush 39) 2 39, xz, xqa (.if_icmp .eq 12) 3 102, xz, xz, xqv (.iconst 1) 1 1, xq (.istore 4) 2, xz, xqv (.iinc 3 1) 3 1, xz, xz, xqa (.goto 118) 3 217, xz, xz, xq (.iload 5) 2, xz, xqv (.bipush 92) 2 92, xz, xqa (.if_icmp .ne 91) 3 197, xz, xz, xq (.iload_n 2) 1, xqv (.bipush 39) 2 39, xz, xqa (.if_icmp .ne 35) 3 147, xz, xz, xq (.iload 6) 2, xz, xqv (.bipush 110) 2 110, xz, xqa (.if_icmp .eq 24) 3 143, xz, xz, xq (.iload 6) 2, xz, xqv (.bipush 116) 2 116, xz, xqa (.if_icmp .eq 17) 3 143, xz, xz, xq (.iload 6) 2, xz, xqv (.bipush 92) 2 92, xz, xqa (.if_icmp .eq 10) 3 143, xz, xz, xq (.iload 6) 2, xz, xqv (.bipush 39) 2 39, xz, xqa (.if_icmp .ne 7) 3 147, xz, xz, xqv (.iconst 1) 1 1, xqa (.goto 4) 3 148, xz, xz, xqv (.iconst 0) 1 0, xq (.istore 7) 2, xz, xq (.aload_n 0) 1, xq (.iload 6) 2, xz, xqv (.bipush 110) 2 110, xz, xqa (.if_icmp .ne 8) 3 163, xz, xz, xqv (.bipush 10) 2 10, xz, xqa (.goto 17) 3 177, xz, xz, xq (.iload 6) 2, xz, xqv (.bipush 116) 2 116, xz, xqa (.if_icmp .ne 8) 3 175, xz, xz, xqv (.bipush 9) 2 9, xz, xqa (.goto 5) 3 177, xz, xz, xq (.iload 6) 2, xz, xqc (.invokevirtual 162) 3 155 2 1318, xz, xz, xq (.iload 7) 2, xz, xqa (.ifCond .ne 9) 3 191, xz, xz, xq (.aload_n 0) 1, xqv (.bipush 7) 2 7, xz, xqc (.putfield 179) 3 7 20 1134, xz, xz, xqv (.iinc 3 2) 3 2, xz, xz, xqa (.goto 23) 3 217, xz, xz, xq (.aload_n 0) 1, xq (.iload 5) 2, xz, xqc (.invokevirtual 162) 3 155 2 1318, xz, xz, xq (.iload_n 3) 1, xq (.iload 5) 2, xz, xq (.iload_n 2) 1, xqa (.if_icmp .ne 7) 3 214, xz, xz, xqv (.iconst 2) 1 2, xqa (.goto 4) 3 215, xz, xz, xqv (.iconst 1) 1 1, xq .iadd 1, xq (.istore_n 3) 1, xqa (.goto (-190)) 3 27, xz, xz, xq (.aload_n 0) 1, xq (.iload_n 3) 1, xqc (.putfield 182) 3 7 22 1136, xz, xz, xq (.aload_n 0) 1, xqc (.getfield 153) 3 7 25 1139, xz, xz, xq (.iload_n 2) 1, xqv (.bipush 34) 2 34, xz, xqa (.if_icmp .ne 8) 3 240, xz, xz, xqv (.bipush 12) 2 12, xz, xqa (.goto 5) 3 242, xz, xz, xqv (.bipush 24) 2 24, xz, xqa (.if_icmp .le 9) 3 251, xz, xz, xq (.aload_n 0) 1, xqv (.bipush 7) 2 7, xz, xqc (.putfield 179) 3 7 20 1134, xz, xz, xq .return_ 1]
-- TermReaderModel.key()J
def xc_163 : List (Option xRow) := [xq (.lconst 0) 1, xq (.lstore_n 1) 1, xqv (.iconst 0) 1 0, xq (.istore_n 3) 1, xq (.iload_n 3) 1, xq (.aload_n 0) 1, xqc (.getfield 153) 3 7 25 1139, xz, xz, xqa (.if_icmp .ge 33) 3 42, xz, xz, xq (.aload_n 0) 1, xqc (.getfield 153) 3 7 25 1139, xz, xz, xqv (.bipush 8) 2 8, xz, xqa (.if_icmp .gt 24) 3 42, xz, xz, xq (.lload_n 1) 1, xq (.aload_n 0) 1, xqc (.getfield 50) 3 7 26 1140, xz, xz, xq (.iload_n 3) 1, xq .iaload 1, xq .i2l 1, xqv (.bipush 8) 2 8, xz, xq (.iload_n 3) 1, xq .imul 1, xq .lshl 1, xq .lor 1, xq (.lstore_n 1) 1, xqv (.iinc 3 1) 3 1, xz, xz, xqa (.goto (-35)) 3 4, xz, xz, xq (.aload_n 0) 1, xqc (.getfield 153) 3 7 25 1139, xz, xz, xqv (.bipush 8) 2 8, xz, xqa (.if_icmp .gt 10) 3 58, xz, xz, xq (.aload_n 0) 1, xqc (.getfield 153) 3 7 25 1139, xz, xz, xqa (.ifCond .ne 9) 3 64, xz, xz, xqk (.ldc2_w 206) 3 0 0 1370 (-1), xz, xz, xqa (.goto 4) 3 65, xz, xz, xq (.lload_n 1) 1, xq .lreturn 1]
-- TermReaderModel.keyOf(I)J
def xc_164 : List (Option xRow) := [xq (.aload_n 0) 1, xqc (.getfield 32) 3 7 11 1125, xz, xz, xq (.iload_n 1) 1, xq .iaload 1, xq (.istore_n 2) 1, xq (.lconst 0) 1, xq (.lstore_n 3) 1, xqv (.iconst 0) 1 0, xq (.istore 5) 2, xz, xq (.iload 5) 2, xz, xq (.iload_n 2) 1, xqa (.if_icmp .ge 39) 3 54, xz, xz, xq (.iload_n 2) 1, xqv (.bipush 8) 2 8, xz, xqa (.if_icmp .gt 33) 3 54, xz, xz, xq (.lload_n 3) 1, xq (.aload_n 0) 1, xqc (.getfield 35) 3 7 13 1127, xz, xz, xq (.aload_n 0) 1, xqc (.getfield 29) 3 7 10 1124, xz, xz, xq (.iload_n 1) 1, xq .iaload 1, xq (.iload 5) 2, xz, xq .iadd 1, xq .iaload 1, xq .i2l 1, xqv (.bipush 8) 2 8, xz, xq (.iload 5) 2, xz, xq .imul 1, xq .lshl 1, xq .lor 1, xq (.lstore_n 3) 1, xqv (.iinc 5 1) 3 1, xz, xz, xqa (.goto (-39)) 3 12, xz, xz, xq (.iload_n 2) 1, xqv (.bipush 8) 2 8, xz, xqa (.if_icmp .gt 7) 3 64, xz, xz, xq (.iload_n 2) 1, xqa (.ifCond .ne 9) 3 70, xz, xz, xqk (.ldc2_w 206) 3 0 0 1370 (-1), xz, xz, xqa (.goto 4) 3 71, xz, xz, xq (.lload_n 3) 1, xq .lreturn 1]
-- TermReaderModel.intern()I
def xc_165 : List (Option xRow) := [xqv (.iconst 0) 1 0, xq (.istore_n 1) 1, xq (.iload_n 1) 1, xq (.aload_n 0) 1, xqc (.getfield 208) 3 7 9 1123, xz, xz, xqa (.if_icmp .ge 82) 3 89, xz, xz, xq (.aload_n 0) 1, xqc (.getfield 32) 3 7 11 1125, xz, xz, xq (.iload_n 1) 1, xq .iaload 1, xq (.aload_n 0) 1, xqc (.getfield 153) 3 7 25 1139, xz, xz, xqa (.if_icmp .ne 7) 3 27, xz, xz, xqv (.iconst 1) 1 1, xqa (.goto 4) 3 28, xz, xz, xqv (.iconst 0) 1 0, xq (.istore_n 2) 1, xqv (.iconst 0) 1 0, xq (.istore_n 3) 1, xq (.iload_n 3) 1, xq (.aload_n 0) 1, xqc (.getfield 153) 3 7 25 1139, xz, xz, xqa (.if_icmp .ge 41) 3 77, xz, xz, xq (.iload_n 2) 1, xqa (.ifCond .eq 37) 3 77, xz, xz, xq (.aload_n 0) 1, xqc (.getfield 35) 3 7 13 1127, xz, xz, xq (.aload_n 0) 1, xqc (.getfield 29) 3 7 10 1124, xz, xz, xq (.iload_n 1) 1, xq .iaload 1, xq (.iload_n 3) 1, xq .iadd 1, xq .iaload 1, xq (.aload_n 0) 1, xqc (.getfield 50) 3 7 26 1140, xz, xz, xq (.iload_n 3) 1, xq .iaload 1, xqa (.if_icmp .ne 7) 3 69, xz, xz, xqv (.iconst 1) 1 1, xqa (.goto 4) 3 70, xz, xz, xqv (.iconst 0) 1 0, xq (.istore_n 2) 1, xqv (.iinc 3 1) 3 1, xz, xz, xqa (.goto (-43)) 3 31, xz, xz, xq (.iload_n 2) 1, xqa (.ifCond .eq 5) 3 83, xz, xz, xq (.iload_n 1) 1, xq .ireturn 1, xqv (.iinc 1 1) 3 1, xz, xz, xqa (.goto (-84)) 3 2, xz, xz, xq (.aload_n 0) 1, xqc (.getfield 29) 3 7 10 1124, xz, xz, xq (.aload_n 0) 1, xqc (.getfield 208) 3 7 9 1123, xz, xz, xq (.aload_n 0) 1, xqc (.getfield 211) 3 7 12 1126, xz, xz, xq .iastore 1, xq (.aload_n 0) 1, xqc (.getfield 32) 3 7 11 1125, xz, xz, xq (.aload_n 0) 1, xqc (.getfield 208) 3 7 9 1123, xz, xz, xq (.aload_n 0) 1, xqc (.getfield 153) 3 7 25 1139, xz, xz, xq .iastore 1, xqv (.iconst 0) 1 0, xq (.istore_n 1) 1, xq (.iload_n 1) 1, xq (.aload_n 0) 1, xqc (.getfield 153) 3 7 25 1139, xz, xz, xqa (.if_icmp .ge 26) 3 148, xz, xz, xq (.aload_n 0) 1, xqc (.getfield 35) 3 7 13 1127, xz, xz, xq (.aload_n 0) 1, xqc (.getfield 211) 3 7 12 1126, xz, xz, xq (.iload_n 1) 1, xq .iadd 1, xq (.aload_n 0) 1, xqc (.getfield 50) 3 7 26 1140, xz, xz, xq (.iload_n 1) 1, xq .iaload 1, xq .iastore 1, xqv (.iinc 1 1) 3 1, xz, xz, xqa (.goto (-28)) 3 117, xz, xz, xq (.aload_n 0) 1, xq .dup 1, xqc (.getfield 211) 3 7 12 1126, xz, xz, xq (.aload_n 0) 1, xqc (.getfield 153) 3 7 25 1139, xz, xz, xq .iadd 1, xqc (.putfield 211) 3 7 12 1126, xz, xz, xq (.aload_n 0) 1, xq .dup 1, xqc (.getfield 208) 3 7 9 1123, xz, xz, xqv (.iconst 1) 1 1, xq .iadd 1, xqc (.putfield 208) 3 7 9 1123, xz, xz, xq (.aload_n 0) 1, xqc (.getfield 208) 3 7 9 1123, xz, xz, xqv (.iconst 1) 1 1, xq .isub 1, xq .ireturn 1]
-- TermReaderModel.named(II)I
def xc_166 : List (Option xRow) := [xq (.aload_n 0) 1, xqv (.iconst 0) 1 0, xqc (.putfield 153) 3 7 25 1139, xz, xz, xq (.aload_n 0) 1, xq (.iload_n 1) 1, xqc (.invokevirtual 162) 3 155 2 1318, xz, xz, xq (.iload_n 2) 1, xqa (.ifCond .le 8) 3 19, xz, xz, xq (.aload_n 0) 1, xq (.iload_n 2) 1, xqc (.invokevirtual 162) 3 155 2 1318, xz, xz, xq (.aload_n 0) 1, xqc (.invokevirtual 214) 3 165 1 1350, xz, xz, xq .ireturn 1]
-- TermReaderModel.add(III)I
def xc_167 : List (Option xRow) := [xq (.aload_n 0) 1, xqc (.getfield 41) 3 7 17 1131, xz, xz, xq (.aload_n 0) 1, xqc (.getfield 217) 3 7 16 1130, xz, xz, xq (.iload_n 1) 1, xq .iastore 1, xq (.aload_n 0) 1, xqc (.getfield 44) 3 7 18 1132, xz, xz, xq (.aload_n 0) 1, xqc (.getfield 217) 3 7 16 1130, xz, xz, xq (.iload_n 2) 1, xq .iastore 1, xq (.aload_n 0) 1, xqc (.getfield 47) 3 7 19 1133, xz, xz, xq (.aload_n 0) 1, xqc (.getfield 217) 3 7 16 1130, xz, xz, xq (.iload_n 3) 1, xq .iastore 1, xq (.aload_n 0) 1, xq .dup 1, xqc (.getfield 217) 3 7 16 1130, xz, xz, xqv (.iconst 1) 1 1, xq .iadd 1, xqc (.putfield 217) 3 7 16 1130, xz, xz, xq (.aload_n 0) 1, xqc (.getfield 217) 3 7 16 1130, xz, xz, xqv (.iconst 1) 1 1, xq .isub 1, xq .ireturn 1]
-- TermReaderModel.ahead(III)V
def xc_168 : List (Option xRow) := [xq (.aload_n 0) 1, xqc (.getfield 217) 3 7 16 1130, xz, xz, xq (.istore 4) 2, xz, xq (.iload 4) 2, xz, xq (.iload_n 1) 1, xqa (.if_icmp .le 57) 3 66, xz, xz, xq (.aload_n 0) 1, xqc (.getfield 41) 3 7 17 1131, xz, xz, xq (.iload 4) 2, xz, xq (.aload_n 0) 1, xqc (.getfield 41) 3 7 17 1131, xz, xz, xq (.iload 4) 2, xz, xqv (.iconst 1) 1 1, xq .isub 1, xq .iaload 1, xq .iastore 1, xq (.aload_n 0) 1, xqc (.getfield 44) 3 7 18 1132, xz, xz, xq (.iload 4) 2, xz, xq (.aload_n 0) 1, xqc (.getfield 44) 3 7 18 1132, xz, xz, xq (.iload 4) 2, xz, xqv (.iconst 1) 1 1, xq .isub 1, xq .iaload 1, xq .iastore 1, xq (.aload_n 0) 1, xqc (.getfield 47) 3 7 19 1133, xz, xz, xq (.iload 4) 2, xz, xq (.aload_n 0) 1, xqc (.getfield 47) 3 7 19 1133, xz, xz, xq (.iload 4) 2, xz, xqv (.iconst 1) 1 1, xq .isub 1, xq .iaload 1, xq .iastore 1, xqv (.iinc 4 (-1)) 3 (-1), xz, xz, xqa (.goto (-57)) 3 6, xz, xz, xq (.aload_n 0) 1, xqc (.getfield 41) 3 7 17 1131, xz, xz, xq (.iload_n 1) 1, xqv (.iconst 3) 1 3, xq .iastore 1, xq (.aload_n 0) 1, xqc (.getfield 44) 3 7 18 1132, xz, xz, xq (.iload_n 1) 1, xq (.iload_n 2) 1, xq .iastore 1, xq (.aload_n 0) 1, xqc (.getfield 47) 3 7 19 1133, xz, xz, xq (.iload_n 1) 1, xq (.iload_n 3) 1, xq .iastore 1, xq (.aload_n 0) 1, xq .dup 1, xqc (.getfield 217) 3 7 16 1130, xz, xz, xqv (.iconst 1) 1 1, xq .iadd 1, xqc (.putfield 217) 3 7 16 1130, xz, xz, xq .return_ 1]
-- TermReaderModel.enter(III)V
def xc_169 : List (Option xRow) := [xq (.aload_n 0) 1, xqc (.getfield 220) 3 7 29 1143, xz, xz, xqv (.bipush 10) 2 10, xz, xqa (.if_icmp .le 9) 3 15, xz, xz, xq (.aload_n 0) 1, xqv (.iconst 1) 1 1, xqc (.putfield 223) 3 7 28 1142, xz, xz, xq .return_ 1, xq (.aload_n 0) 1, xqc (.getfield 53) 3 7 30 1144, xz, xz, xq (.aload_n 0) 1, xqc (.getfield 220) 3 7 29 1143, xz, xz, xq (.iload_n 1) 1, xq .iastore 1, xq (.aload_n 0) 1, xqc (.getfield 56) 3 7 31 1145, xz, xz, xq (.aload_n 0) 1, xqc (.getfield 220) 3 7 29 1143, xz, xz, xq (.aload_n 0) 1, xqc (.getfield 217) 3 7 16 1130, xz, xz, xq .iastore 1, xq (.aload_n 0) 1, xqc (.getfield 59) 3 7 32 1146, xz, xz, xq (.aload_n 0) 1, xqc (.getfield 220) 3 7 29 1143, xz, xz, xqv (.iconst (-1)) 1 (-1), xq .iastore 1, xq (.aload_n 0) 1, xqc (.getfield 62) 3 7 33 1147, xz, xz, xq (.aload_n 0) 1, xqc (.getfield 220) 3 7 29 1143, xz, xz, xq (.iload_n 2) 1, xq .iastore 1, xq (.aload_n 0) 1, xqc (.getfield 65) 3 7 34 1148, xz, xz, xq (.aload_n 0) 1, xqc (.getfield 220) 3 7 29 1143, xz, xz, xq (.iload_n 3) 1, xq .iastore 1, xq (.aload_n 0) 1, xq .dup 1, xqc (.getfield 220) 3 7 29 1143, xz, xz, xqv (.iconst 1) 1 1, xq .iadd 1, xqc (.putfield 220) 3 7 29 1143, xz, xz, xq .return_ 1]
-- TermReaderModel.canBegin()Z
def xc_170 : List (Option xRow) := [xq (.aload_n 0) 1, xqc (.getfield 179) 3 7 20 1134, xz, xz, xqa (.ifCond .eq 78) 3 82, xz, xz, xq (.aload_n 0) 1, xqc (.getfield 179) 3 7 20 1134, xz, xz, xqv (.bipush 6) 2 6, xz, xqa (.if_icmp .eq 69) 3 82, xz, xz, xq (.aload_n 0) 1, xqc (.getfield 179) 3 7 20 1134, xz, xz, xqv (.bipush 7) 2 7, xz, xqa (.if_icmp .eq 60) 3 82, xz, xz, xq (.aload_n 0) 1, xqc (.getfield 179) 3 7 20 1134, xz, xz, xqv (.iconst 5) 1 5, xqa (.if_icmp .ne 48) 3 78, xz, xz, xq (.aload_n 0) 1, xqc (.getfield 173) 3 7 23 1137, xz, xz, xqv (.bipush 41) 2 41, xz, xqa (.if_icmp .eq 43) 3 82, xz, xz, xq (.aload_n 0) 1, xqc (.getfield 173) 3 7 23 1137, xz, xz, xqv (.bipush 93) 2 93, xz, xqa (.if_icmp .eq 34) 3 82, xz, xz, xq (.aload_n 0) 1, xqc (.getfield 173) 3 7 23 1137, xz, xz, xqv (.bipush 125) 2 125, xz, xqa (.if_icmp .eq 25) 3 82, xz, xz, xq (.aload_n 0) 1, xqc (.getfield 173) 3 7 23 1137, xz, xz, xqv (.bipush 44) 2 44, xz, xqa (.if_icmp .eq 16) 3 82, xz, xz, xq (.aload_n 0) 1, xqc (.getfield 173) 3 7 23 1137, xz, xz, xqv (.bipush 124) 2 124, xz, xqa (.if_icmp .eq 7) 3 82, xz, xz, xqv (.iconst 1) 1 1, xqa (.goto 4) 3 83, xz, xz, xqv (.iconst 0) 1 0, xq .ireturn 1]
-- TermReaderModel.variable()I
def xc_171 : List (Option xRow) := [xq (.aload_n 0) 1, xqc (.getfield 153) 3 7 25 1139, xz, xz, xqv (.iconst 1) 1 1, xqa (.if_icmp .ne 18) 3 23, xz, xz, xq (.aload_n 0) 1, xqc (.getfield 50) 3 7 26 1140, xz, xz, xqv (.iconst 0) 1 0, xq .iaload 1, xqv (.bipush 95) 2 95, xz, xqa (.if_icmp .ne 7) 3 23, xz, xz, xqv (.iconst 1) 1 1, xqa (.goto 4) 3 24, xz, xz, xqv (.iconst 0) 1 0, xq (.istore_n 1) 1, xq (.aload_n 0) 1, xqc (.invokevirtual 214) 3 165 1 1350, xz, xz, xq (.istore_n 2) 1, xqv (.iconst 0) 1 0, xq (.istore_n 3) 1, xq (.iload_n 3) 1, xq (.aload_n 0) 1, xqc (.getfield 226) 3 7 35 1149, xz, xz, xqa (.if_icmp .ge 25) 3 62, xz, xz, xq (.iload_n 1) 1, xqa (.ifCond .ne 21) 3 62, xz, xz, xq (.aload_n 0) 1, xqc (.getfield 68) 3 7 36 1150, xz, xz, xq (.iload_n 3) 1, xq .iaload 1, xq (.iload_n 2) 1, xqa (.if_icmp .ne 5) 3 56, xz, xz, xq (.iload_n 3) 1, xq .ireturn 1, xqv (.iinc 3 1) 3 1, xz, xz, xqa (.goto (-27)) 3 32, xz, xz, xq (.aload_n 0) 1, xqc (.getfield 68) 3 7 36 1150, xz, xz, xq (.aload_n 0) 1, xqc (.getfield 226) 3 7 35 1149, xz, xz, xq (.iload_n 1) 1, xqa (.ifCond .eq 7) 3 78, xz, xz, xqv (.iconst (-1)) 1 (-1), xqa (.goto 4) 3 79, xz, xz, xq (.iload_n 2) 1, xq .iastore 1, xq (.aload_n 0) 1, xq .dup 1, xqc (.getfield 226) 3 7 35 1149, xz, xz, xqv (.iconst 1) 1 1, xq .iadd 1, xqc (.putfield 226) 3 7 35 1149, xz, xz, xq (.aload_n 0) 1, xqc (.getfield 226) 3 7 35 1149, xz, xz, xqv (.iconst 1) 1 1, xq .isub 1, xq .ireturn 1]
-- TermReaderModel.string()V
def xc_172 : List (Option xRow) := [xq (.aload_n 0) 1, xqc (.getfield 153) 3 7 25 1139, xz, xz, xq (.istore_n 1) 1, xqv (.iconst 0) 1 0, xq (.istore_n 2) 1, xq (.iload_n 2) 1, xq (.iload_n 1) 1, xqa (.if_icmp .ge 21) 3 30, xz, xz, xq (.aload_n 0) 1, xqc (.getfield 77) 3 7 41 1155, xz, xz, xq (.iload_n 2) 1, xq (.aload_n 0) 1, xqc (.getfield 50) 3 7 26 1140, xz, xz, xq (.iload_n 2) 1, xq .iaload 1, xq .iastore 1, xqv (.iinc 2 1) 3 1, xz, xz, xqa (.goto (-20)) 3 7, xz, xz, xq (.aload_n 0) 1, xqv (.bipush 46) 2 46, xz, xqv (.iconst 0) 1 0, xqc (.invokevirtual 229) 3 166 3 1358, xz, xz, xq (.istore_n 2) 1, xqv (.iconst 0) 1 0, xq (.istore_n 3) 1, xq (.iload_n 3) 1, xq (.iload_n 1) 1, xqa (.if_icmp .ge 32) 3 74, xz, xz, xq (.aload_n 0) 1, xqv (.iconst 3) 1 3, xq (.iload_n 2) 1, xqv (.iconst 2) 1 2, xqc (.invokevirtual 232) 3 167 4 1342, xz, xz, xq (.istore 4) 2, xz, xq (.aload_n 0) 1, xqv (.iconst 1) 1 1, xq (.aload_n 0) 1, xqc (.getfield 77) 3 7 41 1155, xz, xz, xq (.iload_n 3) 1, xq .iaload 1, xqv (.iconst 0) 1 0, xqc (.invokevirtual 232) 3 167 4 1342, xz, xz, xq (.istore 5) 2, xz, xqv (.iinc 3 1) 3 1, xz, xz, xqa (.goto (-31)) 3 40, xz, xz, xq (.aload_n 0) 1, xqv (.iconst 2) 1 2, xq (.aload_n 0) 1, xqv (.bipush 91) 2 91, xz, xqv (.bipush 93) 2 93, xz, xqc (.invokevirtual 229) 3 166 3 1358, xz, xz, xqv (.iconst 0) 1 0, xqc (.invokevirtual 232) 3 167 4 1342, xz, xz, xq (.istore_n 3) 1, xq .return_ 1]
-- TermReaderModel.begin()V
def xc_173 : List (Option xRow) := [xq (.aload_n 0) 1, xqc (.getfield 220) 3 7 29 1143, xz, xz, xqv (.iconst 1) 1 1, xq .isub 1, xq (.istore_n 1) 1, xq (.aload_n 0) 1, xq (.aload_n 0) 1, xqc (.getfield 236) 3 7 27 1141, xz, xz, xqc (.invokevirtual 239) 3 157 2 1296, xz, xz, xq (.aload_n 0) 1, xq (.aload_n 0) 1, xqc (.getfield 182) 3 7 22 1136, xz, xz, xqc (.putfield 236) 3 7 27 1141, xz, xz, xq (.aload_n 0) 1, xqc (.getfield 179) 3 7 20 1134, xz, xz, xqv (.iconst 1) 1 1, xqa (.if_icmp .ne 17) 3 45, xz, xz, xq (.aload_n 0) 1, xqv (.iconst 1) 1 1, xq (.aload_n 0) 1, xqc (.getfield 173) 3 7 23 1137, xz, xz, xqv (.iconst 0) 1 0, xqc (.invokevirtual 232) 3 167 4 1342, xz, xz, xq (.istore_n 2) 1, xqa (.goto 169) 3 211, xz, xz, xq (.aload_n 0) 1, xqc (.getfield 179) 3 7 20 1134, xz, xz, xqv (.iconst 2) 1 2, xqa (.if_icmp .ne 17) 3 67, xz, xz, xq (.aload_n 0) 1, xqv (.iconst 0) 1 0, xq (.aload_n 0) 1, xqc (.invokevirtual 242) 3 171 1 1346, xz, xz, xqv (.iconst 0) 1 0, xqc (.invokevirtual 232) 3 167 4 1342, xz, xz, xq (.istore_n 2) 1, xqa (.goto 147) 3 211, xz, xz, xq (.aload_n 0) 1, xqc (.getfield 179) 3 7 20 1134, xz, xz, xqv (.iconst 3) 1 3, xqa (.if_icmp .ne 10) 3 82, xz, xz, xq (.aload_n 0) 1, xqc (.invokevirtual 245) 3 172 1 1354, xz, xz, xqa (.goto 132) 3 211, xz, xz, xq (.aload_n 0) 1, xqc (.getfield 179) 3 7 20 1134, xz, xz, xqv (.iconst 4) 1 4, xqa (.if_icmp .ne 9) 3 96, xz, xz, xq (.aload_n 0) 1, xq (.iload_n 1) 1, xqc (.invokevirtual 248) 3 174 2 1362, xz, xz, xq .return_ 1, xq (.aload_n 0) 1, xqc (.getfield 179) 3 7 20 1134, xz, xz, xqv (.iconst 5) 1 5, xqa (.if_icmp .ne 22) 3 123, xz, xz, xq (.aload_n 0) 1, xqc (.getfield 173) 3 7 23 1137, xz, xz, xqv (.bipush 40) 2 40, xz, xqa (.if_icmp .ne 13) 3 123, xz, xz, xq (.aload_n 0) 1, xqv (.sipush 1200) 3 1200, xz, xz, xqv (.iconst 1) 1 1, xqv (.iconst 0) 1 0, xqc (.invokevirtual 251) 3 169 4 1288, xz, xz, xq .return_ 1, xq (.aload_n 0) 1, xqc (.getfield 179) 3 7 20 1134, xz, xz, xqv (.iconst 5) 1 5, xqa (.if_icmp .ne 36) 3 164, xz, xz, xq (.aload_n 0) 1, xqc (.getfield 173) 3 7 23 1137, xz, xz, xqv (.bipush 91) 2 91, xz, xqa (.if_icmp .ne 27) 3 164, xz, xz, xq (.aload_n 0) 1, xqv (.iconst 3) 1 3, xq (.aload_n 0) 1, xqv (.bipush 46) 2 46, xz, xqv (.iconst 0) 1 0, xqc (.invokevirtual 229) 3 166 3 1358, xz, xz, xqv (.iconst 2) 1 2, xqc (.invokevirtual 232) 3 167 4 1342, xz, xz, xq (.istore_n 2) 1, xq (.aload_n 0) 1, xqv (.sipush 999) 3 999, xz, xz, xqv (.iconst 3) 1 3, xqv (.iconst 0) 1 0, xqc (.invokevirtual 251) 3 169 4 1288, xz, xz, xq .return_ 1, xq (.aload_n 0) 1, xqc (.getfield 179) 3 7 20 1134, xz, xz, xqv (.iconst 5) 1 5, xqa (.if_icmp .ne 37) 3 206, xz, xz, xq (.aload_n 0) 1, xqc (.getfield 173) 3 7 23 1137, xz, xz, xqv (.bipush 123) 2 123, xz, xqa (.if_icmp .ne 28) 3 206, xz, xz, xq (.aload_n 0) 1, xqv (.iconst 3) 1 3, xq (.aload_n 0) 1, xqv (.bipush 123) 2 123, xz, xqv (.bipush 125) 2 125, xz, xqc (.invokevirtual 229) 3 166 3 1358, xz, xz, xqv (.iconst 1) 1 1, xqc (.invokevirtual 232) 3 167 4 1342, xz, xz, xq (.istore_n 2) 1, xq (.aload_n 0) 1, xqv (.sipush 1200) 3 1200, xz, xz, xqv (.iconst 5) 1 5, xqv (.iconst 0) 1 0, xqc (.invokevirtual 251) 3 169 4 1288, xz, xz, xq .return_ 1, xq (.aload_n 0) 1, xqv (.iconst 1) 1 1, xqc (.putfield 223) 3 7 28 1142, xz, xz, xq (.aload_n 0) 1, xqc (.getfield 59) 3 7 32 1146, xz, xz, xq (.iload_n 1) 1, xqv (.iconst 0) 1 0, xq .iastore 1, xq .return_ 1]
-- TermReaderModel.nameBegins(I)V
def xc_174 : List (Option xRow) := [xq (.aload_n 0) 1, xqc (.getfield 169) 3 7 24 1138, xz, xz, xqa (.ifCond .ne 40) 3 44, xz, xz, xq (.aload_n 0) 1, xqc (.getfield 153) 3 7 25 1139, xz, xz, xqv (.iconst 1) 1 1, xqa (.if_icmp .ne 32) 3 44, xz, xz, xq (.aload_n 0) 1, xqc (.getfield 50) 3 7 26 1140, xz, xz, xqv (.iconst 0) 1 0, xq .iaload 1, xqv (.bipush 45) 2 45, xz, xqa (.if_icmp .ne 21) 3 44, xz, xz, xq (.aload_n 0) 1, xq (.aload_n 0) 1, xqc (.getfield 182) 3 7 22 1136, xz, xz, xqc (.invokevirtual 149) 3 153 2 1304, xz, xz, xqc (.invokestatic 159) 3 148 1 1315, xz, xz, xqa (.ifCond .eq 7) 3 44, xz, xz, xqv (.iconst 1) 1 1, xqa (.goto 4) 3 45, xz, xz, xqv (.iconst 0) 1 0, xq (.istore_n 2) 1, xq (.iload_n 2) 1, xqa (.ifCond .eq 63) 3 110, xz, xz, xq (.aload_n 0) 1, xq (.aload_n 0) 1, xqc (.getfield 236) 3 7 27 1141, xz, xz, xqc (.invokevirtual 239) 3 157 2 1296, xz, xz, xq (.aload_n 0) 1, xq (.aload_n 0) 1, xqc (.getfield 182) 3 7 22 1136, xz, xz, xqc (.putfield 236) 3 7 27 1141, xz, xz, xq (.aload_n 0) 1, xq (.aload_n 0) 1, xqc (.getfield 223) 3 7 28 1142, xz, xz, xqa (.ifCond .ne 11) 3 82, xz, xz, xq (.aload_n 0) 1, xqc (.getfield 179) 3 7 20 1134, xz, xz, xqv (.iconst 1) 1 1, xqa (.if_icmp .eq 7) 3 86, xz, xz, xqv (.iconst 1) 1 1, xqa (.goto 4) 3 87, xz, xz, xqv (.iconst 0) 1 0, xqc (.putfield 223) 3 7 28 1142, xz, xz, xq (.aload_n 0) 1, xqv (.iconst 1) 1 1, xq (.aload_n 0) 1, xqc (.getfield 173) 3 7 23 1137, xz, xz, xq .ineg 1, xqv (.iconst 0) 1 0, xqc (.invokevirtual 232) 3 167 4 1342, xz, xz, xq (.istore_n 3) 1, xq (.aload_n 0) 1, xqc (.getfield 59) 3 7 32 1146, xz, xz, xq (.iload_n 1) 1, xqv (.iconst 0) 1 0, xq .iastore 1, xq .return_ 1, xq (.aload_n 0) 1, xqc (.invokevirtual 214) 3 165 1 1350, xz, xz, xq (.istore_n 3) 1, xq (.aload_n 0) 1, xqc (.invokevirtual 255) 3 163 1 1366, xz, xz, xq (.lstore 4) 2, xz, xq (.aload_n 0) 1, xq (.aload_n 0) 1, xqc (.getfield 182) 3 7 22 1136, xz, xz, xqc (.invokevirtual 149) 3 153 2 1304, xz, xz, xqv (.bipush 40) 2 40, xz, xqa (.if_icmp .ne 33) 3 164, xz, xz, xq (.aload_n 0) 1, xq (.aload_n 0) 1, xqc (.getfield 182) 3 7 22 1136, xz, xz, xqv (.iconst 1) 1 1, xq .iadd 1, xqc (.putfield 236) 3 7 27 1141, xz, xz, xq (.aload_n 0) 1, xqv (.iconst 3) 1 3, xq (.iload_n 3) 1, xqv (.iconst 0) 1 0, xqc (.invokevirtual 232) 3 167 4 1342, xz, xz, xq (.istore 6) 2, xz, xq (.aload_n 0) 1, xqv (.sipush 999) 3 999, xz, xz, xqv (.iconst 2) 1 2, xq (.iload 6) 2, xz, xqc (.invokevirtual 251) 3 169 4 1288, xz, xz, xq .return_ 1, xq (.aload_n 0) 1, xq (.lload 4) 2, xz, xqc (.invokevirtual 259) 3 137 2 1371, xz, xz, xq (.istore 6) 2, xz, xq (.iload 6) 2, xz, xqa (.ifCond .le 169) 3 343, xz, xz, xq (.iload 6) 2, xz, xq (.aload_n 0) 1, xqc (.getfield 53) 3 7 30 1144, xz, xz, xq (.iload_n 1) 1, xq .iaload 1, xqa (.if_icmp .gt 158) 3 343, xz, xz, xq (.aload_n 0) 1, xq (.aload_n 0) 1, xqc (.getfield 236) 3 7 27 1141, xz, xz, xqc (.invokevirtual 239) 3 157 2 1296, xz, xz, xq (.aload_n 0) 1, xqc (.getfield 169) 3 7 24 1138, xz, xz, xqa (.ifCond .ne 40) 3 240, xz, xz, xq (.aload_n 0) 1, xqc (.getfield 153) 3 7 25 1139, xz, xz, xqv (.iconst 1) 1 1, xqa (.if_icmp .ne 32) 3 240, xz, xz, xq (.aload_n 0) 1, xqc (.getfield 50) 3 7 26 1140, xz, xz, xqv (.iconst 0) 1 0, xq .iaload 1, xqv (.bipush 45) 2 45, xz, xqa (.if_icmp .ne 21) 3 240, xz, xz, xq (.aload_n 0) 1, xq (.aload_n 0) 1, xqc (.getfield 182) 3 7 22 1136, xz, xz, xqc (.invokevirtual 149) 3 153 2 1304, xz, xz, xqc (.invokestatic 159) 3 148 1 1315, xz, xz, xqa (.ifCond .eq 7) 3 240, xz, xz, xqv (.iconst 1) 1 1, xqa (.goto 4) 3 241, xz, xz, xqv (.iconst 0) 1 0, xq (.istore 7) 2, xz, xq (.aload_n 0) 1, xqc (.getfield 179) 3 7 20 1134, xz, xz, xqv (.iconst 4) 1 4, xqa (.if_icmp .ne 56) 3 304, xz, xz, xq (.aload_n 0) 1, xq (.aload_n 0) 1, xqc (.getfield 182) 3 7 22 1136, xz, xz, xqc (.invokevirtual 149) 3 153 2 1304, xz, xz, xqv (.bipush 40) 2 40, xz, xqa (.if_icmp .eq 43) 3 304, xz, xz, xq (.iload 7) 2, xz, xqa (.ifCond .ne 38) 3 304, xz, xz, xq (.aload_n 0) 1, xq (.aload_n 0) 1, xqc (.invokevirtual 255) 3 163 1 1366, xz, xz, xqc (.invokevirtual 108) 3 139 2 1375, xz, xz, xq (.aload_n 0) 1, xq (.aload_n 0) 1, xqc (.invokevirtual 255) 3 163 1 1366, xz, xz, xqc (.invokevirtual 111) 3 140 2 1380, xz, xz, xq .iadd 1, xqa (.ifCond .le 18) 3 304, xz, xz, xq (.aload_n 0) 1, xq (.aload_n 0) 1, xqc (.invokevirtual 255) 3 163 1 1366, xz, xz, xqc (.invokevirtual 259) 3 137 2 1371, xz, xz, xqa (.ifCond .ne 7) 3 304, xz, xz, xqv (.iconst 1) 1 1, xqa (.goto 4) 3 305, xz, xz, xqv (.iconst 0) 1 0, xq (.istore 8) 2, xz, xq (.aload_n 0) 1, xqc (.invokevirtual 262) 3 170 1 1384, xz, xz, xqa (.ifCond .eq 32) 3 343, xz, xz, xq (.iload 8) 2, xz, xqa (.ifCond .ne 27) 3 343, xz, xz, xq (.aload_n 0) 1, xqv (.iconst 3) 1 3, xq (.iload_n 3) 1, xqv (.iconst 1) 1 1, xqc (.invokevirtual 232) 3 167 4 1342, xz, xz, xq (.istore 9) 2, xz, xq (.aload_n 0) 1, xq (.aload_n 0) 1, xq (.lload 4) 2, xz, xqc (.invokevirtual 266) 3 144 2 1388, xz, xz, xqv (.bipush 6) 2 6, xz, xq (.iload 6) 2, xz, xqc (.invokevirtual 251) 3 169 4 1288, xz, xz, xq .return_ 1, xq (.aload_n 0) 1, xqv (.iconst 2) 1 2, xq (.iload_n 3) 1, xqv (.iconst 0) 1 0, xqc (.invokevirtual 232) 3 167 4 1342, xz, xz, xq (.istore 7) 2, xz, xq (.aload_n 0) 1, xqc (.getfield 59) 3 7 32 1146, xz, xz, xq (.iload_n 1) 1, xqv (.iconst 0) 1 0, xq .iastore 1, xq .return_ 1]
-- TermReaderModel.goOn()V
def xc_175 : List (Option xRow) := [xq (.aload_n 0) 1, xqc (.getfield 220) 3 7 29 1143, xz, xz, xqv (.iconst 1) 1 1, xq .isub 1, xq (.istore_n 1) 1, xq (.aload_n 0) 1, xq (.aload_n 0) 1, xqc (.getfield 236) 3 7 27 1141, xz, xz, xqc (.invokevirtual 239) 3 157 2 1296, xz, xz, xq (.aload_n 0) 1, xqc (.getfield 179) 3 7 20 1134, xz, xz, xqv (.iconst 5) 1 5, xqa (.if_icmp .ne 16) 3 36, xz, xz, xq (.aload_n 0) 1, xqc (.getfield 173) 3 7 23 1137, xz, xz, xqv (.bipush 44) 2 44, xz, xqa (.if_icmp .ne 7) 3 36, xz, xz, xqv (.iconst 1) 1 1, xqa (.goto 4) 3 37, xz, xz, xqv (.iconst 0) 1 0, xq (.istore_n 2) 1, xq (.iload_n 2) 1, xqa (.ifCond .eq 9) 3 48, xz, xz, xqk (.ldc2_w 102) 3 0 0 1379 44, xz, xz, xqa (.goto 21) 3 66, xz, xz, xq (.aload_n 0) 1, xqc (.getfield 179) 3 7 20 1134, xz, xz, xqv (.iconst 4) 1 4, xqa (.if_icmp .ne 10) 3 63, xz, xz, xq (.aload_n 0) 1, xqc (.invokevirtual 255) 3 163 1 1366, xz, xz, xqa (.goto 6) 3 66, xz, xz, xqk (.ldc2_w 206) 3 0 0 1370 (-1), xz, xz, xq (.lstore_n 3) 1, xq (.aload_n 0) 1, xqc (.getfield 182) 3 7 22 1136, xz, xz, xq (.istore 5) 2, xz, xq (.aload_n 0) 1, xq (.lload_n 3) 1, xqc (.invokevirtual 108) 3 139 2 1375, xz, xz, xq (.istore 6) 2, xz, xq (.iload 6) 2, xz, xqa (.ifCond .le 102) 3 184, xz, xz, xq (.iload 6) 2, xz, xq (.aload_n 0) 1, xqc (.getfield 53) 3 7 30 1144, xz, xz, xq (.iload_n 1) 1, xq .iaload 1, xqa (.if_icmp .gt 91) 3 184, xz, xz, xq (.aload_n 0) 1, xqc (.getfield 59) 3 7 32 1146, xz, xz, xq (.iload_n 1) 1, xq .iaload 1, xq (.aload_n 0) 1, xq (.lload_n 3) 1, xqc (.invokevirtual 114) 3 141 2 1396, xz, xz, xqa (.if_icmp .gt 77) 3 184, xz, xz, xq (.iload_n 2) 1, xqa (.ifCond .eq 13) 3 124, xz, xz, xq (.aload_n 0) 1, xqv (.bipush 44) 2 44, xz, xqv (.iconst 0) 1 0, xqc (.invokevirtual 229) 3 166 3 1358, xz, xz, xqa (.goto 7) 3 128, xz, xz, xq (.aload_n 0) 1, xqc (.invokevirtual 214) 3 165 1 1350, xz, xz, xq (.istore 7) 2, xz, xq (.aload_n 0) 1, xq (.iload 5) 2, xz, xqc (.invokevirtual 239) 3 157 2 1296, xz, xz, xq (.aload_n 0) 1, xqc (.invokevirtual 262) 3 170 1 1384, xz, xz, xqa (.ifCond .eq 36) 3 176, xz, xz, xq (.aload_n 0) 1, xq (.aload_n 0) 1, xqc (.getfield 56) 3 7 31 1145, xz, xz, xq (.iload_n 1) 1, xq .iaload 1, xq (.iload 7) 2, xz, xqv (.iconst 2) 1 2, xqc (.invokevirtual 269) 3 168 4 1400, xz, xz, xq (.aload_n 0) 1, xq (.iload 5) 2, xz, xqc (.putfield 236) 3 7 27 1141, xz, xz, xq (.aload_n 0) 1, xq (.aload_n 0) 1, xq (.lload_n 3) 1, xqc (.invokevirtual 272) 3 142 2 1404, xz, xz, xqv (.bipush 7) 2 7, xz, xq (.iload 6) 2, xz, xqc (.invokevirtual 251) 3 169 4 1288, xz, xz, xq .return_ 1, xq (.aload_n 0) 1, xq (.aload_n 0) 1, xqc (.getfield 236) 3 7 27 1141, xz, xz, xqc (.invokevirtual 239) 3 157 2 1296, xz, xz, xq (.aload_n 0) 1, xq (.lload_n 3) 1, xqc (.invokevirtual 111) 3 140 2 1380, xz, xz, xq (.istore 7) 2, xz, xq (.iload 7) 2, xz, xqa (.ifCond .le 58) 3 251, xz, xz, xq (.iload 7) 2, xz, xq (.aload_n 0) 1, xqc (.getfield 53) 3 7 30 1144, xz, xz, xq (.iload_n 1) 1, xq .iaload 1, xqa (.if_icmp .gt 47) 3 251, xz, xz, xq (.aload_n 0) 1, xqc (.getfield 59) 3 7 32 1146, xz, xz, xq (.iload_n 1) 1, xq .iaload 1, xq (.aload_n 0) 1, xq (.lload_n 3) 1, xqc (.invokevirtual 114) 3 141 2 1396, xz, xz, xqa (.if_icmp .gt 33) 3 251, xz, xz, xq (.aload_n 0) 1, xq (.aload_n 0) 1, xqc (.getfield 56) 3 7 31 1145, xz, xz, xq (.iload_n 1) 1, xq .iaload 1, xq (.aload_n 0) 1, xqc (.invokevirtual 214) 3 165 1 1350, xz, xz, xqv (.iconst 1) 1 1, xqc (.invokevirtual 269) 3 168 4 1400, xz, xz, xq (.aload_n 0) 1, xq (.iload 5) 2, xz, xqc (.putfield 236) 3 7 27 1141, xz, xz, xq (.aload_n 0) 1, xqc (.getfield 59) 3 7 32 1146, xz, xz, xq (.iload_n 1) 1, xq (.iload 7) 2, xz, xq .iastore 1, xq .return_ 1, xq (.aload_n 0) 1, xq (.aload_n 0) 1, xqc (.getfield 223) 3 7 28 1142, xz, xz, xqa (.ifCond .ne 12) 3 268, xz, xz, xq (.aload_n 0) 1, xqc (.getfield 179) 3 7 20 1134, xz, xz, xqv (.bipush 7) 2 7, xz, xqa (.if_icmp .ne 7) 3 272, xz, xz, xqv (.iconst 1) 1 1, xqa (.goto 4) 3 273, xz, xz, xqv (.iconst 0) 1 0, xqc (.putfield 223) 3 7 28 1142, xz, xz, xq (.aload_n 0) 1, xq .dup 1, xqc (.getfield 220) 3 7 29 1143, xz, xz, xqv (.iconst 1) 1 1, xq .isub 1, xqc (.putfield 220) 3 7 29 1143, xz, xz, xq (.aload_n 0) 1, xqc (.getfield 220) 3 7 29 1143, xz, xz, xqa (.ifCond .le 26) 3 316, xz, xz, xq (.aload_n 0) 1, xqc (.getfield 223) 3 7 28 1142, xz, xz, xqa (.ifCond .ne 19) 3 316, xz, xz, xq (.aload_n 0) 1, xq (.aload_n 0) 1, xqc (.getfield 62) 3 7 33 1147, xz, xz, xq (.iload_n 1) 1, xq .iaload 1, xq (.aload_n 0) 1, xqc (.getfield 65) 3 7 34 1148, xz, xz, xq (.iload_n 1) 1, xq .iaload 1, xqc (.invokevirtual 275) 3 176 3 1408, xz, xz, xq .return_ 1]
-- TermReaderModel.whole(II)V
def xc_176 : List (Option xRow) := [xq (.aload_n 0) 1, xqc (.getfield 220) 3 7 29 1143, xz, xz, xqv (.iconst 1) 1 1, xq .isub 1, xq (.istore_n 3) 1, xq (.iload_n 1) 1, xqv (.bipush 6) 2 6, xz, xqa (.if_icmp .eq 9) 3 19, xz, xz, xq (.iload_n 1) 1, xqv (.bipush 7) 2 7, xz, xqa (.if_icmp .ne 11) 3 27, xz, xz, xq (.aload_n 0) 1, xqc (.getfield 59) 3 7 32 1146, xz, xz, xq (.iload_n 3) 1, xq (.iload_n 2) 1, xq .iastore 1, xq .return_ 1, xq (.aload_n 0) 1, xq (.aload_n 0) 1, xqc (.getfield 236) 3 7 27 1141, xz, xz, xqc (.invokevirtual 239) 3 157 2 1296, xz, xz, xq (.aload_n 0) 1, xq (.aload_n 0) 1, xqc (.getfield 182) 3 7 22 1136, xz, xz, xqc (.putfield 236) 3 7 27 1141, xz, xz, xq (.aload_n 0) 1, xqc (.getfield 179) 3 7 20 1134, xz, xz, xqv (.iconst 5) 1 5, xqa (.if_icmp .ne 10) 3 58, xz, xz, xq (.aload_n 0) 1, xqc (.getfield 173) 3 7 23 1137, xz, xz, xqa (.goto 4) 3 59, xz, xz, xqv (.iconst 0) 1 0, xq (.istore 4) 2, xz, xq (.aload_n 0) 1, xqc (.getfield 59) 3 7 32 1146, xz, xz, xq (.iload_n 3) 1, xqv (.iconst 0) 1 0, xq .iastore 1, xq (.iload_n 1) 1, xqv (.iconst 1) 1 1, xqa (.if_icmp .eq 13) 3 83, xz, xz, xq (.iload_n 1) 1, xqv (.iconst 4) 1 4, xqa (.if_icmp .eq 8) 3 83, xz, xz, xq (.iload_n 1) 1, xqv (.iconst 5) 1 5, xqa (.if_icmp .ne 42) 3 122, xz, xz, xq (.aload_n 0) 1, xq (.iload 4) 2, xz, xq (.iload_n 1) 1, xqv (.iconst 1) 1 1, xqa (.if_icmp .ne 8) 3 96, xz, xz, xqv (.bipush 41) 2 41, xz, xqa (.goto 15) 3 108, xz, xz, xq (.iload_n 1) 1, xqv (.iconst 4) 1 4, xqa (.if_icmp .ne 8) 3 106, xz, xz, xqv (.bipush 93) 2 93, xz, xqa (.goto 5) 3 108, xz, xz, xqv (.bipush 125) 2 125, xz, xqa (.if_icmp .eq 7) 3 115, xz, xz, xqv (.iconst 1) 1 1, xqa (.goto 4) 3 116, xz, xz, xqv (.iconst 0) 1 0, xqc (.putfield 223) 3 7 28 1142, xz, xz, xqa (.goto 162) 3 281, xz, xz, xq (.iload_n 1) 1, xqv (.iconst 2) 1 2, xqa (.if_icmp .ne 73) 3 197, xz, xz, xq (.aload_n 0) 1, xqc (.getfield 47) 3 7 19 1133, xz, xz, xq (.iload_n 2) 1, xq .dup2 1, xq .iaload 1, xqv (.iconst 1) 1 1, xq .iadd 1, xq .iastore 1, xq (.aload_n 0) 1, xq (.iload 4) 2, xz, xqv (.bipush 41) 2 41, xz, xqa (.if_icmp .eq 10) 3 152, xz, xz, xq (.iload 4) 2, xz, xqv (.bipush 44) 2 44, xz, xqa (.if_icmp .ne 14) 3 163, xz, xz, xq (.aload_n 0) 1, xqc (.getfield 47) 3 7 19 1133, xz, xz, xq (.iload_n 2) 1, xq .iaload 1, xqv (.bipush 6) 2 6, xz, xqa (.if_icmp .le 7) 3 167, xz, xz, xqv (.iconst 1) 1 1, xqa (.goto 4) 3 168, xz, xz, xqv (.iconst 0) 1 0, xqc (.putfield 223) 3 7 28 1142, xz, xz, xq (.iload 4) 2, xz, xqv (.bipush 44) 2 44, xz, xqa (.if_icmp .ne 106) 3 281, xz, xz, xq (.aload_n 0) 1, xqc (.getfield 223) 3 7 28 1142, xz, xz, xqa (.ifCond .ne 99) 3 281, xz, xz, xq (.aload_n 0) 1, xqv (.sipush 999) 3 999, xz, xz, xqv (.iconst 2) 1 2, xq (.iload_n 2) 1, xqc (.invokevirtual 251) 3 169 4 1288, xz, xz, xqa (.goto 87) 3 281, xz, xz, xq (.iload 4) 2, xz, xqv (.bipush 44) 2 44, xz, xqa (.if_icmp .ne 30) 3 231, xz, xz, xq (.aload_n 0) 1, xqv (.iconst 3) 1 3, xq (.aload_n 0) 1, xqv (.bipush 46) 2 46, xz, xqv (.iconst 0) 1 0, xqc (.invokevirtual 229) 3 166 3 1358, xz, xz, xqv (.iconst 2) 1 2, xqc (.invokevirtual 232) 3 167 4 1342, xz, xz, xq (.istore 5) 2, xz, xq (.aload_n 0) 1, xqv (.sipush 999) 3 999, xz, xz, xqv (.iconst 3) 1 3, xqv (.iconst 0) 1 0, xqc (.invokevirtual 251) 3 169 4 1288, xz, xz, xqa (.goto 53) 3 281, xz, xz, xq (.iload 4) 2, xz, xqv (.bipush 124) 2 124, xz, xqa (.if_icmp .ne 15) 3 250, xz, xz, xq (.aload_n 0) 1, xqv (.sipush 999) 3 999, xz, xz, xqv (.iconst 4) 1 4, xqv (.iconst 0) 1 0, xqc (.invokevirtual 251) 3 169 4 1288, xz, xz, xqa (.goto 34) 3 281, xz, xz, xq (.iload 4) 2, xz, xqv (.bipush 93) 2 93, xz, xqa (.if_icmp .ne 22) 3 276, xz, xz, xq (.aload_n 0) 1, xqv (.iconst 2) 1 2, xq (.aload_n 0) 1, xqv (.bipush 91) 2 91, xz, xqv (.bipush 93) 2 93, xz, xqc (.invokevirtual 229) 3 166 3 1358, xz, xz, xqv (.iconst 0) 1 0, xqc (.invokevirtual 232) 3 167 4 1342, xz, xz, xq (.istore 5) 2, xz, xqa (.goto 8) 3 281, xz, xz, xq (.aload_n 0) 1, xqv (.iconst 1) 1 1, xqc (.putfield 223) 3 7 28 1142, xz, xz, xq .return_ 1]
-- TermReaderModel.read()I
def xc_177 : List (Option xRow) := [xq (.aload_n 0) 1, xqv (.iconst 0) 1 0, xqc (.putfield 91) 3 7 0 1114, xz, xz, xq (.aload_n 0) 1, xqc (.getfield 217) 3 7 16 1130, xz, xz, xq (.istore_n 1) 1, xq (.aload_n 0) 1, xqc (.getfield 208) 3 7 9 1123, xz, xz, xq (.istore_n 2) 1, xq (.aload_n 0) 1, xqc (.getfield 211) 3 7 12 1126, xz, xz, xq (.istore_n 3) 1, xq (.aload_n 0) 1, xqv (.iconst 0) 1 0, xqc (.putfield 236) 3 7 27 1141, xz, xz, xq (.aload_n 0) 1, xqv (.iconst 0) 1 0, xqc (.putfield 223) 3 7 28 1142, xz, xz, xq (.aload_n 0) 1, xqv (.iconst 0) 1 0, xqc (.putfield 220) 3 7 29 1143, xz, xz, xq (.aload_n 0) 1, xqv (.iconst 0) 1 0, xqc (.putfield 226) 3 7 35 1149, xz, xz, xq (.aload_n 0) 1, xqv (.sipush 1200) 3 1200, xz, xz, xqv (.iconst 0) 1 0, xqv (.iconst 0) 1 0, xqc (.invokevirtual 251) 3 169 4 1288, xz, xz, xq (.aload_n 0) 1, xqc (.getfield 220) 3 7 29 1143, xz, xz, xqa (.ifCond .le 38) 3 91, xz, xz, xq (.aload_n 0) 1, xqc (.getfield 223) 3 7 28 1142, xz, xz, xqa (.ifCond .ne 31) 3 91, xz, xz, xq (.aload_n 0) 1, xqc (.getfield 59) 3 7 32 1146, xz, xz, xq (.aload_n 0) 1, xqc (.getfield 220) 3 7 29 1143, xz, xz, xqv (.iconst 1) 1 1, xq .isub 1, xq .iaload 1, xqa (.ifCond .ge 10) 3 84, xz, xz, xq (.aload_n 0) 1, xqc (.invokevirtual 278) 3 173 1 1292, xz, xz, xqa (.goto (-32)) 3 49, xz, xz, xq (.aload_n 0) 1, xqc (.invokevirtual 281) 3 175 1 1392, xz, xz, xqa (.goto (-39)) 3 49, xz, xz, xq (.aload_n 0) 1, xq (.aload_n 0) 1, xqc (.getfield 236) 3 7 27 1141, xz, xz, xqc (.invokevirtual 239) 3 157 2 1296, xz, xz, xq (.aload_n 0) 1, xq (.aload_n 0) 1, xqc (.getfield 223) 3 7 28 1142, xz, xz, xqa (.ifCond .ne 10) 3 114, xz, xz, xq (.aload_n 0) 1, xqc (.getfield 179) 3 7 20 1134, xz, xz, xqa (.ifCond .eq 7) 3 118, xz, xz, xqv (.iconst 1) 1 1, xqa (.goto 4) 3 119, xz, xz, xqv (.iconst 0) 1 0, xqc (.putfield 223) 3 7 28 1142, xz, xz, xq (.aload_n 0) 1, xq (.aload_n 0) 1, xqc (.getfield 223) 3 7 28 1142, xz, xz, xqa (.ifCond .ne 17) 3 144, xz, xz, xq (.aload_n 0) 1, xq (.iload_n 1) 1, xq (.aload_n 0) 1, xqc (.getfield 217) 3 7 16 1130, xz, xz, xqc (.invokevirtual 284) 3 197 3 1412, xz, xz, xqv (.bipush 14) 2 14, xz, xqa (.if_icmp .le 7) 3 148, xz, xz, xqv (.iconst 1) 1 1, xqa (.goto 4) 3 149, xz, xz, xqv (.iconst 0) 1 0, xqc (.putfield 223) 3 7 28 1142, xz, xz, xq (.aload_n 0) 1, xqc (.getfield 287) 3 7 14 1128, xz, xz, xqv (.bipush 40) 2 40, xz, xqa (.if_icmp .ge 17) 3 175, xz, xz, xq (.aload_n 0) 1, xqc (.getfield 217) 3 7 16 1130, xz, xz, xqv (.sipush 600) 3 600, xz, xz, xqa (.if_icmp .gt 7) 3 175, xz, xz, xqv (.iconst 1) 1 1, xqa (.goto 4) 3 176, xz, xz, xqv (.iconst 0) 1 0, xq (.istore 4) 2, xz, xq (.aload_n 0) 1, xqc (.getfield 223) 3 7 28 1142, xz, xz, xqa (.ifCond .ne 8) 3 190, xz, xz, xq (.iload 4) 2, xz, xqa (.ifCond .ne 47) 3 234, xz, xz, xq (.aload_n 0) 1, xq (.iload_n 1) 1, xqc (.putfield 217) 3 7 16 1130, xz, xz, xq (.aload_n 0) 1, xq (.iload_n 2) 1, xqc (.putfield 208) 3 7 9 1123, xz, xz, xq (.aload_n 0) 1, xq (.iload_n 3) 1, xqc (.putfield 211) 3 7 12 1126, xz, xz, xq (.aload_n 0) 1, xqc (.getfield 223) 3 7 28 1142, xz, xz, xqa (.ifCond .eq 8) 3 217, xz, xz, xq (.aload_n 0) 1, xqv (.iconst 0) 1 0, xqc (.putfield 142) 3 7 1 1115, xz, xz, xq (.aload_n 0) 1, xq (.aload_n 0) 1, xqc (.getfield 223) 3 7 28 1142, xz, xz, xqa (.ifCond .eq 7) 3 229, xz, xz, xqv (.iconst 1) 1 1, xqa (.goto 4) 3 230, xz, xz, xqv (.iconst 2) 1 2, xqc (.invokevirtual 290) 3 132 2 1420, xz, xz, xq .ireturn 1, xq (.aload_n 0) 1, xqc (.getfield 182) 3 7 22 1136, xz, xz, xq (.istore 5) 2, xz, xq (.iload 5) 2, xz, xq (.aload_n 0) 1, xqc (.getfield 142) 3 7 1 1115, xz, xz, xqa (.if_icmp .ge 28) 3 274, xz, xz, xq (.aload_n 0) 1, xqc (.getfield 7) 3 7 2 1116, xz, xz, xq (.iload 5) 2, xz, xq (.aload_n 0) 1, xqc (.getfield 182) 3 7 22 1136, xz, xz, xq .isub 1, xq (.aload_n 0) 1, xqc (.getfield 7) 3 7 2 1116, xz, xz, xq (.iload 5) 2, xz, xq .iaload 1, xq .iastore 1, xqv (.iinc 5 1) 3 1, xz, xz, xqa (.goto (-31)) 3 240, xz, xz, xq (.aload_n 0) 1, xq .dup 1, xqc (.getfield 142) 3 7 1 1115, xz, xz, xq (.aload_n 0) 1, xqc (.getfield 182) 3 7 22 1136, xz, xz, xq .isub 1, xqc (.putfield 142) 3 7 1 1115, xz, xz, xq (.aload_n 0) 1, xqc (.getfield 38) 3 7 15 1129, xz, xz, xq (.aload_n 0) 1, xqc (.getfield 287) 3 7 14 1128, xz, xz, xq (.iload_n 1) 1, xq .iastore 1, xq (.aload_n 0) 1, xq .dup 1, xqc (.getfield 287) 3 7 14 1128, xz, xz, xqv (.iconst 1) 1 1, xq .iadd 1, xqc (.putfield 287) 3 7 14 1128, xz, xz, xq (.aload_n 0) 1, xqc (.getfield 38) 3 7 15 1129, xz, xz, xq (.aload_n 0) 1, xqc (.getfield 287) 3 7 14 1128, xz, xz, xq (.aload_n 0) 1, xqc (.getfield 217) 3 7 16 1130, xz, xz, xq .iastore 1, xq (.aload_n 0) 1, xqc (.getfield 287) 3 7 14 1128, xz, xz, xqv (.iconst 1) 1 1, xq .isub 1, xq .ireturn 1]
-- TermReaderModel.isTerm(I)Z
def xc_178 : List (Option xRow) := [xq (.iload_n 1) 1, xqa (.ifCond .lt 15) 3 16, xz, xz, xq (.iload_n 1) 1, xq (.aload_n 0) 1, xqc (.getfield 287) 3 7 14 1128, xz, xz, xqa (.if_icmp .ge 7) 3 16, xz, xz, xqv (.iconst 1) 1 1, xqa (.goto 4) 3 17, xz, xz, xqv (.iconst 0) 1 0, xq .ireturn 1]
-- TermReaderModel.skip(I)I
def xc_179 : List (Option xRow) := [xqv (.iconst 1) 1 1, xq (.istore_n 2) 1, xq (.iload_n 1) 1, xq (.istore_n 3) 1, xq (.iload_n 2) 1, xqa (.ifCond .le 20) 3 25, xz, xz, xq (.iload_n 2) 1, xq (.aload_n 0) 1, xqc (.getfield 47) 3 7 19 1133, xz, xz, xq (.iload_n 3) 1, xq .iaload 1, xqv (.iconst 1) 1 1, xq .isub 1, xq .iadd 1, xq (.istore_n 2) 1, xqv (.iinc 3 1) 3 1, xz, xz, xqa (.goto (-18)) 3 4, xz, xz, xq (.iload_n 3) 1, xq .ireturn 1]
-- TermReaderModel.out(I)V
def xc_180 : List (Option xRow) := [xq (.aload_n 0) 1, xqc (.getfield 77) 3 7 41 1155, xz, xz, xq (.aload_n 0) 1, xqc (.getfield 293) 3 7 40 1154, xz, xz, xq (.iload_n 1) 1, xq .iastore 1, xq (.aload_n 0) 1, xq .dup 1, xqc (.getfield 293) 3 7 40 1154, xz, xz, xqv (.iconst 1) 1 1, xq .iadd 1, xqc (.putfield 293) 3 7 40 1154, xz, xz, xq .return_ 1]
-- TermReaderModel.later(II)V
def xc_181 : List (Option xRow) := [xq (.aload_n 0) 1, xqc (.getfield 71) 3 7 38 1152, xz, xz, xq (.aload_n 0) 1, xqc (.getfield 296) 3 7 37 1151, xz, xz, xq (.iload_n 1) 1, xq .iastore 1, xq (.aload_n 0) 1, xqc (.getfield 74) 3 7 39 1153, xz, xz, xq (.aload_n 0) 1, xqc (.getfield 296) 3 7 37 1151, xz, xz, xq (.iload_n 2) 1, xq .iastore 1, xq (.aload_n 0) 1, xq .dup 1, xqc (.getfield 296) 3 7 37 1151, xz, xz, xqv (.iconst 1) 1 1, xq .iadd 1, xqc (.putfield 296) 3 7 37 1151, xz, xz, xq .return_ 1]
-- TermReaderModel.digits(J)V
def xc_182 : List (Option xRow) := [xq (.lconst 1) 1, xq (.lstore_n 3) 1, xq (.lload_n 1) 1, xq (.lload_n 3) 1, xq .ldiv 1, xqk (.ldc2_w 299) 3 0 0 1476 9, xz, xz, xq .lcmp 1, xqa (.ifCond .le 12) 3 21, xz, xz, xq (.lload_n 3) 1, xqk (.ldc2_w 301) 3 0 0 1477 10, xz, xz, xq .lmul 1, xq (.lstore_n 3) 1, xqa (.goto (-16)) 3 2, xz, xz, xq (.lload_n 3) 1, xq (.lconst 0) 1, xq .lcmp 1, xqa (.ifCond .le 27) 3 51, xz, xz, xq (.aload_n 0) 1, xqv (.bipush 48) 2 48, xz, xq (.lload_n 1) 1, xq (.lload_n 3) 1, xq .ldiv 1, xqk (.ldc2_w 301) 3 0 0 1477 10, xz, xz, xq .lrem 1, xq .l2i 1, xq .iadd 1, xqc (.invokevirtual 303) 3 180 2 1432, xz, xz, xq (.lload_n 3) 1, xqk (.ldc2_w 301) 3 0 0 1477 10, xz, xz, xq .ldiv 1, xq (.lstore_n 3) 1, xqa (.goto (-27)) 3 21, xz, xz, xq .return_ 1]
-- TermReaderModel.isPlain(I)Z
def xc_183 : List (Option xRow) := [xq (.aload_n 0) 1, xqc (.getfield 32) 3 7 11 1125, xz, xz, xq (.iload_n 1) 1, xq .iaload 1, xq (.istore_n 2) 1, xq (.aload_n 0) 1, xqc (.getfield 29) 3 7 10 1124, xz, xz, xq (.iload_n 1) 1, xq .iaload 1, xq (.istore_n 3) 1, xq (.iload_n 2) 1, xqa (.ifCond .le 12) 3 27, xz, xz, xq (.aload_n 0) 1, xqc (.getfield 35) 3 7 13 1127, xz, xz, xq (.iload_n 3) 1, xq .iaload 1, xqa (.goto 4) 3 28, xz, xz, xqv (.iconst 0) 1 0, xq (.istore 4) 2, xz, xq (.iload_n 2) 1, xqv (.iconst 1) 1 1, xqa (.if_icmp .le 14) 3 46, xz, xz, xq (.aload_n 0) 1, xqc (.getfield 35) 3 7 13 1127, xz, xz, xq (.iload_n 3) 1, xqv (.iconst 1) 1 1, xq .iadd 1, xq .iaload 1, xqa (.goto 4) 3 47, xz, xz, xqv (.iconst 0) 1 0, xq (.istore 5) 2, xz, xq (.iload_n 2) 1, xqa (.ifCond .le 15) 3 65, xz, xz, xq (.iload 4) 2, xz, xqc (.invokestatic 119) 3 146 1 1262, xz, xz, xqa (.ifCond .eq 7) 3 65, xz, xz, xqv (.iconst 1) 1 1, xqa (.goto 4) 3 66, xz, xz, xqv (.iconst 0) 1 0, xq (.istore 6) 2, xz, xq (.iload_n 2) 1, xqa (.ifCond .le 7) 3 76, xz, xz, xqv (.iconst 1) 1 1, xqa (.goto 4) 3 77, xz, xz, xqv (.iconst 0) 1 0, xq (.istore 7) 2, xz, xqv (.iconst 0) 1 0, xq (.istore 8) 2, xz, xq (.iload 8) 2, xz, xq (.iload_n 2) 1, xqa (.if_icmp .ge 76) 3 161, xz, xz, xq (.aload_n 0) 1, xqc (.getfield 35) 3 7 13 1127, xz, xz, xq (.iload_n 3) 1, xq (.iload 8) 2, xz, xq .iadd 1, xq .iaload 1, xq (.istore 9) 2, xz, xq (.iload 6) 2, xz, xqa (.ifCond .eq 31) 3 132, xz, xz, xq (.iload 9) 2, xz, xqc (.invokestatic 119) 3 146 1 1262, xz, xz, xqa (.ifCond .ne 19) 3 128, xz, xz, xq (.iload 9) 2, xz, xqc (.invokestatic 156) 3 147 1 1308, xz, xz, xqa (.ifCond .ne 11) 3 128, xz, xz, xq (.iload 9) 2, xz, xqc (.invokestatic 159) 3 148 1 1315, xz, xz, xqa (.ifCond .eq 7) 3 132, xz, xz, xqv (.iconst 1) 1 1, xqa (.goto 4) 3 133, xz, xz, xqv (.iconst 0) 1 0, xq (.istore 6) 2, xz, xq (.iload 7) 2, xz, xqa (.ifCond .eq 15) 3 152, xz, xz, xq (.iload 9) 2, xz, xqc (.invokestatic 122) 3 145 1 1265, xz, xz, xqa (.ifCond .eq 7) 3 152, xz, xz, xqv (.iconst 1) 1 1, xqa (.goto 4) 3 153, xz, xz, xqv (.iconst 0) 1 0, xq (.istore 7) 2, xz, xqv (.iinc 8 1) 3 1, xz, xz, xqa (.goto (-76)) 3 82, xz, xz, xq (.iload_n 2) 1, xqv (.iconst 1) 1 1, xqa (.if_icmp .ne 10) 3 173, xz, xz, xq (.iload 4) 2, xz, xqv (.bipush 46) 2 46, xz, xqa (.if_icmp .eq 17) 3 187, xz, xz, xq (.iload 4) 2, xz, xqv (.bipush 47) 2 47, xz, xqa (.if_icmp .ne 14) 3 191, xz, xz, xq (.iload 5) 2, xz, xqv (.bipush 42) 2 42, xz, xqa (.if_icmp .ne 7) 3 191, xz, xz, xqv (.iconst 1) 1 1, xqa (.goto 4) 3 192, xz, xz, xqv (.iconst 0) 1 0, xq (.istore 8) 2, xz, xq (.iload 6) 2, xz, xqa (.ifCond .ne 65) 3 261, xz, xz, xq (.iload 7) 2, xz, xqa (.ifCond .eq 8) 3 209, xz, xz, xq (.iload 8) 2, xz, xqa (.ifCond .eq 55) 3 261, xz, xz, xq (.iload_n 2) 1, xqv (.iconst 1) 1 1, xqa (.if_icmp .ne 17) 3 228, xz, xz, xq (.iload 4) 2, xz, xqv (.bipush 33) 2 33, xz, xqa (.if_icmp .eq 43) 3 261, xz, xz, xq (.iload 4) 2, xz, xqv (.bipush 59) 2 59, xz, xqa (.if_icmp .eq 36) 3 261, xz, xz, xq (.iload_n 2) 1, xqv (.iconst 2) 1 2, xqa (.if_icmp .ne 35) 3 265, xz, xz, xq (.iload 4) 2, xz, xqv (.bipush 91) 2 91, xz, xqa (.if_icmp .ne 10) 3 247, xz, xz, xq (.iload 5) 2, xz, xqv (.bipush 93) 2 93, xz, xqa (.if_icmp .eq 17) 3 261, xz, xz, xq (.iload 4) 2, xz, xqv (.bipush 123) 2 123, xz, xqa (.if_icmp .ne 14) 3 265, xz, xz, xq (.iload 5) 2, xz, xqv (.bipush 125) 2 125, xz, xqa (.if_icmp .ne 7) 3 265, xz, xz, xqv (.iconst 1) 1 1, xqa (.goto 4) 3 266, xz, xz, xqv (.iconst 0) 1 0, xq .ireturn 1]
-- TermReaderModel.name(I)V
def xc_184 : List (Option xRow) := [xq (.aload_n 0) 1, xq (.iload_n 1) 1, xqc (.invokevirtual 306) 3 183 2 1440, xz, xz, xq (.istore_n 2) 1, xq (.iload_n 2) 1, xqa (.ifCond .ne 9) 3 16, xz, xz, xq (.aload_n 0) 1, xqv (.bipush 39) 2 39, xz, xqc (.invokevirtual 303) 3 180 2 1432, xz, xz, xqv (.iconst 0) 1 0, xq (.istore_n 3) 1, xq (.iload_n 3) 1, xq (.aload_n 0) 1, xqc (.getfield 32) 3 7 11 1125, xz, xz, xq (.iload_n 1) 1, xq .iaload 1, xqa (.if_icmp .ge 104) 3 129, xz, xz, xq (.aload_n 0) 1, xqc (.getfield 35) 3 7 13 1127, xz, xz, xq (.aload_n 0) 1, xqc (.getfield 29) 3 7 10 1124, xz, xz, xq (.iload_n 1) 1, xq .iaload 1, xq (.iload_n 3) 1, xq .iadd 1, xq .iaload 1, xq (.istore 4) 2, xz, xq (.iload 4) 2, xz, xqv (.bipush 10) 2 10, xz, xqa (.if_icmp .eq 28) 3 75, xz, xz, xq (.iload 4) 2, xz, xqv (.bipush 9) 2 9, xz, xqa (.if_icmp .eq 21) 3 75, xz, xz, xq (.iload_n 2) 1, xqa (.ifCond .ne 21) 3 79, xz, xz, xq (.iload 4) 2, xz, xqv (.bipush 92) 2 92, xz, xqa (.if_icmp .eq 10) 3 75, xz, xz, xq (.iload 4) 2, xz, xqv (.bipush 39) 2 39, xz, xqa (.if_icmp .ne 7) 3 79, xz, xz, xqv (.iconst 1) 1 1, xqa (.goto 4) 3 80, xz, xz, xqv (.iconst 0) 1 0, xq (.istore 5) 2, xz, xq (.iload 5) 2, xz, xqa (.ifCond .eq 9) 3 93, xz, xz, xq (.aload_n 0) 1, xqv (.bipush 92) 2 92, xz, xqc (.invokevirtual 303) 3 180 2 1432, xz, xz, xq (.aload_n 0) 1, xq (.iload 4) 2, xz, xqv (.bipush 10) 2 10, xz, xqa (.if_icmp .ne 8) 3 106, xz, xz, xqv (.bipush 110) 2 110, xz, xqa (.goto 17) 3 120, xz, xz, xq (.iload 4) 2, xz, xqv (.bipush 9) 2 9, xz, xqa (.if_icmp .ne 8) 3 118, xz, xz, xqv (.bipush 116) 2 116, xz, xqa (.goto 5) 3 120, xz, xz, xq (.iload 4) 2, xz, xqc (.invokevirtual 303) 3 180 2 1432, xz, xz, xqv (.iinc 3 1) 3 1, xz, xz, xqa (.goto (-108)) 3 18, xz, xz, xq (.iload_n 2) 1, xqa (.ifCond .ne 9) 3 139, xz, xz, xq (.aload_n 0) 1, xqv (.bipush 39) 2 39, xz, xqc (.invokevirtual 303) 3 180 2 1432, xz, xz, xq .return_ 1]
-- TermReaderModel.isNamed(IIII)Z
def xc_185 : List (Option xRow) := [xq (.aload_n 0) 1, xqc (.getfield 44) 3 7 18 1132, xz, xz, xq (.iload_n 1) 1, xq .iaload 1, xq (.istore 5) 2, xz, xq (.aload_n 0) 1, xqc (.getfield 47) 3 7 19 1133, xz, xz, xq (.iload_n 1) 1, xq .iaload 1, xq (.iload 4) 2, xz, xqa (.if_icmp .ne 84) 3 100, xz, xz, xq (.aload_n 0) 1, xqc (.getfield 41) 3 7 17 1131, xz, xz, xq (.iload_n 1) 1, xq .iaload 1, xqv (.iconst 2) 1 2, xqa (.if_icmp .eq 13) 3 39, xz, xz, xq (.aload_n 0) 1, xqc (.getfield 41) 3 7 17 1131, xz, xz, xq (.iload_n 1) 1, xq .iaload 1, xqv (.iconst 3) 1 3, xqa (.if_icmp .ne 64) 3 100, xz, xz, xq (.aload_n 0) 1, xqc (.getfield 32) 3 7 11 1125, xz, xz, xq (.iload 5) 2, xz, xq .iaload 1, xq (.iload_n 3) 1, xqa (.ifCond .le 7) 3 54, xz, xz, xqv (.iconst 2) 1 2, xqa (.goto 4) 3 55, xz, xz, xqv (.iconst 1) 1 1, xqa (.if_icmp .ne 45) 3 100, xz, xz, xq (.aload_n 0) 1, xqc (.getfield 35) 3 7 13 1127, xz, xz, xq (.aload_n 0) 1, xqc (.getfield 29) 3 7 10 1124, xz, xz, xq (.iload 5) 2, xz, xq .iaload 1, xq .iaload 1, xq (.iload_n 2) 1, xqa (.if_icmp .ne 29) 3 100, xz, xz, xq (.iload_n 3) 1, xqa (.ifCond .eq 21) 3 96, xz, xz, xq (.aload_n 0) 1, xqc (.getfield 35) 3 7 13 1127, xz, xz, xq (.aload_n 0) 1, xqc (.getfield 29) 3 7 10 1124, xz, xz, xq (.iload 5) 2, xz, xq .iaload 1, xqv (.iconst 1) 1 1, xq .iadd 1, xq .iaload 1, xq (.iload_n 3) 1, xqa (.if_icmp .ne 7) 3 100, xz, xz, xqv (.iconst 1) 1 1, xqa (.goto 4) 3 101, xz, xz, xqv (.iconst 0) 1 0, xq .ireturn 1]
-- TermReaderModel.priorityOf(I)I
def xc_186 : List (Option xRow) := [xq (.aload_n 0) 1, xqc (.getfield 41) 3 7 17 1131, xz, xz, xq (.iload_n 1) 1, xq .iaload 1, xqv (.iconst 3) 1 3, xqa (.if_icmp .ne 28) 3 35, xz, xz, xq (.aload_n 0) 1, xq (.iload_n 1) 1, xqv (.bipush 46) 2 46, xz, xqv (.iconst 0) 1 0, xqv (.iconst 2) 1 2, xqc (.invokevirtual 309) 3 185 5 1452, xz, xz, xqa (.ifCond .ne 16) 3 35, xz, xz, xq (.aload_n 0) 1, xq (.iload_n 1) 1, xqv (.bipush 123) 2 123, xz, xqv (.bipush 125) 2 125, xz, xqv (.iconst 1) 1 1, xqc (.invokevirtual 309) 3 185 5 1452, xz, xz, xqa (.ifCond .eq 5) 3 37, xz, xz, xqv (.iconst 0) 1 0, xq .ireturn 1, xq (.aload_n 0) 1, xq (.aload_n 0) 1, xqc (.getfield 44) 3 7 18 1132, xz, xz, xq (.iload_n 1) 1, xq .iaload 1, xqc (.invokevirtual 313) 3 164 2 1464, xz, xz, xq (.lstore_n 2) 1, xq (.aload_n 0) 1, xqc (.getfield 47) 3 7 19 1133, xz, xz, xq (.iload_n 1) 1, xq .iaload 1, xqv (.iconst 2) 1 2, xqa (.if_icmp .ne 9) 3 64, xz, xz, xq (.aload_n 0) 1, xq (.lload_n 2) 1, xqc (.invokevirtual 108) 3 139 2 1375, xz, xz, xq .ireturn 1, xq (.aload_n 0) 1, xqc (.getfield 47) 3 7 19 1133, xz, xz, xq (.iload_n 1) 1, xq .iaload 1, xqv (.iconst 1) 1 1, xqa (.if_icmp .eq 5) 3 76, xz, xz, xqv (.iconst 0) 1 0, xq .ireturn 1, xq (.aload_n 0) 1, xq (.lload_n 2) 1, xqc (.invokevirtual 259) 3 137 2 1371, xz, xz, xqa (.ifCond .le 11) 3 92, xz, xz, xq (.aload_n 0) 1, xq (.lload_n 2) 1, xqc (.invokevirtual 259) 3 137 2 1371, xz, xz, xqa (.goto 8) 3 97, xz, xz, xq (.aload_n 0) 1, xq (.lload_n 2) 1, xqc (.invokevirtual 111) 3 140 2 1380, xz, xz, xq .ireturn 1]
-- TermReaderModel.isOperator(I)Z
def xc_187 : List (Option xRow) := [xq (.aload_n 0) 1, xqc (.getfield 41) 3 7 17 1131, xz, xz, xq (.iload_n 1) 1, xq .iaload 1, xqv (.iconst 2) 1 2, xqa (.if_icmp .eq 5) 3 12, xz, xz, xqv (.iconst 0) 1 0, xq .ireturn 1, xq (.aload_n 0) 1, xq (.aload_n 0) 1, xqc (.getfield 44) 3 7 18 1132, xz, xz, xq (.iload_n 1) 1, xq .iaload 1, xqc (.invokevirtual 313) 3 164 2 1464, xz, xz, xq (.lstore_n 2) 1, xq (.aload_n 0) 1, xq (.lload_n 2) 1, xqc (.invokevirtual 259) 3 137 2 1371, xz, xz, xq (.aload_n 0) 1, xq (.lload_n 2) 1, xqc (.invokevirtual 108) 3 139 2 1375, xz, xz, xq .iadd 1, xq (.aload_n 0) 1, xq (.lload_n 2) 1, xqc (.invokevirtual 111) 3 140 2 1380, xz, xz, xq .iadd 1, xqa (.ifCond .le 7) 3 47, xz, xz, xqv (.iconst 1) 1 1, xqa (.goto 4) 3 48, xz, xz, xqv (.iconst 0) 1 0, xq .ireturn 1]
-- TermReaderModel.part(II)V
def xc_188 : List (Option xRow) := [xq (.iload_n 2) 1, xqv (.sipush 2000) 3 2000, xz, xz, xqa (.if_icmp .lt 7) 3 11, xz, xz, xqv (.iconst 1) 1 1, xqa (.goto 4) 3 12, xz, xz, xqv (.iconst 0) 1 0, xq (.istore_n 3) 1, xq (.aload_n 0) 1, xq (.iload_n 1) 1, xqc (.invokevirtual 317) 3 186 2 1460, xz, xz, xq (.istore 4) 2, xz, xq (.iload 4) 2, xz, xq (.iload_n 2) 1, xqv (.sipush 2000) 3 2000, xz, xz, xq .irem 1, xqa (.if_icmp .gt 15) 3 42, xz, xz, xq (.iload_n 3) 1, xqa (.ifCond .eq 15) 3 46, xz, xz, xq (.aload_n 0) 1, xq (.iload_n 1) 1, xqc (.invokevirtual 320) 3 187 2 1468, xz, xz, xqa (.ifCond .eq 7) 3 46, xz, xz, xqv (.iconst 1) 1 1, xqa (.goto 4) 3 47, xz, xz, xqv (.iconst 0) 1 0, xq (.istore 5) 2, xz, xq (.iload 5) 2, xz, xqa (.ifCond .eq 16) 3 67, xz, xz, xq (.aload_n 0) 1, xqv (.bipush 40) 2 40, xz, xqc (.invokevirtual 303) 3 180 2 1432, xz, xz, xq (.aload_n 0) 1, xqv (.bipush (-41)) 2 (-41), xz, xqv (.iconst 0) 1 0, xqc (.invokevirtual 323) 3 181 3 1416, xz, xz, xq (.aload_n 0) 1, xqc (.getfield 41) 3 7 17 1131, xz, xz, xq (.iload_n 1) 1, xq .iaload 1, xqa (.ifCond .ne 23) 3 96, xz, xz, xq (.aload_n 0) 1, xqv (.bipush 95) 2 95, xz, xqc (.invokevirtual 303) 3 180 2 1432, xz, xz, xq (.aload_n 0) 1, xq (.aload_n 0) 1, xqc (.getfield 44) 3 7 18 1132, xz, xz, xq (.iload_n 1) 1, xq .iaload 1, xq .i2l 1, xqc (.invokevirtual 326) 3 182 2 1472, xz, xz, xqa (.goto 168) 3 261, xz, xz, xq (.aload_n 0) 1, xqc (.getfield 41) 3 7 17 1131, xz, xz, xq (.iload_n 1) 1, xq .iaload 1, xqv (.iconst 1) 1 1, xqa (.if_icmp .ne 52) 3 155, xz, xz, xq (.aload_n 0) 1, xqc (.getfield 44) 3 7 18 1132, xz, xz, xq (.iload_n 1) 1, xq .iaload 1, xqa (.ifCond .ge 9) 3 121, xz, xz, xq (.aload_n 0) 1, xqv (.bipush 45) 2 45, xz, xqc (.invokevirtual 303) 3 180 2 1432, xz, xz, xq (.aload_n 0) 1, xq (.aload_n 0) 1, xqc (.getfield 44) 3 7 18 1132, xz, xz, xq (.iload_n 1) 1, xq .iaload 1, xqa (.ifCond .ge 14) 3 142, xz, xz, xq (.aload_n 0) 1, xqc (.getfield 44) 3 7 18 1132, xz, xz, xq (.iload_n 1) 1, xq .iaload 1, xq .i2l 1, xq .lneg 1, xqa (.goto 10) 3 149, xz, xz, xq (.aload_n 0) 1, xqc (.getfield 44) 3 7 18 1132, xz, xz, xq (.iload_n 1) 1, xq .iaload 1, xq .i2l 1, xqc (.invokevirtual 326) 3 182 2 1472, xz, xz, xqa (.goto 109) 3 261, xz, xz, xq (.aload_n 0) 1, xqc (.getfield 41) 3 7 17 1131, xz, xz, xq (.iload_n 1) 1, xq .iaload 1, xqv (.iconst 2) 1 2, xqa (.if_icmp .ne 16) 3 178, xz, xz, xq (.aload_n 0) 1, xq (.aload_n 0) 1, xqc (.getfield 44) 3 7 18 1132, xz, xz, xq (.iload_n 1) 1, xq .iaload 1, xqc (.invokevirtual 330) 3 184 2 1436, xz, xz, xqa (.goto 86) 3 261, xz, xz, xq (.aload_n 0) 1, xq (.iload_n 1) 1, xqv (.bipush 46) 2 46, xz, xqv (.iconst 0) 1 0, xqv (.iconst 2) 1 2, xqc (.invokevirtual 309) 3 185 5 1452, xz, xz, xqa (.ifCond .eq 17) 3 204, xz, xz, xq (.aload_n 0) 1, xqv (.bipush 91) 2 91, xz, xqc (.invokevirtual 303) 3 180 2 1432, xz, xz, xq (.aload_n 0) 1, xq (.iload_n 1) 1, xqc (.invokevirtual 333) 3 189 2 1444, xz, xz, xqa (.goto 60) 3 261, xz, xz, xq (.aload_n 0) 1, xq (.iload_n 1) 1, xqv (.bipush 123) 2 123, xz, xqv (.bipush 125) 2 125, xz, xqv (.iconst 1) 1 1, xqc (.invokevirtual 309) 3 185 5 1452, xz, xz, xqa (.ifCond .eq 29) 3 243, xz, xz, xq (.aload_n 0) 1, xqv (.bipush 123) 2 123, xz, xqc (.invokevirtual 303) 3 180 2 1432, xz, xz, xq (.aload_n 0) 1, xqv (.bipush (-125)) 2 (-125), xz, xqv (.iconst 0) 1 0, xqc (.invokevirtual 323) 3 181 3 1416, xz, xz, xq (.aload_n 0) 1, xq (.iload_n 1) 1, xqv (.iconst 1) 1 1, xq .iadd 1, xqv (.sipush 1200) 3 1200, xz, xz, xqc (.invokevirtual 323) 3 181 3 1416, xz, xz, xqa (.goto 21) 3 261, xz, xz, xq (.iload 4) 2, xz, xqa (.ifCond .le 11) 3 256, xz, xz, xq (.aload_n 0) 1, xq (.iload_n 1) 1, xqc (.invokevirtual 336) 3 191 2 1478, xz, xz, xqa (.goto 8) 3 261, xz, xz, xq (.aload_n 0) 1, xq (.iload_n 1) 1, xqc (.invokevirtual 339) 3 192 2 1490, xz, xz, xq .return_ 1]
-- TermReaderModel.list(I)V
def xc_189 : List (Option xRow) := [xq (.aload_n 0) 1, xq (.iload_n 1) 1, xqv (.iconst 1) 1 1, xq .iadd 1, xqc (.invokevirtual 342) 3 179 2 1448, xz, xz, xq (.istore_n 2) 1, xq (.aload_n 0) 1, xq (.iload_n 2) 1, xqv (.bipush 91) 2 91, xz, xqv (.bipush 93) 2 93, xz, xqv (.iconst 0) 1 0, xqc (.invokevirtual 309) 3 185 5 1452, xz, xz, xqa (.ifCond .eq 13) 3 31, xz, xz, xq (.aload_n 0) 1, xqv (.bipush (-93)) 2 (-93), xz, xqv (.iconst 0) 1 0, xqc (.invokevirtual 323) 3 181 3 1416, xz, xz, xqa (.goto 58) 3 86, xz, xz, xq (.aload_n 0) 1, xqc (.getfield 41) 3 7 17 1131, xz, xz, xq (.iload_n 2) 1, xq .iaload 1, xqv (.iconst 3) 1 3, xqa (.if_icmp .ne 26) 3 64, xz, xz, xq (.aload_n 0) 1, xq (.iload_n 2) 1, xqv (.bipush 46) 2 46, xz, xqv (.iconst 0) 1 0, xqv (.iconst 2) 1 2, xqc (.invokevirtual 309) 3 185 5 1452, xz, xz, xqa (.ifCond .eq 14) 3 64, xz, xz, xq (.aload_n 0) 1, xq (.iload_n 2) 1, xqv (.sipush 5000) 3 5000, xz, xz, xqc (.invokevirtual 323) 3 181 3 1416, xz, xz, xqa (.goto 25) 3 86, xz, xz, xq (.aload_n 0) 1, xqv (.bipush (-93)) 2 (-93), xz, xqv (.iconst 0) 1 0, xqc (.invokevirtual 323) 3 181 3 1416, xz, xz, xq (.aload_n 0) 1, xq (.iload_n 2) 1, xqv (.sipush 999) 3 999, xz, xz, xqc (.invokevirtual 323) 3 181 3 1416, xz, xz, xq (.aload_n 0) 1, xqv (.bipush (-124)) 2 (-124), xz, xqv (.iconst 0) 1 0, xqc (.invokevirtual 323) 3 181 3 1416, xz, xz, xq (.aload_n 0) 1, xq (.iload_n 1) 1, xqv (.iconst 1) 1 1, xq .iadd 1, xqv (.sipush 999) 3 999, xz, xz, xqc (.invokevirtual 323) 3 181 3 1416, xz, xz, xq .return_ 1]
-- TermReaderModel.takesOn(II)Z
def xc_190 : List (Option xRow) := [xq (.aload_n 0) 1, xq (.iload_n 1) 1, xqc (.invokevirtual 317) 3 186 2 1460, xz, xz, xq (.iload_n 2) 1, xqa (.if_icmp .ne 13) 3 19, xz, xz, xq (.aload_n 0) 1, xqc (.getfield 47) 3 7 19 1133, xz, xz, xq (.iload_n 1) 1, xq .iaload 1, xqv (.iconst 2) 1 2, xqa (.if_icmp .le 5) 3 21, xz, xz, xqv (.iconst 0) 1 0, xq .ireturn 1, xq (.aload_n 0) 1, xq (.aload_n 0) 1, xqc (.getfield 44) 3 7 18 1132, xz, xz, xq (.iload_n 1) 1, xq .iaload 1, xqc (.invokevirtual 313) 3 164 2 1464, xz, xz, xq (.lstore_n 3) 1, xq (.aload_n 0) 1, xqc (.getfield 47) 3 7 19 1133, xz, xz, xq (.iload_n 1) 1, xq .iaload 1, xqv (.iconst 2) 1 2, xqa (.if_icmp .ne 20) 3 59, xz, xz, xq (.aload_n 0) 1, xq (.lload_n 3) 1, xqc (.invokevirtual 272) 3 142 2 1404, xz, xz, xq (.iload_n 2) 1, xqa (.if_icmp .ne 7) 3 55, xz, xz, xqv (.iconst 1) 1 1, xqa (.goto 29) 3 81, xz, xz, xqv (.iconst 0) 1 0, xqa (.goto 25) 3 81, xz, xz, xq (.aload_n 0) 1, xq (.lload_n 3) 1, xqc (.invokevirtual 259) 3 137 2 1371, xz, xz, xqa (.ifCond .le 16) 3 80, xz, xz, xq (.aload_n 0) 1, xq (.lload_n 3) 1, xqc (.invokevirtual 266) 3 144 2 1388, xz, xz, xq (.iload_n 2) 1, xqa (.if_icmp .ne 7) 3 80, xz, xz, xqv (.iconst 1) 1 1, xqa (.goto 4) 3 81, xz, xz, xqv (.iconst 0) 1 0, xq .ireturn 1]
-- TermReaderModel.operated(I)V
def xc_191 : List (Option xRow) := [xq (.aload_n 0) 1, xqc (.getfield 44) 3 7 18 1132, xz, xz, xq (.iload_n 1) 1, xq .iaload 1, xq (.istore_n 2) 1, xq (.aload_n 0) 1, xq (.iload_n 2) 1, xqc (.invokevirtual 313) 3 164 2 1464, xz, xz, xq (.lstore_n 3) 1, xq (.iload_n 1) 1, xqv (.iconst 1) 1 1, xq .iadd 1, xq (.istore 5) 2, xz, xq (.aload_n 0) 1, xq (.iload_n 1) 1, xqc (.invokevirtual 317) 3 186 2 1460, xz, xz, xq (.istore 6) 2, xz, xq (.aload_n 0) 1, xq (.iload 5) 2, xz, xq (.iload 6) 2, xz, xqc (.invokevirtual 345) 3 190 3 1482, xz, xz, xqa (.ifCond .eq 10) 3 43, xz, xz, xq (.iload 6) 2, xz, xqv (.iconst 1) 1 1, xq .isub 1, xqa (.goto 8) 3 48, xz, xz, xq (.aload_n 0) 1, xq (.lload_n 3) 1, xqc (.invokevirtual 349) 3 143 2 1486, xz, xz, xq (.istore 7) 2, xz, xq (.aload_n 0) 1, xqc (.getfield 47) 3 7 19 1133, xz, xz, xq (.iload_n 1) 1, xq .iaload 1, xqv (.iconst 2) 1 2, xqa (.if_icmp .ne 94) 3 151, xz, xz, xq (.lload_n 3) 1, xqk (.ldc2_w 102) 3 0 0 1379 44, xz, xz, xq .lcmp 1, xqa (.ifCond .ne 7) 3 72, xz, xz, xqv (.iconst 1) 1 1, xqa (.goto 4) 3 73, xz, xz, xqv (.iconst 0) 1 0, xq (.istore 8) 2, xz, xq (.aload_n 0) 1, xq (.aload_n 0) 1, xq (.iload 5) 2, xz, xqc (.invokevirtual 342) 3 179 2 1448, xz, xz, xqv (.sipush 2000) 3 2000, xz, xz, xq (.aload_n 0) 1, xq (.lload_n 3) 1, xqc (.invokevirtual 272) 3 142 2 1404, xz, xz, xq .iadd 1, xqc (.invokevirtual 323) 3 181 3 1416, xz, xz, xq (.iload 8) 2, xz, xqa (.ifCond .ne 10) 3 106, xz, xz, xq (.aload_n 0) 1, xqv (.bipush (-32)) 2 (-32), xz, xqv (.iconst 0) 1 0, xqc (.invokevirtual 323) 3 181 3 1416, xz, xz, xq (.aload_n 0) 1, xq (.iload 8) 2, xz, xqa (.ifCond .eq 8) 3 117, xz, xz, xqv (.bipush (-44)) 2 (-44), xz, xqa (.goto 4) 3 118, xz, xz, xq (.iload_n 2) 1, xqv (.sipush 6000) 3 6000, xz, xz, xqc (.invokevirtual 323) 3 181 3 1416, xz, xz, xq (.iload 8) 2, xz, xqa (.ifCond .ne 10) 3 136, xz, xz, xq (.aload_n 0) 1, xqv (.bipush (-32)) 2 (-32), xz, xqv (.iconst 0) 1 0, xqc (.invokevirtual 323) 3 181 3 1416, xz, xz, xq (.aload_n 0) 1, xq (.iload 5) 2, xz, xqv (.sipush 2000) 3 2000, xz, xz, xq (.iload 7) 2, xz, xq .iadd 1, xqc (.invokevirtual 323) 3 181 3 1416, xz, xz, xqa (.goto 67) 3 215, xz, xz, xq (.aload_n 0) 1, xq (.lload_n 3) 1, xqc (.invokevirtual 259) 3 137 2 1371, xz, xz, xqa (.ifCond .le 32) 3 188, xz, xz, xq (.aload_n 0) 1, xq (.iload_n 2) 1, xqc (.invokevirtual 330) 3 184 2 1436, xz, xz, xq (.aload_n 0) 1, xqv (.bipush 32) 2 32, xz, xqc (.invokevirtual 303) 3 180 2 1432, xz, xz, xq (.aload_n 0) 1, xq (.iload 5) 2, xz, xqv (.sipush 2000) 3 2000, xz, xz, xq (.aload_n 0) 1, xq (.lload_n 3) 1, xqc (.invokevirtual 266) 3 144 2 1388, xz, xz, xq .iadd 1, xqc (.invokevirtual 323) 3 181 3 1416, xz, xz, xqa (.goto 30) 3 215, xz, xz, xq (.aload_n 0) 1, xq (.iload_n 2) 1, xqv (.sipush 6000) 3 6000, xz, xz, xqc (.invokevirtual 323) 3 181 3 1416, xz, xz, xq (.aload_n 0) 1, xqv (.bipush (-32)) 2 (-32), xz, xqv (.iconst 0) 1 0, xqc (.invokevirtual 323) 3 181 3 1416, xz, xz, xq (.aload_n 0) 1, xq (.iload 5) 2, xz, xqv (.sipush 2000) 3 2000, xz, xz, xq (.iload 7) 2, xz, xq .iadd 1, xqc (.invokevirtual 323) 3 181 3 1416, xz, xz, xq .return_ 1]
-- TermReaderModel.plainly(I)V
def xc_192 : List (Option xRow) := [xq (.aload_n 0) 1, xq (.aload_n 0) 1, xqc (.getfield 44) 3 7 18 1132, xz, xz, xq (.iload_n 1) 1, xq .iaload 1, xqc (.invokevirtual 330) 3 184 2 1436, xz, xz, xq (.aload_n 0) 1, xqv (.bipush 40) 2 40, xz, xqc (.invokevirtual 303) 3 180 2 1432, xz, xz, xq (.aload_n 0) 1, xqc (.getfield 47) 3 7 19 1133, xz, xz, xq (.iload_n 1) 1, xq .iaload 1, xq (.istore_n 2) 1, xq (.aload_n 0) 1, xqv (.bipush (-41)) 2 (-41), xz, xqv (.iconst 0) 1 0, xqc (.invokevirtual 323) 3 181 3 1416, xz, xz, xq (.iload_n 2) 1, xqv (.iconst 1) 1 1, xq .isub 1, xq (.istore_n 3) 1, xq (.iload_n 3) 1, xqa (.ifCond .lt 57) 3 92, xz, xz, xq (.iload_n 1) 1, xqv (.iconst 1) 1 1, xq .iadd 1, xq (.istore 4) 2, xz, xqv (.iconst 0) 1 0, xq (.istore 5) 2, xz, xq (.iload 5) 2, xz, xq (.iload_n 3) 1, xqa (.if_icmp .ge 17) 3 66, xz, xz, xq (.aload_n 0) 1, xq (.iload 4) 2, xz, xqc (.invokevirtual 342) 3 179 2 1448, xz, xz, xq (.istore 4) 2, xz, xqv (.iinc 5 1) 3 1, xz, xz, xqa (.goto (-17)) 3 46, xz, xz, xq (.aload_n 0) 1, xq (.iload 4) 2, xz, xqv (.sipush 999) 3 999, xz, xz, xqc (.invokevirtual 323) 3 181 3 1416, xz, xz, xq (.iload_n 3) 1, xqa (.ifCond .le 10) 3 86, xz, xz, xq (.aload_n 0) 1, xqv (.bipush (-44)) 2 (-44), xz, xqv (.iconst 0) 1 0, xqc (.invokevirtual 323) 3 181 3 1416, xz, xz, xqv (.iinc 3 (-1)) 3 (-1), xz, xz, xqa (.goto (-55)) 3 34, xz, xz, xq .return_ 1]
-- TermReaderModel.write(I)I
def xc_193 : List (Option xRow) := [xq (.aload_n 0) 1, xq (.aload_n 0) 1, xq (.iload_n 1) 1, xqc (.invokevirtual 352) 3 178 2 1428, xz, xz, xqa (.ifCond .eq 7) 3 13, xz, xz, xqv (.iconst 0) 1 0, xqa (.goto 4) 3 14, xz, xz, xqv (.iconst 1) 1 1, xqc (.putfield 91) 3 7 0 1114, xz, xz, xq (.aload_n 0) 1, xqc (.getfield 91) 3 7 0 1114, xz, xz, xqa (.ifCond .le 5) 3 26, xz, xz, xqv (.iconst 0) 1 0, xq .ireturn 1, xq (.aload_n 0) 1, xqv (.iconst 0) 1 0, xqc (.putfield 293) 3 7 40 1154, xz, xz, xq (.aload_n 0) 1, xqv (.iconst 0) 1 0, xqc (.putfield 296) 3 7 37 1151, xz, xz, xq (.aload_n 0) 1, xq (.aload_n 0) 1, xqc (.getfield 38) 3 7 15 1129, xz, xz, xq (.iload_n 1) 1, xq .iaload 1, xqv (.sipush 1200) 3 1200, xz, xz, xqc (.invokevirtual 323) 3 181 3 1416, xz, xz, xq (.aload_n 0) 1, xqc (.getfield 296) 3 7 37 1151, xz, xz, xqa (.ifCond .le 91) 3 144, xz, xz, xq (.aload_n 0) 1, xq .dup 1, xqc (.getfield 296) 3 7 37 1151, xz, xz, xqv (.iconst 1) 1 1, xq .isub 1, xqc (.putfield 296) 3 7 37 1151, xz, xz, xq (.aload_n 0) 1, xqc (.getfield 71) 3 7 38 1152, xz, xz, xq (.aload_n 0) 1, xqc (.getfield 296) 3 7 37 1151, xz, xz, xq .iaload 1, xq (.istore_n 2) 1, xq (.aload_n 0) 1, xqc (.getfield 74) 3 7 39 1153, xz, xz, xq (.aload_n 0) 1, xqc (.getfield 296) 3 7 37 1151, xz, xz, xq .iaload 1, xq (.istore_n 3) 1, xq (.iload_n 2) 1, xqa (.ifCond .ge 12) 3 99, xz, xz, xq (.aload_n 0) 1, xq (.iload_n 2) 1, xq .ineg 1, xqc (.invokevirtual 303) 3 180 2 1432, xz, xz, xqa (.goto 45) 3 141, xz, xz, xq (.iload_n 3) 1, xqv (.sipush 6000) 3 6000, xz, xz, xqa (.if_icmp .ne 11) 3 114, xz, xz, xq (.aload_n 0) 1, xq (.iload_n 2) 1, xqc (.invokevirtual 330) 3 184 2 1436, xz, xz, xqa (.goto 30) 3 141, xz, xz, xq (.iload_n 3) 1, xqv (.sipush 5000) 3 5000, xz, xz, xqa (.if_icmp .ne 17) 3 135, xz, xz, xq (.aload_n 0) 1, xqv (.bipush 44) 2 44, xz, xqc (.invokevirtual 303) 3 180 2 1432, xz, xz, xq (.aload_n 0) 1, xq (.iload_n 2) 1, xqc (.invokevirtual 333) 3 189 2 1444, xz, xz, xqa (.goto 9) 3 141, xz, xz, xq (.aload_n 0) 1, xq (.iload_n 2) 1, xq (.iload_n 3) 1, xqc (.invokevirtual 355) 3 188 3 1456, xz, xz, xqa (.goto (-92)) 3 49, xz, xz, xq (.aload_n 0) 1, xq (.aload_n 0) 1, xqc (.getfield 293) 3 7 40 1154, xz, xz, xqc (.putfield 358) 3 7 42 1156, xz, xz, xqv (.iconst 0) 1 0, xq (.istore_n 2) 1, xq (.iload_n 2) 1, xq (.aload_n 0) 1, xqc (.getfield 293) 3 7 40 1154, xz, xz, xqa (.if_icmp .ge 21) 3 180, xz, xz, xq (.aload_n 0) 1, xqc (.getfield 80) 3 7 43 1157, xz, xz, xq (.iload_n 2) 1, xq (.aload_n 0) 1, xqc (.getfield 77) 3 7 41 1155, xz, xz, xq (.iload_n 2) 1, xq .iaload 1, xq .iastore 1, xqv (.iinc 2 1) 3 1, xz, xz, xqa (.goto (-23)) 3 154, xz, xz, xq (.aload_n 0) 1, xqc (.getfield 293) 3 7 40 1154, xz, xz, xq .ireturn 1]
-- TermReaderModel.written(I)I
def xc_194 : List (Option xRow) := [xq (.aload_n 0) 1, xqv (.iconst 0) 1 0, xqc (.putfield 91) 3 7 0 1114, xz, xz, xq (.iload_n 1) 1, xqa (.ifCond .lt 11) 3 17, xz, xz, xq (.iload_n 1) 1, xq (.aload_n 0) 1, xqc (.getfield 358) 3 7 42 1156, xz, xz, xqa (.if_icmp .lt 7) 3 21, xz, xz, xqv (.iconst (-1)) 1 (-1), xqa (.goto 9) 3 27, xz, xz, xq (.aload_n 0) 1, xqc (.getfield 80) 3 7 43 1157, xz, xz, xq (.iload_n 1) 1, xq .iaload 1, xq .ireturn 1]
-- TermReaderModel.again()Z
def xc_195 : List (Option xRow) := [xq (.aload_n 0) 1, xqv (.iconst 0) 1 0, xqc (.putfield 91) 3 7 0 1114, xz, xz, xq (.aload_n 0) 1, xqc (.getfield 358) 3 7 42 1156, xz, xz, xqv (.iconst 3) 1 3, xq .iadd 1, xqv (.bipush 120) 2 120, xz, xqa (.if_icmp .le 5) 3 18, xz, xz, xqv (.iconst 0) 1 0, xq .ireturn 1, xqv (.iconst 0) 1 0, xq (.istore_n 1) 1, xq (.iload_n 1) 1, xq (.aload_n 0) 1, xqc (.getfield 358) 3 7 42 1156, xz, xz, xqa (.if_icmp .ge 21) 3 46, xz, xz, xq (.aload_n 0) 1, xqc (.getfield 7) 3 7 2 1116, xz, xz, xq (.iload_n 1) 1, xq (.aload_n 0) 1, xqc (.getfield 80) 3 7 43 1157, xz, xz, xq (.iload_n 1) 1, xq .iaload 1, xq .iastore 1, xqv (.iinc 1 1) 3 1, xz, xz, xqa (.goto (-23)) 3 20, xz, xz, xq (.aload_n 0) 1, xqc (.getfield 7) 3 7 2 1116, xz, xz, xq (.aload_n 0) 1, xqc (.getfield 358) 3 7 42 1156, xz, xz, xqv (.bipush 32) 2 32, xz, xq .iastore 1, xq (.aload_n 0) 1, xqc (.getfield 7) 3 7 2 1116, xz, xz, xq (.aload_n 0) 1, xqc (.getfield 358) 3 7 42 1156, xz, xz, xqv (.iconst 1) 1 1, xq .iadd 1, xqv (.bipush 46) 2 46, xz, xq .iastore 1, xq (.aload_n 0) 1, xqc (.getfield 7) 3 7 2 1116, xz, xz, xq (.aload_n 0) 1, xqc (.getfield 358) 3 7 42 1156, xz, xz, xqv (.iconst 2) 1 2, xq .iadd 1, xqv (.bipush 32) 2 32, xz, xq .iastore 1, xq (.aload_n 0) 1, xq (.aload_n 0) 1, xqc (.getfield 358) 3 7 42 1156, xz, xz, xqv (.iconst 3) 1 3, xq .iadd 1, xqc (.putfield 142) 3 7 1 1115, xz, xz, xqv (.iconst 1) 1 1, xq .ireturn 1]
-- TermReaderModel.alike(II)Z
def xc_196 : List (Option xRow) := [xq (.aload_n 0) 1, xq (.aload_n 0) 1, xq (.iload_n 1) 1, xqc (.invokevirtual 352) 3 178 2 1428, xz, xz, xqa (.ifCond .eq 15) 3 21, xz, xz, xq (.aload_n 0) 1, xq (.iload_n 2) 1, xqc (.invokevirtual 352) 3 178 2 1428, xz, xz, xqa (.ifCond .eq 7) 3 21, xz, xz, xqv (.iconst 0) 1 0, xqa (.goto 4) 3 22, xz, xz, xqv (.iconst 1) 1 1, xqc (.putfield 91) 3 7 0 1114, xz, xz, xq (.aload_n 0) 1, xqc (.getfield 91) 3 7 0 1114, xz, xz, xqa (.ifCond .le 5) 3 34, xz, xz, xqv (.iconst 0) 1 0, xq .ireturn 1, xq (.aload_n 0) 1, xqc (.getfield 38) 3 7 15 1129, xz, xz, xq (.iload_n 1) 1, xqv (.iconst 1) 1 1, xq .iadd 1, xq .iaload 1, xq (.aload_n 0) 1, xqc (.getfield 38) 3 7 15 1129, xz, xz, xq (.iload_n 1) 1, xq .iaload 1, xq .isub 1, xq (.istore_n 3) 1, xq (.iload_n 3) 1, xq (.aload_n 0) 1, xqc (.getfield 38) 3 7 15 1129, xz, xz, xq (.iload_n 2) 1, xqv (.iconst 1) 1 1, xq .iadd 1, xq .iaload 1, xq (.aload_n 0) 1, xqc (.getfield 38) 3 7 15 1129, xz, xz, xq (.iload_n 2) 1, xq .iaload 1, xq .isub 1, xqa (.if_icmp .ne 7) 3 73, xz, xz, xqv (.iconst 1) 1 1, xqa (.goto 4) 3 74, xz, xz, xqv (.iconst 0) 1 0, xq (.istore 4) 2, xz, xqv (.iconst 0) 1 0, xq (.istore 5) 2, xz, xq (.iload 5) 2, xz, xq (.iload_n 3) 1, xqa (.if_icmp .ge 94) 3 176, xz, xz, xq (.iload 4) 2, xz, xqa (.ifCond .eq 89) 3 176, xz, xz, xq (.aload_n 0) 1, xqc (.getfield 38) 3 7 15 1129, xz, xz, xq (.iload_n 1) 1, xq .iaload 1, xq (.iload 5) 2, xz, xq .iadd 1, xq (.istore 6) 2, xz, xq (.aload_n 0) 1, xqc (.getfield 38) 3 7 15 1129, xz, xz, xq (.iload_n 2) 1, xq .iaload 1, xq (.iload 5) 2, xz, xq .iadd 1, xq (.istore 7) 2, xz, xq (.aload_n 0) 1, xqc (.getfield 41) 3 7 17 1131, xz, xz, xq (.iload 6) 2, xz, xq .iaload 1, xq (.aload_n 0) 1, xqc (.getfield 41) 3 7 17 1131, xz, xz, xq (.iload 7) 2, xz, xq .iaload 1, xqa (.if_icmp .ne 41) 3 167, xz, xz, xq (.aload_n 0) 1, xqc (.getfield 47) 3 7 19 1133, xz, xz, xq (.iload 6) 2, xz, xq .iaload 1, xq (.aload_n 0) 1, xqc (.getfield 47) 3 7 19 1133, xz, xz, xq (.iload 7) 2, xz, xq .iaload 1, xqa (.if_icmp .ne 24) 3 167, xz, xz, xq (.aload_n 0) 1, xqc (.getfield 44) 3 7 18 1132, xz, xz, xq (.iload 6) 2, xz, xq .iaload 1, xq (.aload_n 0) 1, xqc (.getfield 44) 3 7 18 1132, xz, xz, xq (.iload 7) 2, xz, xq .iaload 1, xqa (.if_icmp .ne 7) 3 167, xz, xz, xqv (.iconst 1) 1 1, xqa (.goto 4) 3 168, xz, xz, xqv (.iconst 0) 1 0, xq (.istore 4) 2, xz, xqv (.iinc 5 1) 3 1, xz, xz, xqa (.goto (-94)) 3 79, xz, xz, xq (.iload 4) 2, xz, xq .ireturn 1]
-- TermReaderModel.depthIn(II)I
def xc_197 : List (Option xRow) := [xqv (.iconst 1) 1 1, xq (.istore_n 3) 1, xq (.aload_n 0) 1, xqv (.iconst 0) 1 0, xqc (.putfield 296) 3 7 37 1151, xz, xz, xq (.iload_n 1) 1, xq (.istore 4) 2, xz, xq (.iload 4) 2, xz, xq (.iload_n 2) 1, xqa (.if_icmp .ge 108) 3 121, xz, xz, xq (.aload_n 0) 1, xqc (.getfield 296) 3 7 37 1151, xz, xz, xqa (.ifCond .le 30) 3 50, xz, xz, xq (.aload_n 0) 1, xqc (.getfield 71) 3 7 38 1152, xz, xz, xq (.aload_n 0) 1, xqc (.getfield 296) 3 7 37 1151, xz, xz, xqv (.iconst 1) 1 1, xq .isub 1, xq .iaload 1, xqa (.ifCond .ne 16) 3 50, xz, xz, xq (.aload_n 0) 1, xq .dup 1, xqc (.getfield 296) 3 7 37 1151, xz, xz, xqv (.iconst 1) 1 1, xq .isub 1, xqc (.putfield 296) 3 7 37 1151, xz, xz, xqa (.goto (-31)) 3 16, xz, xz, xq (.aload_n 0) 1, xqc (.getfield 296) 3 7 37 1151, xz, xz, xqa (.ifCond .le 18) 3 72, xz, xz, xq (.aload_n 0) 1, xqc (.getfield 71) 3 7 38 1152, xz, xz, xq (.aload_n 0) 1, xqc (.getfield 296) 3 7 37 1151, xz, xz, xqv (.iconst 1) 1 1, xq .isub 1, xq .dup2 1, xq .iaload 1, xqv (.iconst 1) 1 1, xq .isub 1, xq .iastore 1, xq (.aload_n 0) 1, xqc (.getfield 296) 3 7 37 1151, xz, xz, xqv (.iconst 1) 1 1, xq .iadd 1, xq (.iload_n 3) 1, xqa (.if_icmp .le 12) 3 91, xz, xz, xq (.aload_n 0) 1, xqc (.getfield 296) 3 7 37 1151, xz, xz, xqv (.iconst 1) 1 1, xq .iadd 1, xqa (.goto 4) 3 92, xz, xz, xq (.iload_n 3) 1, xq (.istore_n 3) 1, xq (.aload_n 0) 1, xqc (.getfield 47) 3 7 19 1133, xz, xz, xq (.iload 4) 2, xz, xq .iaload 1, xqa (.ifCond .le 15) 3 115, xz, xz, xq (.aload_n 0) 1, xq (.aload_n 0) 1, xqc (.getfield 47) 3 7 19 1133, xz, xz, xq (.iload 4) 2, xz, xq .iaload 1, xqv (.iconst 0) 1 0, xqc (.invokevirtual 323) 3 181 3 1416, xz, xz, xqv (.iinc 4 1) 3 1, xz, xz, xqa (.goto (-108)) 3 10, xz, xz, xq (.iload_n 3) 1, xq .ireturn 1]
-- TermReaderModel.look(II)I
def xc_198 : List (Option xRow) := [xq (.aload_n 0) 1, xq (.aload_n 0) 1, xq (.iload_n 1) 1, xqc (.invokevirtual 352) 3 178 2 1428, xz, xz, xqa (.ifCond .ne 7) 3 13, xz, xz, xqv (.iconst 1) 1 1, xqa (.goto 17) 3 27, xz, xz, xq (.iload_n 2) 1, xqa (.ifCond .lt 8) 3 22, xz, xz, xq (.iload_n 2) 1, xqv (.iconst 3) 1 3, xqa (.if_icmp .le 7) 3 26, xz, xz, xqv (.iconst 2) 1 2, xqa (.goto 4) 3 27, xz, xz, xqv (.iconst 0) 1 0, xqc (.putfield 91) 3 7 0 1114, xz, xz, xq (.aload_n 0) 1, xqc (.getfield 91) 3 7 0 1114, xz, xz, xqa (.ifCond .le 5) 3 39, xz, xz, xqv (.iconst 0) 1 0, xq .ireturn 1, xq (.aload_n 0) 1, xqc (.getfield 38) 3 7 15 1129, xz, xz, xq (.iload_n 1) 1, xq .iaload 1, xq (.istore_n 3) 1, xq (.iload_n 2) 1, xqa (.ifCond .ne 10) 3 57, xz, xz, xq (.aload_n 0) 1, xqc (.getfield 41) 3 7 17 1131, xz, xz, xq (.iload_n 3) 1, xq .iaload 1, xq .ireturn 1, xq (.iload_n 2) 1, xqv (.iconst 1) 1 1, xqa (.if_icmp .ne 10) 3 69, xz, xz, xq (.aload_n 0) 1, xqc (.getfield 47) 3 7 19 1133, xz, xz, xq (.iload_n 3) 1, xq .iaload 1, xq .ireturn 1, xq (.iload_n 2) 1, xqv (.iconst 3) 1 3, xqa (.if_icmp .ne 22) 3 93, xz, xz, xq (.aload_n 0) 1, xq (.aload_n 0) 1, xqc (.getfield 38) 3 7 15 1129, xz, xz, xq (.iload_n 1) 1, xq .iaload 1, xq (.aload_n 0) 1, xqc (.getfield 38) 3 7 15 1129, xz, xz, xq (.iload_n 1) 1, xqv (.iconst 1) 1 1, xq .iadd 1, xq .iaload 1, xqc (.invokevirtual 284) 3 197 3 1412, xz, xz, xq .ireturn 1, xq (.aload_n 0) 1, xqc (.getfield 41) 3 7 17 1131, xz, xz, xq (.iload_n 3) 1, xq .iaload 1, xqv (.iconst 2) 1 2, xqa (.if_icmp .ge 12) 3 112, xz, xz, xq (.aload_n 0) 1, xqc (.getfield 44) 3 7 18 1132, xz, xz, xq (.iload_n 3) 1, xq .iaload 1, xqa (.goto 14) 3 123, xz, xz, xq (.aload_n 0) 1, xqc (.getfield 32) 3 7 11 1125, xz, xz, xq (.aload_n 0) 1, xqc (.getfield 44) 3 7 18 1132, xz, xz, xq (.iload_n 3) 1, xq .iaload 1, xq .iaload 1, xq .ireturn 1]
-- TermReaderModel.count(I)I
def xc_199 : List (Option xRow) := [xq (.aload_n 0) 1, xq (.iload_n 1) 1, xqa (.ifCond .lt 8) 3 10, xz, xz, xq (.iload_n 1) 1, xqv (.iconst 3) 1 3, xqa (.if_icmp .le 7) 3 14, xz, xz, xqv (.iconst 1) 1 1, xqa (.goto 4) 3 15, xz, xz, xqv (.iconst 0) 1 0, xqc (.putfield 91) 3 7 0 1114, xz, xz, xq (.aload_n 0) 1, xqc (.getfield 91) 3 7 0 1114, xz, xz, xqa (.ifCond .le 5) 3 27, xz, xz, xqv (.iconst 0) 1 0, xq .ireturn 1, xq (.iload_n 1) 1, xqa (.ifCond .ne 10) 3 38, xz, xz, xq (.aload_n 0) 1, xqc (.getfield 142) 3 7 1 1115, xz, xz, xqa (.goto 31) 3 66, xz, xz, xq (.iload_n 1) 1, xqv (.iconst 1) 1 1, xqa (.if_icmp .ne 10) 3 50, xz, xz, xq (.aload_n 0) 1, xqc (.getfield 287) 3 7 14 1128, xz, xz, xqa (.goto 19) 3 66, xz, xz, xq (.iload_n 1) 1, xqv (.iconst 2) 1 2, xqa (.if_icmp .ne 10) 3 62, xz, xz, xq (.aload_n 0) 1, xqc (.getfield 217) 3 7 16 1130, xz, xz, xqa (.goto 7) 3 66, xz, xz, xq (.aload_n 0) 1, xqc (.invokevirtual 138) 3 136 1 1274, xz, xz, xq .ireturn 1]
-- TermReader$Chars.isPrintable(I)Z
def xc_200 : List (Option xRow) := [xq (.iload_n 0) 1, xqv (.bipush 32) 2 32, xz, xqa (.if_icmp .lt 13) 3 16, xz, xz, xq (.iload_n 0) 1, xqv (.bipush 126) 2 126, xz, xqa (.if_icmp .gt 7) 3 16, xz, xz, xqv (.iconst 1) 1 1, xqa (.goto 4) 3 17, xz, xz, xqv (.iconst 0) 1 0, xq .ireturn 1]
-- TermReader$Chars.isSmall(I)Z
def xc_201 : List (Option xRow) := [xq (.iload_n 0) 1, xqv (.bipush 97) 2 97, xz, xqa (.if_icmp .lt 13) 3 16, xz, xz, xq (.iload_n 0) 1, xqv (.bipush 122) 2 122, xz, xqa (.if_icmp .gt 7) 3 16, xz, xz, xqv (.iconst 1) 1 1, xqa (.goto 4) 3 17, xz, xz, xqv (.iconst 0) 1 0, xq .ireturn 1]
-- TermReader$Chars.isLarge(I)Z
def xc_202 : List (Option xRow) := [xq (.iload_n 0) 1, xqv (.bipush 65) 2 65, xz, xqa (.if_icmp .lt 13) 3 16, xz, xz, xq (.iload_n 0) 1, xqv (.bipush 90) 2 90, xz, xqa (.if_icmp .gt 7) 3 16, xz, xz, xqv (.iconst 1) 1 1, xqa (.goto 4) 3 17, xz, xz, xqv (.iconst 0) 1 0, xq .ireturn 1]
-- TermReader$Chars.isDigit(I)Z
def xc_203 : List (Option xRow) := [xq (.iload_n 0) 1, xqv (.bipush 48) 2 48, xz, xqa (.if_icmp .lt 13) 3 16, xz, xz, xq (.iload_n 0) 1, xqv (.bipush 57) 2 57, xz, xqa (.if_icmp .gt 7) 3 16, xz, xz, xqv (.iconst 1) 1 1, xqa (.goto 4) 3 17, xz, xz, xqv (.iconst 0) 1 0, xq .ireturn 1]
-- TermReader$Chars.isWord(I)Z
def xc_204 : List (Option xRow) := [xq (.iload_n 0) 1, xqc (.invokestatic 9) 3 201 1 593, xz, xz, xqa (.ifCond .ne 23) 3 27, xz, xz, xq (.iload_n 0) 1, xqc (.invokestatic 15) 3 202 1 594, xz, xz, xqa (.ifCond .ne 16) 3 27, xz, xz, xq (.iload_n 0) 1, xqc (.invokestatic 18) 3 203 1 597, xz, xz, xqa (.ifCond .ne 9) 3 27, xz, xz, xq (.iload_n 0) 1, xqv (.bipush 95) 2 95, xz, xqa (.if_icmp .ne 7) 3 31, xz, xz, xqv (.iconst 1) 1 1, xqa (.goto 4) 3 32, xz, xz, xqv (.iconst 0) 1 0, xq .ireturn 1]
-- TermReader$Chars.isSign(I)Z
def xc_205 : List (Option xRow) := [xq (.iload_n 0) 1, xqs (.lookupswitch 149 #[(35, 147), (36, 147), (38, 147), (42, 147), (43, 147), (45, 147), (46, 147), (47, 147), (58, 147), (60, 147), (61, 147), (62, 147), (63, 147), (64, 147), (92, 147), (94, 147), (126, 147)]) 147 150 [(35, 148), (36, 148), (38, 148), (42, 148), (43, 148), (45, 148), (46, 148), (47, 148), (58, 148), (60, 148), (61, 148), (62, 148), (63, 148), (64, 148), (92, 148), (94, 148), (126, 148)], xz, xz, xz, xz, xz, xz, xz, xz, xz, xz, xz, xz, xz, xz, xz, xz, xz, xz, xz, xz, xz, xz, xz, xz, xz, xz, xz, xz, xz, xz, xz, xz, xz, xz, xz, xz, xz, xz, xz, xz, xz, xz, xz, xz, xz, xz, xz, xz, xz, xz, xz, xz, xz, xz, xz, xz, xz, xz, xz, xz, xz, xz, xz, xz, xz, xz, xz, xz, xz, xz, xz, xz, xz, xz, xz, xz, xz, xz, xz, xz, xz, xz, xz, xz, xz, xz, xz, xz, xz, xz, xz, xz, xz, xz, xz, xz, xz, xz, xz, xz, xz, xz, xz, xz, xz, xz, xz, xz, xz, xz, xz, xz, xz, xz, xz, xz, xz, xz, xz, xz, xz, xz, xz, xz, xz, xz, xz, xz, xz, xz, xz, xz, xz, xz, xz, xz, xz, xz, xz, xz, xz, xz, xz, xz, xz, xz, xqv (.iconst 1) 1 1, xq .ireturn 1, xqv (.iconst 0) 1 0, xq .ireturn 1]
-- TermReader$Chars.isPunctuation(I)Z
def xc_206 : List (Option xRow) := [xq (.iload_n 0) 1, xqs (.lookupswitch 77 #[(40, 75), (41, 75), (44, 75), (91, 75), (93, 75), (123, 75), (124, 75), (125, 75)]) 75 78 [(40, 76), (41, 76), (44, 76), (91, 76), (93, 76), (123, 76), (124, 76), (125, 76)], xz, xz, xz, xz, xz, xz, xz, xz, xz, xz, xz, xz, xz, xz, xz, xz, xz, xz, xz, xz, xz, xz, xz, xz, xz, xz, xz, xz, xz, xz, xz, xz, xz, xz, xz, xz, xz, xz, xz, xz, xz, xz, xz, xz, xz, xz, xz, xz, xz, xz, xz, xz, xz, xz, xz, xz, xz, xz, xz, xz, xz, xz, xz, xz, xz, xz, xz, xz, xz, xz, xz, xz, xz, xz, xqv (.iconst 1) 1 1, xq .ireturn 1, xqv (.iconst 0) 1 0, xq .ireturn 1]
-- TermReader$Chars.digit(II)I
def xc_207 : List (Option xRow) := [xq (.iload_n 0) 1, xqc (.invokestatic 18) 3 203 1 597, xz, xz, xqa (.ifCond .eq 8) 3 12, xz, xz, xq (.iload_n 0) 1, xqv (.bipush 48) 2 48, xz, xq .isub 1, xq .ireturn 1, xq (.iload_n 1) 1, xqv (.bipush 16) 2 16, xz, xqa (.if_icmp .ne 25) 3 40, xz, xz, xq (.iload_n 0) 1, xqv (.bipush 97) 2 97, xz, xqa (.if_icmp .lt 19) 3 40, xz, xz, xq (.iload_n 0) 1, xqv (.bipush 102) 2 102, xz, xqa (.if_icmp .gt 13) 3 40, xz, xz, xq (.iload_n 0) 1, xqv (.bipush 97) 2 97, xz, xq .isub 1, xqv (.bipush 10) 2 10, xz, xq .iadd 1, xqa (.goto 4) 3 41, xz, xz, xqv (.iconst (-1)) 1 (-1), xq .ireturn 1]
-- TermReader$Packed.at(JI)I
def xc_208 : List (Option xRow) := [xq (.iload_n 2) 1, xqa (.ifCond .lt 23) 3 24, xz, xz, xq (.iload_n 2) 1, xqv (.bipush 8) 2 8, xz, xqa (.if_icmp .ge 17) 3 24, xz, xz, xq (.lload_n 0) 1, xqv (.bipush 8) 2 8, xz, xq (.iload_n 2) 1, xq .imul 1, xq .lushr 1, xqk (.ldc2_w 9) 3 0 0 405 255, xz, xz, xq .land 1, xq .l2i 1, xqa (.goto 4) 3 25, xz, xz, xqv (.iconst 0) 1 0, xq .ireturn 1]
-- TermReader$Packed.size(J)I
def xc_209 : List (Option xRow) := [xqv (.iconst 0) 1 0, xq (.istore_n 2) 1, xq (.iload_n 2) 1, xqv (.bipush 8) 2 8, xz, xqa (.if_icmp .ge 19) 3 24, xz, xz, xq (.lload_n 0) 1, xq (.iload_n 2) 1, xqc (.invokestatic 11) 3 208 2 402, xz, xz, xqa (.ifCond .ne 5) 3 18, xz, xz, xq (.iload_n 2) 1, xq .ireturn 1, xqv (.iinc 2 1) 3 1, xz, xz, xqa (.goto (-19)) 3 2, xz, xz, xqv (.bipush 8) 2 8, xz, xq .ireturn 1]
-- TermReader$Packed.trimmed(J)J
def xc_210 : List (Option xRow) := [xq (.lload_n 0) 1, xqc (.invokestatic 17) 3 209 1 443, xz, xz, xq (.istore_n 2) 1, xq (.iload_n 2) 1, xqv (.bipush 8) 2 8, xz, xqa (.if_icmp .lt 7) 3 15, xz, xz, xq (.lload_n 0) 1, xqa (.goto 13) 3 25, xz, xz, xq (.lload_n 0) 1, xq (.lconst 1) 1, xqv (.bipush 8) 2 8, xz, xq (.iload_n 2) 1, xq .imul 1, xq .lshl 1, xq (.lconst 1) 1, xq .lsub 1, xq .land 1, xq .lreturn 1]
-- TermReader$Packed.ofText(Ljava/lang/String;)J
def xc_211 : List (Option xRow) := [xq (.lconst 0) 1, xq (.lstore_n 1) 1, xqv (.iconst 0) 1 0, xq (.istore_n 3) 1, xq (.iload_n 3) 1, xq (.aload_n 0) 1, xqc (.invokevirtual 21) 3 2000 0 173, xz, xz, xqa (.if_icmp .ge 29) 3 38, xz, xz, xq (.iload_n 3) 1, xqv (.bipush 8) 2 8, xz, xqa (.if_icmp .ge 23) 3 38, xz, xz, xq (.lload_n 1) 1, xq (.aload_n 0) 1, xq (.iload_n 3) 1, xqc (.invokevirtual 27) 3 2000 0 183, xz, xz, xq .i2l 1, xqv (.bipush 8) 2 8, xz, xq (.iload_n 3) 1, xq .imul 1, xq .lshl 1, xq .lor 1, xq (.lstore_n 1) 1, xqv (.iinc 3 1) 3 1, xz, xz, xqa (.goto (-31)) 3 4, xz, xz, xq (.lload_n 1) 1, xq .lreturn 1]
-- TermReader$Packed.ofRow(LTermReader$CharRow;II)J
def xc_212 : List (Option xRow) := [xq (.iload_n 2) 1, xqv (.iconst 1) 1 1, xqa (.if_icmp .lt 9) 3 11, xz, xz, xq (.iload_n 2) 1, xqv (.bipush 8) 2 8, xz, xqa (.if_icmp .le 5) 3 13, xz, xz, xq (.lconst 0) 1, xq .lreturn 1, xq (.lconst 0) 1, xq (.lstore_n 3) 1, xqv (.iconst 0) 1 0, xq (.istore 5) 2, xz, xq (.iload 5) 2, xz, xq (.iload_n 2) 1, xqa (.if_icmp .ge 31) 3 52, xz, xz, xq (.lload_n 3) 1, xq (.aload_n 0) 1, xq (.iload_n 1) 1, xq (.iload 5) 2, xz, xq .iadd 1, xqc (.invokevirtual 31) 3 13 2 612, xz, xz, xq .i2l 1, xqk (.ldc2_w 9) 3 0 0 405 255, xz, xz, xq .land 1, xqv (.bipush 8) 2 8, xz, xq (.iload 5) 2, xz, xq .imul 1, xq .lshl 1, xq .lor 1, xq (.lstore_n 3) 1, xqv (.iinc 5 1) 3 1, xz, xz, xqa (.goto (-31)) 3 18, xz, xz, xq (.lload_n 3) 1, xq .lreturn 1]
-- TermReader$Packed.isOperatorName(J)Z
def xc_213 : List (Option xRow) := [xq (.lload_n 0) 1, xqc (.invokestatic 17) 3 209 1 443, xz, xz, xq (.istore_n 2) 1, xqv (.iconst 0) 1 0, xq (.istore_n 3) 1, xqv (.iconst 0) 1 0, xq (.istore 4) 2, xz, xqv (.iconst 0) 1 0, xq (.istore 5) 2, xz, xq (.iload 5) 2, xz, xq (.iload_n 2) 1, xqa (.if_icmp .ge 51) 3 67, xz, xz, xq (.iload_n 3) 1, xq (.lload_n 0) 1, xq (.iload 5) 2, xz, xqc (.invokestatic 11) 3 208 2 402, xz, xz, xqc (.invokestatic 36) 3 201 1 444, xz, xz, xqa (.ifCond .eq 7) 3 36, xz, xz, xqv (.iconst 1) 1 1, xqa (.goto 4) 3 37, xz, xz, xqv (.iconst 0) 1 0, xq .iadd 1, xq (.istore_n 3) 1, xq (.iload 4) 2, xz, xq (.lload_n 0) 1, xq (.iload 5) 2, xz, xqc (.invokestatic 11) 3 208 2 402, xz, xz, xqc (.invokestatic 42) 3 205 1 447, xz, xz, xqa (.ifCond .eq 7) 3 57, xz, xz, xqv (.iconst 1) 1 1, xqa (.goto 4) 3 58, xz, xz, xqv (.iconst 0) 1 0, xq .iadd 1, xq (.istore 4) 2, xz, xqv (.iinc 5 1) 3 1, xz, xz, xqa (.goto (-51)) 3 13, xz, xz, xq (.iload_n 2) 1, xqa (.ifCond .eq 14) 3 82, xz, xz, xq (.iload_n 3) 1, xq (.iload_n 2) 1, xqa (.if_icmp .eq 11) 3 84, xz, xz, xq (.iload 4) 2, xz, xq (.iload_n 2) 1, xqa (.if_icmp .eq 5) 3 84, xz, xz, xqv (.iconst 0) 1 0, xq .ireturn 1, xq (.lload_n 0) 1, xqc (.invokestatic 45) 3 210 1 450, xz, xz, xqk (.ldc2_w 49) 3 0 0 453 46, xz, xz, xq .lcmp 1, xqa (.ifCond .eq 27) 3 119, xz, xz, xq (.lload_n 0) 1, xqv (.iconst 0) 1 0, xqc (.invokestatic 11) 3 208 2 402, xz, xz, xqv (.bipush 47) 2 47, xz, xqa (.if_icmp .ne 13) 3 115, xz, xz, xq (.lload_n 0) 1, xqv (.iconst 1) 1 1, xqc (.invokestatic 11) 3 208 2 402, xz, xz, xqv (.bipush 42) 2 42, xz, xqa (.if_icmp .eq 7) 3 119, xz, xz, xqv (.iconst 1) 1 1, xqa (.goto 4) 3 120, xz, xz, xqv (.iconst 0) 1 0, xq .ireturn 1]
-- TermReaderLaw.op(LTermReader;IIJ)I
def xc_214 : List (Option xRow) := [xq (.aload_n 0) 1, xq (.iload_n 1) 1, xq (.iload_n 2) 1, xq (.lload_n 3) 1, xqc (.invokevirtual 7) 3 2 4 436, xz, xz, xqa (.goto 11) 3 18, xz, xz, xq (.astore 5) 2, xz, xqv (.iconst 1) 1 1, xq .ireturn 1, xq (.astore 5) 2, xz, xqv (.iconst 2) 1 2, xq .ireturn 1, xqv (.iconst 0) 1 0, xq .ireturn 1]
-- TermReaderLaw.read(LTermReader;[J)I
def xc_215 : List (Option xRow) := [xq (.aload_n 1) 1, xqv (.iconst 0) 1 0, xq (.aload_n 0) 1, xqc (.invokevirtual 17) 3 3 1 558, xz, xz, xq .i2l 1, xq .lastore 1, xqa (.goto 9) 3 17, xz, xz, xq (.astore_n 2) 1, xqv (.iconst 1) 1 1, xq .ireturn 1, xq (.astore_n 2) 1, xqv (.iconst 2) 1 2, xq .ireturn 1, xqv (.iconst 0) 1 0, xq .ireturn 1]
-- TermReaderLaw.write(LTermReader;I[J)I
def xc_216 : List (Option xRow) := [xq (.aload_n 2) 1, xqv (.iconst 0) 1 0, xq (.aload_n 0) 1, xq (.iload_n 1) 1, xqc (.invokevirtual 23) 3 4 2 898, xz, xz, xq .i2l 1, xq .lastore 1, xqa (.goto 6) 3 15, xz, xz, xq (.astore_n 3) 1, xqv (.iconst 1) 1 1, xq .ireturn 1, xqv (.iconst 0) 1 0, xq .ireturn 1]
-- TermReaderLaw.alike(LTermReader;II[J)I
def xc_217 : List (Option xRow) := [xq (.aload_n 3) 1, xqv (.iconst 0) 1 0, xq (.aload_n 0) 1, xq (.iload_n 1) 1, xq (.iload_n 2) 1, xqc (.invokevirtual 27) 3 7 3 1053, xz, xz, xqa (.ifCond .eq 7) 3 15, xz, xz, xq (.lconst 1) 1, xqa (.goto 4) 3 16, xz, xz, xq (.lconst 0) 1, xq .lastore 1, xqa (.goto 7) 3 24, xz, xz, xq (.astore 4) 2, xz, xqv (.iconst 1) 1 1, xq .ireturn 1, xqv (.iconst 0) 1 0, xq .ireturn 1]
-- TermReaderLaw.look(LTermReader;II[J)I
def xc_218 : List (Option xRow) := [xq (.aload_n 3) 1, xqv (.iconst 0) 1 0, xq (.aload_n 0) 1, xq (.iload_n 1) 1, xq (.iload_n 2) 1, xqc (.invokevirtual 31) 3 8 3 1074, xz, xz, xq .i2l 1, xq .lastore 1, xqa (.goto 11) 3 21, xz, xz, xq (.astore 4) 2, xz, xqv (.iconst 1) 1 1, xq .ireturn 1, xq (.astore 4) 2, xz, xqv (.iconst 2) 1 2, xq .ireturn 1, xqv (.iconst 0) 1 0, xq .ireturn 1]
-- TermReaderLaw.count(LTermReader;I[J)I
def xc_219 : List (Option xRow) := [xq (.aload_n 2) 1, xqv (.iconst 0) 1 0, xq (.aload_n 0) 1, xq (.iload_n 1) 1, xqc (.invokevirtual 35) 3 9 2 1088, xz, xz, xq .i2l 1, xq .lastore 1, xqa (.goto 6) 3 15, xz, xz, xq (.astore_n 3) 1, xqv (.iconst 1) 1 1, xq .ireturn 1, xqv (.iconst 0) 1 0, xq .ireturn 1]
-- TermReaderLaw.law([I)Z
def xc_220 : List (Option xRow) := [xqc (.new 8) 3 0 0 129, xz, xz, xq .dup 1, xqc (.invokespecial 38) 3 0 1 131, xz, xz, xq (.astore_n 1) 1, xqc (.new 39) 3 7 0 1097, xz, xz, xq .dup 1, xqc (.invokespecial 41) 3 130 1 1099, xz, xz, xq (.astore_n 2) 1, xqv (.iconst 1) 1 1, xqc (.newarray .long) 2 0 0 245, xz, xq (.astore_n 3) 1, xqv (.iconst 0) 1 0, xq (.istore 4) 2, xz, xq (.iload 4) 2, xz, xq (.aload_n 0) 1, xq .arraylength 1, xqv (.iconst 5) 1 5, xq .isub 1, xqa (.if_icmp .gt 551) 3 580, xz, xz, xq (.aload_n 0) 1, xq (.iload 4) 2, xz, xq .iaload 1, xqv (.bipush 15) 2 15, xz, xq .iand 1, xqs (.tableswitch 535 0 8 #[49, 106, 198, 242, 298, 323, 336, 411, 479]) 49 574 [(0, 88), (1, 145), (2, 237), (3, 281), (4, 337), (5, 362), (6, 375), (7, 450), (8, 518)], xz, xz, xz, xz, xz, xz, xz, xz, xz, xz, xz, xz, xz, xz, xz, xz, xz, xz, xz, xz, xz, xz, xz, xz, xz, xz, xz, xz, xz, xz, xz, xz, xz, xz, xz, xz, xz, xz, xz, xz, xz, xz, xz, xz, xz, xz, xz, xz, xq (.aload_n 1) 1, xq (.aload_n 0) 1, xq (.iload 4) 2, xz, xqv (.iconst 1) 1 1, xq .iadd 1, xq .iaload 1, xq .i2l 1, xqv (.bipush 32) 2 32, xz, xq .lshl 1, xq (.aload_n 0) 1, xq (.iload 4) 2, xz, xqv (.iconst 2) 1 2, xq .iadd 1, xq .iaload 1, xq .i2l 1, xqk (.ldc2_w 42) 3 0 0 1514 4294967295, xz, xz, xq .land 1, xq .lor 1, xqc (.invokevirtual 44) 3 1 2 395, xz, xz, xq (.aload_n 2) 1, xq (.aload_n 0) 1, xq (.iload 4) 2, xz, xqv (.iconst 1) 1 1, xq .iadd 1, xq .iaload 1, xq .i2l 1, xqv (.bipush 32) 2 32, xz, xq .lshl 1, xq (.aload_n 0) 1, xq (.iload 4) 2, xz, xqv (.iconst 2) 1 2, xq .iadd 1, xq .iaload 1, xq .i2l 1, xqk (.ldc2_w 42) 3 0 0 1514 4294967295, xz, xz, xq .land 1, xq .lor 1, xqc (.invokevirtual 48) 3 152 2 1278, xz, xz, xqa (.if_icmp .eq 434) 3 574, xz, xz, xqv (.iconst 0) 1 0, xq .ireturn 1, xq (.aload_n 1) 1, xq (.aload_n 0) 1, xq (.iload 4) 2, xz, xqv (.iconst 1) 1 1, xq .iadd 1, xq .iaload 1, xq (.aload_n 0) 1, xq (.iload 4) 2, xz, xqv (.iconst 2) 1 2, xq .iadd 1, xq .iaload 1, xq (.aload_n 0) 1, xq (.iload 4) 2, xz, xqv (.iconst 3) 1 3, xq .iadd 1, xq .iaload 1, xq .i2l 1, xqv (.bipush 32) 2 32, xz, xq .lshl 1, xq (.aload_n 0) 1, xq (.iload 4) 2, xz, xqv (.iconst 4) 1 4, xq .iadd 1, xq .iaload 1, xq .i2l 1, xqk (.ldc2_w 42) 3 0 0 1514 4294967295, xz, xz, xq .land 1, xq .lor 1, xqc (.invokestatic 49) 3 214 4 431, xz, xz, xq (.istore 5) 2, xz, xq (.aload_n 2) 1, xq (.aload_n 0) 1, xq (.iload 4) 2, xz, xqv (.iconst 1) 1 1, xq .iadd 1, xq .iaload 1, xq (.aload_n 0) 1, xq (.iload 4) 2, xz, xqv (.iconst 2) 1 2, xq .iadd 1, xq .iaload 1, xq (.aload_n 0) 1, xq (.iload 4) 2, xz, xqv (.iconst 3) 1 3, xq .iadd 1, xq .iaload 1, xq .i2l 1, xqv (.bipush 32) 2 32, xz, xq .lshl 1, xq (.aload_n 0) 1, xq (.iload 4) 2, xz, xqv (.iconst 4) 1 4, xq .iadd 1, xq .iaload 1, xq .i2l 1, xqk (.ldc2_w 42) 3 0 0 1514 4294967295, xz, xz, xq .land 1, xq .lor 1, xqc (.invokevirtual 54) 3 151 4 1251, xz, xz, xq (.aload_n 2) 1, xqc (.invokevirtual 55) 3 131 1 1247, xz, xz, xq (.iload 5) 2, xz, xqa (.if_icmp .eq 5) 3 234, xz, xz, xqv (.iconst 0) 1 0, xq .ireturn 1, xqa (.goto 340) 3 574, xz, xz, xq (.aload_n 1) 1, xq (.aload_n 3) 1, xqc (.invokestatic 58) 3 215 2 554, xz, xz, xq (.istore 5) 2, xz, xq (.aload_n 2) 1, xqc (.invokevirtual 61) 3 177 1 1284, xz, xz, xq (.istore 6) 2, xz, xq (.aload_n 2) 1, xqc (.invokevirtual 55) 3 131 1 1247, xz, xz, xq (.iload 5) 2, xz, xqa (.if_icmp .eq 5) 3 261, xz, xz, xqv (.iconst 0) 1 0, xq .ireturn 1, xq (.iload 5) 2, xz, xqa (.ifCond .ne 15) 3 278, xz, xz, xq (.aload_n 3) 1, xqv (.iconst 0) 1 0, xq .laload 1, xq (.iload 6) 2, xz, xq .i2l 1, xq .lcmp 1, xqa (.ifCond .eq 5) 3 278, xz, xz, xqv (.iconst 0) 1 0, xq .ireturn 1, xqa (.goto 296) 3 574, xz, xz, xq (.aload_n 1) 1, xq (.aload_n 0) 1, xq (.iload 4) 2, xz, xqv (.iconst 1) 1 1, xq .iadd 1, xq .iaload 1, xq (.aload_n 3) 1, xqc (.invokestatic 62) 3 216 3 895, xz, xz, xq (.istore 5) 2, xz, xq (.aload_n 2) 1, xq (.aload_n 0) 1, xq (.iload 4) 2, xz, xqv (.iconst 1) 1 1, xq .iadd 1, xq .iaload 1, xqc (.invokevirtual 65) 3 193 2 1424, xz, xz, xq (.istore 6) 2, xz, xq (.aload_n 2) 1, xqc (.invokevirtual 55) 3 131 1 1247, xz, xz, xq (.iload 5) 2, xz, xqa (.if_icmp .eq 5) 3 317, xz, xz, xqv (.iconst 0) 1 0, xq .ireturn 1, xq (.iload 5) 2, xz, xqa (.ifCond .ne 15) 3 334, xz, xz, xq (.aload_n 3) 1, xqv (.iconst 0) 1 0, xq .laload 1, xq (.iload 6) 2, xz, xq .i2l 1, xq .lcmp 1, xqa (.ifCond .eq 5) 3 334, xz, xz, xqv (.iconst 0) 1 0, xq .ireturn 1, xqa (.goto 240) 3 574, xz, xz, xq (.aload_n 1) 1, xq (.aload_n 0) 1, xq (.iload 4) 2, xz, xqv (.iconst 1) 1 1, xq .iadd 1, xq .iaload 1, xqc (.invokevirtual 66) 3 5 2 415, xz, xz, xq (.aload_n 2) 1, xq (.aload_n 0) 1, xq (.iload 4) 2, xz, xqv (.iconst 1) 1 1, xq .iadd 1, xq .iaload 1, xqc (.invokevirtual 69) 3 194 2 1494, xz, xz, xqa (.if_icmp .eq 217) 3 574, xz, xz, xqv (.iconst 0) 1 0, xq .ireturn 1, xq (.aload_n 1) 1, xqc (.invokevirtual 70) 3 6 1 423, xz, xz, xq (.aload_n 2) 1, xqc (.invokevirtual 74) 3 195 1 1498, xz, xz, xqa (.if_icmp .eq 204) 3 574, xz, xz, xqv (.iconst 0) 1 0, xq .ireturn 1, xq (.aload_n 1) 1, xq (.aload_n 0) 1, xq (.iload 4) 2, xz, xqv (.iconst 1) 1 1, xq .iadd 1, xq .iaload 1, xq (.aload_n 0) 1, xq (.iload 4) 2, xz, xqv (.iconst 2) 1 2, xq .iadd 1, xq .iaload 1, xq (.aload_n 3) 1, xqc (.invokestatic 75) 3 217 4 1050, xz, xz, xq (.istore 5) 2, xz, xq (.aload_n 2) 1, xq (.aload_n 0) 1, xq (.iload 4) 2, xz, xqv (.iconst 1) 1 1, xq .iadd 1, xq .iaload 1, xq (.aload_n 0) 1, xq (.iload 4) 2, xz, xqv (.iconst 2) 1 2, xq .iadd 1, xq .iaload 1, xqc (.invokevirtual 78) 3 196 3 1502, xz, xz, xq (.istore 6) 2, xz, xq (.aload_n 2) 1, xqc (.invokevirtual 55) 3 131 1 1247, xz, xz, xq (.iload 5) 2, xz, xqa (.if_icmp .eq 5) 3 423, xz, xz, xqv (.iconst 0) 1 0, xq .ireturn 1, xq (.iload 5) 2, xz, xqa (.ifCond .ne 22) 3 447, xz, xz, xq (.aload_n 3) 1, xqv (.iconst 0) 1 0, xq .laload 1, xq (.iload 6) 2, xz, xqa (.ifCond .eq 7) 3 440, xz, xz, xq (.lconst 1) 1, xqa (.goto 4) 3 441, xz, xz, xq (.lconst 0) 1, xq .lcmp 1, xqa (.ifCond .eq 5) 3 447, xz, xz, xqv (.iconst 0) 1 0, xq .ireturn 1, xqa (.goto 127) 3 574, xz, xz, xq (.aload_n 1) 1, xq (.aload_n 0) 1, xq (.iload 4) 2, xz, xqv (.iconst 1) 1 1, xq .iadd 1, xq .iaload 1, xq (.aload_n 0) 1, xq (.iload 4) 2, xz, xqv (.iconst 2) 1 2, xq .iadd 1, xq .iaload 1, xq (.aload_n 3) 1, xqc (.invokestatic 79) 3 218 4 1071, xz, xz, xq (.istore 5) 2, xz, xq (.aload_n 2) 1, xq (.aload_n 0) 1, xq (.iload 4) 2, xz, xqv (.iconst 1) 1 1, xq .iadd 1, xq .iaload 1, xq (.aload_n 0) 1, xq (.iload 4) 2, xz, xqv (.iconst 2) 1 2, xq .iadd 1, xq .iaload 1, xqc (.invokevirtual 81) 3 198 3 1506, xz, xz, xq (.istore 6) 2, xz, xq (.aload_n 2) 1, xqc (.invokevirtual 55) 3 131 1 1247, xz, xz, xq (.iload 5) 2, xz, xqa (.if_icmp .eq 5) 3 498, xz, xz, xqv (.iconst 0) 1 0, xq .ireturn 1, xq (.iload 5) 2, xz, xqa (.ifCond .ne 15) 3 515, xz, xz, xq (.aload_n 3) 1, xqv (.iconst 0) 1 0, xq .laload 1, xq (.iload 6) 2, xz, xq .i2l 1, xq .lcmp 1, xqa (.ifCond .eq 5) 3 515, xz, xz, xqv (.iconst 0) 1 0, xq .ireturn 1, xqa (.goto 59) 3 574, xz, xz, xq (.aload_n 1) 1, xq (.aload_n 0) 1, xq (.iload 4) 2, xz, xqv (.iconst 1) 1 1, xq .iadd 1, xq .iaload 1, xq (.aload_n 3) 1, xqc (.invokestatic 82) 3 219 3 1085, xz, xz, xq (.istore 5) 2, xz, xq (.aload_n 2) 1, xq (.aload_n 0) 1, xq (.iload 4) 2, xz, xqv (.iconst 1) 1 1, xq .iadd 1, xq .iaload 1, xqc (.invokevirtual 84) 3 199 2 1510, xz, xz, xq (.istore 6) 2, xz, xq (.aload_n 2) 1, xqc (.invokevirtual 55) 3 131 1 1247, xz, xz, xq (.iload 5) 2, xz, xqa (.if_icmp .eq 5) 3 554, xz, xz, xqv (.iconst 0) 1 0, xq .ireturn 1, xq (.iload 5) 2, xz, xqa (.ifCond .ne 15) 3 571, xz, xz, xq (.aload_n 3) 1, xqv (.iconst 0) 1 0, xq .laload 1, xq (.iload 6) 2, xz, xq .i2l 1, xq .lcmp 1, xqa (.ifCond .eq 5) 3 571, xz, xz, xqv (.iconst 0) 1 0, xq .ireturn 1, xqa (.goto 3) 3 574, xz, xz, xqv (.iinc 4 5) 3 5, xz, xz, xqa (.goto (-554)) 3 23, xz, xz, xqv (.iconst 1) 1 1, xq .ireturn 1]
def xcs : List (List (Option xRow)) := [xc_0, xc_1, xc_2, xc_3, xc_4, xc_5, xc_6, xc_7, xc_8, xc_9, xc_10, xc_11, xc_12, xc_13, xc_14, xc_15, xc_16, xc_17, xc_18, xc_19, xc_20, xc_21, xc_22, xc_23, xc_24, xc_25, xc_26, xc_27, xc_28, xc_29, xc_30, xc_31, xc_32, xc_33, xc_34, xc_35, xc_36, xc_37, xc_38, xc_39, xc_40, xc_41, xc_42, xc_43, xc_44, xc_45, xc_46, xc_47, xc_48, xc_49, xc_50, xc_51, xc_52, xc_53, xc_54, xc_55, xc_56, xc_57, xc_58, xc_59, xc_60, xc_61, xc_62, xc_63, xc_64, xc_65, xc_66, xc_67, xc_68, xc_69, xc_70, xc_71, xc_72, xc_73, xc_74, xc_75, xc_76, xc_77, xc_78, xc_79, xc_80, xc_81, xc_82, xc_83, xc_84, xc_85, xc_86, xc_87, xc_88, xc_89, xc_90, xc_91, xc_92, xc_93, xc_94, xc_95, xc_96, xc_97, xc_98, xc_99, xc_100, xc_101, xc_102, xc_103, xc_104, xc_105, xc_106, xc_107, xc_108, xc_109, xc_110, xc_111, xc_112, xc_113, xc_114, xc_115, xc_116, xc_117, xc_118, xc_119, xc_120, xc_121, xc_122, xc_123, xc_124, xc_125, xc_126, xc_127, xc_128, xc_129, xc_130, xc_131, xc_132, xc_133, xc_134, xc_135, xc_136, xc_137, xc_138, xc_139, xc_140, xc_141, xc_142, xc_143, xc_144, xc_145, xc_146, xc_147, xc_148, xc_149, xc_150, xc_151, xc_152, xc_153, xc_154, xc_155, xc_156, xc_157, xc_158, xc_159, xc_160, xc_161, xc_162, xc_163, xc_164, xc_165, xc_166, xc_167, xc_168, xc_169, xc_170, xc_171, xc_172, xc_173, xc_174, xc_175, xc_176, xc_177, xc_178, xc_179, xc_180, xc_181, xc_182, xc_183, xc_184, xc_185, xc_186, xc_187, xc_188, xc_189, xc_190, xc_191, xc_192, xc_193, xc_194, xc_195, xc_196, xc_197, xc_198, xc_199, xc_200, xc_201, xc_202, xc_203, xc_204, xc_205, xc_206, xc_207, xc_208, xc_209, xc_210, xc_211, xc_212, xc_213, xc_214, xc_215, xc_216, xc_217, xc_218, xc_219, xc_220]
end
section
-- a pure machine: frames of association lists, a heap that is a list of cells and a count of thrown objects
abbrev xC : Type := (FieldType × vp_A) ⊕ (Nat × List Value)
abbrev xL : Type := List (Nat × Value)
abbrev xH : Type := List xC × Nat
abbrev xO : Type := Option Value ⊕ Nat
abbrev xSc : Type := Nat × (Nat → Int32)
/-- the abstract reference of the script -/
abbrev xscr : Nat := 1000000000
def xlk (i : Nat) : xL → Option Value
  | [] => none
  | q :: r => if q.1 == i then some q.2 else xlk i r
def xput (i : Nat) (v : Value) : xL → xL
  | [] => [(i, v)]
  | q :: r => if i < q.1 then (i, v) :: q :: r else q :: xput i v r
def xst1 (i : Nat) (v : Value) (ls : xL) : xL := xput i v (ls.filter (fun q => !(q.1 == i) && !(q.1 + 1 == i && q.2.category == 2)))
def xst2 (i : Nat) (v : Value) (ls : xL) : xL := xput i v (ls.filter (fun q => !(q.1 == i) && (!(q.1 == i + 1) && !(q.1 + 1 == i && q.2.category == 2))))
def xcmp (k : ClassFile.Cond) (x y : Int32) : Bool := match k with
  | .eq => decide (x = y)
  | .ne => decide (¬ x = y)
  | .lt => decide (x < y)
  | .ge => decide (y ≤ x)
  | .gt => decide (y < x)
  | .le => decide (x ≤ y)
def xsw (d : Nat) (x : Int32) : List (Int32 × Nat) → Nat
  | [] => d
  | q :: r => if x = q.1 then q.2 else xsw d x r
def xib (i : Int32) (n : Nat) : Bool := decide (0 ≤ i.toInt) && decide (i.toInt < n)
def xfit (ty : FieldType) (v : Value) : Bool := match ty, v with
  | .int, .int _ => true
  | .boolean, .int x => x == 0 || x == 1
  | .long, .long _ => true
  | .array _, .ref _ => true
  | .object _, .ref _ => true
  | _, _ => false
def xnar (t : ArrayType) (n : Nat) : Option xC := match t with
  | .int => some (.inl (.int, n, .inl fun _ => 0))
  | .long => some (.inl (.long, n, .inr (.inl fun _ => 0)))
  | .char => some (.inl (.char, n, .inl fun _ => 0))
  | _ => none
abbrev xN : Type := Nat × xL × List Value × List xC
def xi1 (st : List Value) (k : Int32 → List Value → Option xN) : Option xN := match st with
  | .int x :: r => k x r
  | _ => none
def xi2 (st : List Value) (k : Int32 → Int32 → List Value → Option xN) : Option xN := match st with
  | .int y :: .int x :: r => k x y r
  | _ => none
def xl1 (st : List Value) (k : Int64 → List Value → Option xN) : Option xN := match st with
  | .long x :: r => k x r
  | _ => none
def xl2 (st : List Value) (k : Int64 → Int64 → List Value → Option xN) : Option xN := match st with
  | .long y :: .long x :: r => k x y r
  | _ => none
def xli (st : List Value) (k : Int64 → Int32 → List Value → Option xN) : Option xN := match st with
  | .int y :: .long x :: r => k x y r
  | _ => none
def xr1 (st : List Value) (k : Nat → List Value → Option xN) : Option xN := match st with
  | .ref x :: r => k x r
  | _ => none
def xri (st : List Value) (k : Nat → Int32 → List Value → Option xN) : Option xN := match st with
  | .int i :: .ref a :: r => k a i r
  | _ => none
def xlki (v : Option Value) (k : Int32 → Option xN) : Option xN := match v with
  | some (.int x) => k x
  | _ => none
def xlkl (v : Option Value) (k : Int64 → Option xN) : Option xN := match v with
  | some (.long x) => k x
  | _ => none
def xlka (v : Option Value) (k : Nat → Option xN) : Option xN := match v with
  | some (.ref x) => k x
  | _ => none
def xarI (c : Option xC) (ty : FieldType) (i : Int32) (k : Nat → (Nat → Int32) → Option xN) : Option xN := match c with
  | some (.inl (t, n, .inl f)) => if t = ty then (if xib i n then k n f else none) else none
  | _ => none
def xarL (c : Option xC) (i : Int32) (k : Nat → (Nat → Int64) → Option xN) : Option xN := match c with
  | some (.inl (t, n, .inr (.inl f))) => if t = .long then (if xib i n then k n f else none) else none
  | _ => none
def xob (c : Option xC) (ci : Nat) (k : List Value → Option xN) : Option xN := match c with
  | some (.inr (cj, fs)) => if cj = ci then k fs else none
  | _ => none
/-- what one simple instruction does: pc, locals, stack, cells; d frames are left; g objects have been thrown -/
def xs (sc : xSc) (nL d g : Nat) (r : xRow) (pc : Nat) (ls : xL) (st : List Value) (A : List xC) : Option xN := match r with
  | (i0, _, r1, r2, _, rv, rk, sw) => match i0 with
  | .iconst _ => some (pc + 1, ls, .int rv :: st, A)
  | .bipush _ => some (pc + 2, ls, .int rv :: st, A)
  | .sipush _ => some (pc + 3, ls, .int rv :: st, A)
  | .lconst n => some (pc + 1, ls, .long (Int64.ofNat n) :: st, A)
  | .ldc2_w _ => some (pc + 3, ls, .long rk :: st, A)
  | .iload i => xlki (xlk i ls) fun x => some (pc + 2, ls, .int x :: st, A)
  | .iload_n i => xlki (xlk i ls) fun x => some (pc + 1, ls, .int x :: st, A)
  | .lload i => xlkl (xlk i ls) fun x => some (pc + 2, ls, .long x :: st, A)
  | .lload_n i => xlkl (xlk i ls) fun x => some (pc + 1, ls, .long x :: st, A)
  | .aload i => xlka (xlk i ls) fun x => some (pc + 2, ls, .ref x :: st, A)
  | .aload_n i => xlka (xlk i ls) fun x => some (pc + 1, ls, .ref x :: st, A)
  | .istore i => xi1 st fun x r => if i < nL then some (pc + 2, xst1 i (.int x) ls, r, A) else none
  | .istore_n i => xi1 st fun x r => if i.val < nL then some (pc + 1, xst1 i (.int x) ls, r, A) else none
  | .lstore i => xl1 st fun x r => if i + 1 < nL then some (pc + 2, xst2 i (.long x) ls, r, A) else none
  | .lstore_n i => xl1 st fun x r => if i.val + 1 < nL then some (pc + 1, xst2 i (.long x) ls, r, A) else none
  | .astore i => xr1 st fun x r => if i < nL then some (pc + 2, xst1 i (.ref x) ls, r, A) else none
  | .astore_n i => xr1 st fun x r => if i.val < nL then some (pc + 1, xst1 i (.ref x) ls, r, A) else none
  | .iinc i _ => xlki (xlk i ls) fun x => if i < nL then some (pc + 3, xst1 i (.int (x + rv)) ls, st, A) else none
  | .dup => match st with
    | v :: q => if v.category = 1 then some (pc + 1, ls, v :: v :: q, A) else none
    | _ => none
  | .dup2 => match st with
    | v :: w :: q => if v.category = 1 then (if w.category = 1 then some (pc + 1, ls, v :: w :: v :: w :: q, A) else none) else none
    | _ => none
  | .pop => match st with
    | v :: q => if v.category = 1 then some (pc + 1, ls, q, A) else none
    | _ => none
  | .iadd => xi2 st fun x y r => some (pc + 1, ls, .int (x + y) :: r, A)
  | .isub => xi2 st fun x y r => some (pc + 1, ls, .int (x - y) :: r, A)
  | .imul => xi2 st fun x y r => some (pc + 1, ls, .int (x * y) :: r, A)
  | .iand => xi2 st fun x y r => some (pc + 1, ls, .int (x &&& y) :: r, A)
  | .irem => xi2 st fun x y r => if y = 0 then none else some (pc + 1, ls, .int (x - x / y * y) :: r, A)
  | .ineg => xi1 st fun x r => some (pc + 1, ls, .int (-x) :: r, A)
  | .ladd => xl2 st fun x y r => some (pc + 1, ls, .long (x + y) :: r, A)
  | .lsub => xl2 st fun x y r => some (pc + 1, ls, .long (x - y) :: r, A)
  | .lmul => xl2 st fun x y r => some (pc + 1, ls, .long (x * y) :: r, A)
  | .land => xl2 st fun x y r => some (pc + 1, ls, .long (x &&& y) :: r, A)
  | .lor => xl2 st fun x y r => some (pc + 1, ls, .long (x ||| y) :: r, A)
  | .ldiv => xl2 st fun x y r => if y = 0 then none else some (pc + 1, ls, .long (x / y) :: r, A)
  | .lrem => xl2 st fun x y r => if y = 0 then none else some (pc + 1, ls, .long (x - x / y * y) :: r, A)
  | .lneg => xl1 st fun x r => some (pc + 1, ls, .long (-x) :: r, A)
  | .lshl => xli st fun x y r => some (pc + 1, ls, .long (x <<< (y.toInt64 &&& 63)) :: r, A)
  | .lushr => xli st fun x y r => some (pc + 1, ls, .long ((x.toUInt64 >>> (y.toInt64.toUInt64 &&& Int64.toUInt64 63)).toInt64) :: r, A)
  | .lcmp => xl2 st fun x y r => some (pc + 1, ls, .int (lg_cmp x y) :: r, A)
  | .i2l => xi1 st fun x r => some (pc + 1, ls, .long x.toInt64 :: r, A)
  | .l2i => xl1 st fun x r => some (pc + 1, ls, .int x.toInt32 :: r, A)
  | .i2c => xi1 st fun x r => some (pc + 1, ls, .int (x.toUInt32 % 65536).toInt32 :: r, A)
  | .ifCond k _ => xi1 st fun x q => some (if xcmp k x 0 then r1 else pc + 3, ls, q, A)
  | .if_icmp k _ => xi2 st fun x y q => some (if xcmp k x y then r1 else pc + 3, ls, q, A)
  | .goto _ => some (r1, ls, st, A)
  | .tableswitch _ _ _ _ => xi1 st fun x q => some (xsw r1 x sw, ls, q, A)
  | .lookupswitch _ _ => xi1 st fun x q => some (xsw r1 x sw, ls, q, A)
  | .getfield _ => xr1 st fun a q => xob A[a]? r1 fun fs => match fs[r2]? with
    | some v => some (pc + 3, ls, v :: q, A)
    | none => none
  | .putfield _ => match st with
    | v :: .ref a :: q => xob A[a]? r1 fun fs => if r2 < fs.length then (if xfit ((xtys.getD r1 []).getD r2 .int) v then some (pc + 3, ls, q, A.set a (.inr (r1, fs.set r2 v))) else none) else none
    | _ => none
  | .arraylength => xr1 st fun a q => if a = xscr then some (pc + 1, ls, .int (nI sc.1) :: q, A) else match A[a]? with
    | some (.inl (_, n, _)) => some (pc + 1, ls, .int (Int32.ofNat n) :: q, A)
    | _ => none
  | .iaload => xri st fun a i q => if a = xscr then (if xib i sc.1 then some (pc + 1, ls, .int (sc.2 i.toNatClampNeg) :: q, A) else none) else xarI A[a]? .int i fun _ f => some (pc + 1, ls, .int (f i.toNatClampNeg) :: q, A)
  | .caload => xri st fun a i q => xarI A[a]? .char i fun _ f => some (pc + 1, ls, .int (f i.toNatClampNeg) :: q, A)
  | .laload => xri st fun a i q => xarL A[a]? i fun _ f => some (pc + 1, ls, .long (f i.toNatClampNeg) :: q, A)
  | .iastore => xi1 st fun x t => xri t fun a i q => xarI A[a]? .int i fun n f => some (pc + 1, ls, q, A.set a (.inl (.int, n, .inl (upd f i.toNatClampNeg x))))
  | .castore => xi1 st fun x t => xri t fun a i q => xarI A[a]? .char i fun n f => some (pc + 1, ls, q, A.set a (.inl (.char, n, .inl (upd f i.toNatClampNeg (vp_nar .char x)))))
  | .lastore => xl1 st fun x t => xri t fun a i q => xarL A[a]? i fun n f => some (pc + 1, ls, q, A.set a (.inl (.long, n, .inr (.inl (vp_updL f i.toNatClampNeg x)))))
  | .newarray t => xi1 st fun x q => if g = 0 then (if xib x 100000 then (if A.length < 1000 then (match xnar t x.toNatClampNeg with
    | some e => some (pc + 2, ls, .ref A.length :: q, A ++ [e])
    | none => none) else none) else none) else none
  | .new _ => if g = 0 then (if A.length < 1000 then (if r1 < 8 then some (pc + 3, ls, .ref A.length :: st, A ++ [.inr (r1, xdfs.getD r1 [])]) else none) else none) else none
  | .invokespecial _ => if r1 = 1000 then (match d with
    | _ + 1 => xr1 st fun _ q => if (q.map fun v => v.category).sum ≤ 8 then some (pc + 3, ls, q, A) else none
    | _ => none) else none
  | .invokestatic _ => if r1 = 1001 then (match d with
    | _ + 1 => xi2 st fun x y q => if (q.map fun v => v.category).sum ≤ 8 then some (pc + 3, ls, .int (if x < y then y else x) :: q, A) else none
    | _ => none) else none
  | _ => none
/-- 0 simple, 1 an end, 2 a call, 3 a throw, 4 a text's number -/
def xkd (r : xRow) : Nat := match r.1 with
  | .ireturn => 1
  | .lreturn => 1
  | .return_ => 1
  | .invokevirtual _ => if r.2.2.1 < 1000 then 2 else 0
  | .invokespecial _ => if r.2.2.1 < 1000 then 2 else 0
  | .invokestatic _ => if r.2.2.1 < 1000 then 2 else 0
  | .new _ => if r.2.2.1 < 1000 then 0 else 3
  | .ldc _ => if r.2.2.1 = 1 then 4 else 0
  | _ => 0
def xret (ty : Option FieldType) (i : Instr) (st : List Value) : Option (Option Value) := match i, st with
  | .ireturn, [.int x] => match ty with
    | some .int => some (some (.int x))
    | some .boolean => if x == 0 || x == 1 then some (some (.int x)) else none
    | _ => none
  | .lreturn, [.long x] => match ty with
    | some .long => some (some (.long x))
    | _ => none
  | .return_, [] => match ty with
    | none => some none
    | _ => none
  | _, _ => none
/-- the method's row -/
def xme (mi : Nat) : xM := xms.getD mi xm_0
def xrow (mi pc : Nat) : Option xRow := (xcs.getD mi []).getD pc none
/-- is the receiver an object of the method's own? -/
def xrecv (ci : Nat) (A : List xC) (v : List Value) : Bool := if ci = 99 then true else match v with
  | .ref a :: _ => match A[a]? with
    | some (.inr (cj, _)) => decide (cj = ci)
    | _ => false
  | _ => false
/-- a call's arguments and the rest of the stack -/
def xcall (r : xRow) (st : List Value) (A : List xC) : Option (List Value × List Value) :=
  if r.2.2.2.1 ≤ st.length then (if ((st.drop r.2.2.2.1).map fun v => v.category).sum ≤ 8 then (if xrecv (xme r.2.2.1).2.2.2.2.1 A (st.take r.2.2.2.1).reverse then (if (lg_sl (st.take r.2.2.2.1).reverse).length ≤ (xme r.2.2.1).2.2.1 then some ((st.take r.2.2.2.1).reverse, st.drop r.2.2.2.1) else none) else none) else none) else none
/-- where a thrown object is caught, and the local in which it is put -/
def xhnd (mi pc e : Nat) : Option (Nat × Nat) := (xhd.find? fun q => q.1 == mi && (Nat.ble q.2.1 pc && (Nat.blt pc q.2.2.1 && q.2.2.2.1 == e))).map fun q => q.2.2.2.2
def xr (sc : xSc) : Nat → Nat → Nat → Nat → xL → List Value → xH → Option (xO × xH)
  | 0, _, _, _, _, _, _ => none
  | n + 1, d, mi, pc, ls, st, h => match xrow mi pc with
    | none => none
    | some r => match xkd r with
      | 0 => match xs sc (xme mi).2.2.1 d h.2 r pc ls st h.1 with
        | none => none
        | some q => xr sc n d mi q.1 q.2.1 q.2.2.1 (q.2.2.2, h.2)
      | 1 => match xret (xme mi).2.2.2.1 r.1 st with
        | none => none
        | some v => some (.inl v, h)
      | 2 => match d with
        | 0 => none
        | d' + 1 => match xcall r st h.1 with
          | none => none
          | some q => match xr sc n d' r.2.2.1 0 (lv_args 0 q.1) [] h with
            | none => none
            | some (.inl v, h') => xr sc n (d' + 1) mi (pc + 3) ls (v.toList ++ q.2) h'
            | some (.inr e, h') => match xhnd mi pc e with
              | none => none
              | some t => xr sc n (d' + 1) mi t.1 (ls.filter fun z => !(z.1 == t.2)) [] h'
      | 4 => match d with
        | d' + 8 => xr sc n (d' + 8) mi (pc + 5) ls (.long r.2.2.2.2.2.2.1 :: st) h
        | _ => none
      | _ => match d with
        | _ + 8 => some (.inr (r.2.2.1 - 1000), (h.1, h.2 + 1))
        | _ => none
end
section
-- what is asked of a row of code, and that every row has it
def xTb : List Cond := lw_tbl.filter goodWord
def xhas (i : Nat) (w : Cond) : Bool := decide (lw_tbl[i]? = some w) && goodWord w
theorem xhas_in {i : Nat} {w : Cond} (h : xhas i w = true) : w ∈ xTb := by
  simp only [xhas, Bool.and_eq_true, decide_eq_true_eq] at h
  exact List.mem_filter.mpr ⟨List.mem_of_getElem? h.1, h.2⟩
def xby (mi : Nat) : ByteArray := (xme mi).2.1
def xcl (ci : Nat) : vw_C := xCl.getD ci ("", xT_0, 0)
def xfok (own : String) (i ci k p : Nat) : Bool := decide (ci < 8) && (decide (k < (xcl ci).2.2) && (xhas p (.fieldLink own i (xcl ci).1 ((xcl ci).2.1 k).2.1 ((xcl ci).2.1 k).2.2.1) && decide (((xcl ci).2.1 k).1 = (xcl ci).1)))
def xfin (y : MethodName) (ci k : Nat) : Bool := if ((xcl ci).2.1 k).2.2.2 then decide (y.name = "<init>") && decide ((xcl ci).1 = y.cls) else true
def xlink (own : String) (i : Nat) (y : MethodName) (p : Nat) (k : Int64) : Bool := if k = 0 then xhas p (.methodLink own i y) else decide (lw_tbl[p]? = some (.methodLinkNest own i y "TermReader"))
def xpar (y : MethodName) (n : Nat) : Bool := decide ((parseMethodDescriptor y.desc).map (fun d => d.parameters.length) = some n)
/-- the pairs of a switch: match values and where they lead -/
def xswp (pc : Nat) : List (Int × Int) → List (Int32 × Nat) → Bool
  | [], [] => true
  | q :: r, z :: t => decide (z.1.toInt = q.1) && (decide ((pc : Int) + q.2 = z.2) && xswp pc r t)
  | _, _ => false
def xswt (pc : Nat) (lo : Int) : List Int → List (Int32 × Nat) → Bool
  | [], [] => true
  | q :: r, z :: t => decide (z.1.toInt = lo) && (decide ((pc : Int) + q = z.2) && xswt pc (lo + 1) r t)
  | _, _ => false
def xlen : Instr → Nat
  | .iconst _ => 1 | .bipush _ => 2 | .sipush _ => 3 | .lconst _ => 1 | .ldc2_w _ => 3 | .ldc _ => 2
  | .iload _ => 2 | .iload_n _ => 1 | .lload _ => 2 | .lload_n _ => 1 | .aload _ => 2 | .aload_n _ => 1
  | .istore _ => 2 | .istore_n _ => 1 | .lstore _ => 2 | .lstore_n _ => 1 | .astore _ => 2 | .astore_n _ => 1
  | .iinc _ _ => 3 | .ifCond _ _ => 3 | .if_icmp _ _ => 3 | .goto _ => 3 | .getfield _ => 3 | .putfield _ => 3
  | .newarray _ => 2 | .new _ => 3 | .invokespecial _ => 3 | .invokestatic _ => 3 | .invokevirtual _ => 3
  | .tableswitch _ _ _ _ => 0 | .lookupswitch _ _ => 0
  | _ => 1
/-- only the law calls its own helpers -/
def xlim (mi : Nat) : Nat := if mi < 214 then 214 else 220
def xokI (mi pc : Nat) (r : xRow) : Bool := match r.1 with
  | .iconst n => decide (Int32.ofInt n = r.2.2.2.2.2.1)
  | .bipush n => decide ((Int8.ofInt n).toInt32 = r.2.2.2.2.2.1)
  | .sipush n => decide ((Int16.ofInt n).toInt32 = r.2.2.2.2.2.1)
  | .iinc _ n => decide (Int32.ofInt n = r.2.2.2.2.2.1)
  | .ldc2_w i => xhas r.2.2.2.2.1 (.constantLong (xme mi).1.cls i r.2.2.2.2.2.2.1)
  | .ifCond _ o => decide ((pc : Int) + o = (r.2.2.1 : Int))
  | .if_icmp _ o => decide ((pc : Int) + o = (r.2.2.1 : Int))
  | .goto o => decide ((pc : Int) + o = (r.2.2.1 : Int))
  | .tableswitch d lo hi offs => decide ((pc : Int) + d = (r.2.2.1 : Int)) && (decide (hi = lo + offs.size - 1) && xswt pc lo offs.toList r.2.2.2.2.2.2.2)
  | .lookupswitch d ps => decide ((pc : Int) + d = (r.2.2.1 : Int)) && ((ps.toList.zip (ps.toList.drop 1)).all (fun (a, next) => a.1 < next.1) && xswp pc ps.toList r.2.2.2.2.2.2.2)
  | .getfield i => xfok (xme mi).1.cls i r.2.2.1 r.2.2.2.1 r.2.2.2.2.1
  | .putfield i => xfok (xme mi).1.cls i r.2.2.1 r.2.2.2.1 r.2.2.2.2.1 && xfin (xme mi).1 r.2.2.1 r.2.2.2.1
  | .newarray t => xhas r.2.2.2.2.1 (.arrayClass (newarray.typeOf t))
  | .new i => if r.2.2.1 < 8 then xhas r.2.2.2.2.1 (.classLink (xme mi).1.cls i (xcl r.2.2.1).1) else true
  | .invokevirtual i => if r.2.2.1 < 1000 then (decide (r.2.2.1 < xlim mi) && (xlink (xme mi).1.cls i (xme r.2.2.1).1 r.2.2.2.2.1 r.2.2.2.2.2.2.1 && (decide (0 < r.2.2.2.1) && (xpar (xme r.2.2.1).1 (r.2.2.2.1 - 1) && (decide ((xme r.2.2.1).2.2.2.2.1 ≠ 99) && decide ((xme r.2.2.1).1.name ≠ "<init>")))))) else true
  | .invokespecial i => if r.2.2.1 < 1000 then (decide (r.2.2.1 < xlim mi) && (xhas r.2.2.2.2.1 (.methodLink (xme mi).1.cls i (xme r.2.2.1).1) && (decide (0 < r.2.2.2.1) && (xpar (xme r.2.2.1).1 (r.2.2.2.1 - 1) && (decide ((xme r.2.2.1).1.name = "<init>") && (decide ((xme r.2.2.1).2.2.2.1 = none) && decide ((xme r.2.2.1).2.2.2.2.1 ≠ 99))))))) else (if r.2.2.1 = 1000 then xhas r.2.2.2.2.1 (.methodLink (xme mi).1.cls i objectInit) else true)
  | .invokestatic i => if r.2.2.1 < 1000 then (decide (r.2.2.1 < xlim mi) && (xhas r.2.2.2.2.1 (.methodLink (xme mi).1.cls i (xme r.2.2.1).1) && (xpar (xme r.2.2.1).1 r.2.2.2.1 && decide ((xme r.2.2.1).2.2.2.2.1 = 99)))) else (if r.2.2.1 = 1001 then xhas r.2.2.2.2.1 (.methodLink (xme mi).1.cls i Lib.Math.max.name) else true)
  | _ => true
def xok (mi pc : Nat) (r : xRow) : Bool := decide (decode (xby mi) pc = .ok (r.1, r.2.1)) && ((xlen r.1 == 0 || xlen r.1 == r.2.1) && xokI mi pc r)
def xall (mi : Nat) : Bool := (List.range (xcs.getD mi []).length).all fun pc => match xrow mi pc with
  | none => true
  | some r => xok mi pc r
theorem xall_row {mi pc : Nat} {r : xRow} (h : xall mi = true) (hr : xrow mi pc = some r) : xok mi pc r = true := by
  have hlt : pc < (xcs.getD mi []).length := by
    rcases Nat.lt_or_ge pc (xcs.getD mi []).length with q | q
    · exact q
    · unfold xrow at hr
      rw [List.getD_eq_getElem?_getD, List.getElem?_eq_none q] at hr
      cases hr
  have h1 := List.all_eq_true.mp h pc (List.mem_range.mpr hlt)
  rw [hr] at h1
  exact h1
/-- what is asked of a method -/
def xokM (mi : Nat) : Bool :=
  (if mi < 214 then xhas (xme mi).2.2.2.2.2.1 (.code (xme mi).1 (xme mi).2.1 (xme mi).2.2.1 (xme mi).2.2.2.1) else true) &&
  ((if (xme mi).2.2.2.2.1 = 99 then (if mi < 220 then xhas (xme mi).2.2.2.2.2.2.1 (.static (xme mi).1) else true) else (xhas (xme mi).2.2.2.2.2.2.1 (.instanceMethod (xme mi).1) && (decide ((xme mi).1.cls = (xcl (xme mi).2.2.2.2.1).1) && (decide ((xme mi).2.2.2.2.1 < 8) &&
    (if (xme mi).1.name = "<init>" then true else xhas (xme mi).2.2.2.2.2.2.2.1 (.selects (xme mi).1.cls (xme mi).1 (xme mi).1)))))) &&
  (xhas (xme mi).2.2.2.2.2.2.2.2 (.initialized (xme mi).1.cls) && (decide ((xme mi).1.cls ≠ "java/lang/invoke/MethodHandle") && (decide ((xme mi).1.cls ≠ "java/lang/invoke/VarHandle") && (plainName (xme mi).1.cls && decide ((xme mi).2.2.1 ≤ 40))))))
end
section
set_option maxRecDepth 100000 in
theorem xa_0 : xall 0 = true := by decide +kernel
set_option maxRecDepth 100000 in
theorem xa_1 : xall 1 = true := by decide +kernel
set_option maxRecDepth 100000 in
theorem xa_2 : xall 2 = true := by decide +kernel
set_option maxRecDepth 100000 in
theorem xa_3 : xall 3 = true := by decide +kernel
set_option maxRecDepth 100000 in
theorem xa_4 : xall 4 = true := by decide +kernel
set_option maxRecDepth 100000 in
theorem xa_5 : xall 5 = true := by decide +kernel
set_option maxRecDepth 100000 in
theorem xa_6 : xall 6 = true := by decide +kernel
set_option maxRecDepth 100000 in
theorem xa_7 : xall 7 = true := by decide +kernel
set_option maxRecDepth 100000 in
theorem xa_8 : xall 8 = true := by decide +kernel
set_option maxRecDepth 100000 in
theorem xa_9 : xall 9 = true := by decide +kernel
set_option maxRecDepth 100000 in
theorem xa_10 : xall 10 = true := by decide +kernel
set_option maxRecDepth 100000 in
theorem xa_11 : xall 11 = true := by decide +kernel
set_option maxRecDepth 100000 in
theorem xa_12 : xall 12 = true := by decide +kernel
set_option maxRecDepth 100000 in
theorem xa_13 : xall 13 = true := by decide +kernel
set_option maxRecDepth 100000 in
theorem xa_14 : xall 14 = true := by decide +kernel
set_option maxRecDepth 100000 in
theorem xa_15 : xall 15 = true := by decide +kernel
set_option maxRecDepth 100000 in
theorem xa_16 : xall 16 = true := by decide +kernel
set_option maxRecDepth 100000 in
theorem xa_17 : xall 17 = true := by decide +kernel
set_option maxRecDepth 100000 in
theorem xa_18 : xall 18 = true := by decide +kernel
set_option maxRecDepth 100000 in
theorem xa_19 : xall 19 = true := by decide +kernel
set_option maxRecDepth 100000 in
theorem xa_20 : xall 20 = true := by decide +kernel
set_option maxRecDepth 100000 in
theorem xa_21 : xall 21 = true := by decide +kernel
set_option maxRecDepth 100000 in
theorem xa_22 : xall 22 = true := by decide +kernel
end
section
set_option maxRecDepth 100000 in
theorem xa_23 : xall 23 = true := by decide +kernel
set_option maxRecDepth 100000 in
theorem xa_24 : xall 24 = true := by decide +kernel
set_option maxRecDepth 100000 in
theorem xa_25 : xall 25 = true := by decide +kernel
set_option maxRecDepth 100000 in
theorem xa_26 : xall 26 = true := by decide +kernel
set_option maxRecDepth 100000 in
theorem xa_27 : xall 27 = true := by decide +kernel
set_option maxRecDepth 100000 in
theorem xa_28 : xall 28 = true := by decide +kernel
set_option maxRecDepth 100000 in
theorem xa_29 : xall 29 = true := by decide +kernel
set_option maxRecDepth 100000 in
theorem xa_30 : xall 30 = true := by decide +kernel
set_option maxRecDepth 100000 in
theorem xa_31 : xall 31 = true := by decide +kernel
set_option maxRecDepth 100000 in
theorem xa_32 : xall 32 = true := by decide +kernel
set_option maxRecDepth 100000 in
theorem xa_33 : xall 33 = true := by decide +kernel
set_option maxRecDepth 100000 in
theorem xa_34 : xall 34 = true := by decide +kernel
set_option maxRecDepth 100000 in
theorem xa_35 : xall 35 = true := by decide +kernel
set_option maxRecDepth 100000 in
theorem xa_36 : xall 36 = true := by decide +kernel
set_option maxRecDepth 100000 in
theorem xa_37 : xall 37 = true := by decide +kernel
set_option maxRecDepth 100000 in
theorem xa_38 : xall 38 = true := by decide +kernel
set_option maxRecDepth 100000 in
theorem xa_39 : xall 39 = true := by decide +kernel
set_option maxRecDepth 100000 in
theorem xa_40 : xall 40 = true := by decide +kernel
set_option maxRecDepth 100000 in
theorem xa_41 : xall 41 = true := by decide +kernel
set_option maxRecDepth 100000 in
theorem xa_42 : xall 42 = true := by decide +kernel
set_option maxRecDepth 100000 in
theorem xa_43 : xall 43 = true := by decide +kernel
set_option maxRecDepth 100000 in
theorem xa_44 : xall 44 = true := by decide +kernel
set_option maxRecDepth 100000 in
theorem xa_45 : xall 45 = true := by decide +kernel
set_option maxRecDepth 100000 in
theorem xa_46 : xall 46 = true := by decide +kernel
set_option maxRecDepth 100000 in
theorem xa_47 : xall 47 = true := by decide +kernel
set_option maxRecDepth 100000 in
theorem xa_48 : xall 48 = true := by decide +kernel
set_option maxRecDepth 100000 in
theorem xa_49 : xall 49 = true := by decide +kernel
end
section
set_option maxRecDepth 100000 in
theorem xa_50 : xall 50 = true := by decide +kernel
set_option maxRecDepth 100000 in
theorem xa_51 : xall 51 = true := by decide +kernel
set_option maxRecDepth 100000 in
theorem xa_52 : xall 52 = true := by decide +kernel
set_option maxRecDepth 100000 in
theorem xa_53 : xall 53 = true := by decide +kernel
set_option maxRecDepth 100000 in
theorem xa_54 : xall 54 = true := by decide +kernel
set_option maxRecDepth 100000 in
theorem xa_55 : xall 55 = true := by decide +kernel
set_option maxRecDepth 100000 in
theorem xa_56 : xall 56 = true := by decide +kernel
set_option maxRecDepth 100000 in
theorem xa_57 : xall 57 = true := by decide +kernel
set_option maxRecDepth 100000 in
theorem xa_58 : xall 58 = true := by decide +kernel
set_option maxRecDepth 100000 in
theorem xa_59 : xall 59 = true := by decide +kernel
set_option maxRecDepth 100000 in
theorem xa_60 : xall 60 = true := by decide +kernel
set_option maxRecDepth 100000 in
theorem xa_61 : xall 61 = true := by decide +kernel
set_option maxRecDepth 100000 in
theorem xa_62 : xall 62 = true := by decide +kernel
set_option maxRecDepth 100000 in
theorem xa_63 : xall 63 = true := by decide +kernel
set_option maxRecDepth 100000 in
theorem xa_64 : xall 64 = true := by decide +kernel
set_option maxRecDepth 100000 in
theorem xa_65 : xall 65 = true := by decide +kernel
set_option maxRecDepth 100000 in
theorem xa_66 : xall 66 = true := by decide +kernel
set_option maxRecDepth 100000 in
theorem xa_67 : xall 67 = true := by decide +kernel
set_option maxRecDepth 100000 in
theorem xa_68 : xall 68 = true := by decide +kernel
set_option maxRecDepth 100000 in
theorem xa_69 : xall 69 = true := by decide +kernel
set_option maxRecDepth 100000 in
theorem xa_70 : xall 70 = true := by decide +kernel
set_option maxRecDepth 100000 in
theorem xa_71 : xall 71 = true := by decide +kernel
set_option maxRecDepth 100000 in
theorem xa_72 : xall 72 = true := by decide +kernel
set_option maxRecDepth 100000 in
theorem xa_73 : xall 73 = true := by decide +kernel
set_option maxRecDepth 100000 in
theorem xa_74 : xall 74 = true := by decide +kernel
set_option maxRecDepth 100000 in
theorem xa_75 : xall 75 = true := by decide +kernel
set_option maxRecDepth 100000 in
theorem xa_76 : xall 76 = true := by decide +kernel
set_option maxRecDepth 100000 in
theorem xa_77 : xall 77 = true := by decide +kernel
set_option maxRecDepth 100000 in
theorem xa_78 : xall 78 = true := by decide +kernel
set_option maxRecDepth 100000 in
theorem xa_79 : xall 79 = true := by decide +kernel
end
section
set_option maxRecDepth 100000 in
theorem xa_80 : xall 80 = true := by decide +kernel
set_option maxRecDepth 100000 in
theorem xa_81 : xall 81 = true := by decide +kernel
set_option maxRecDepth 100000 in
theorem xa_82 : xall 82 = true := by decide +kernel
set_option maxRecDepth 100000 in
theorem xa_83 : xall 83 = true := by decide +kernel
set_option maxRecDepth 100000 in
theorem xa_84 : xall 84 = true := by decide +kernel
set_option maxRecDepth 100000 in
theorem xa_85 : xall 85 = true := by decide +kernel
set_option maxRecDepth 100000 in
theorem xa_86 : xall 86 = true := by decide +kernel
set_option maxRecDepth 100000 in
theorem xa_87 : xall 87 = true := by decide +kernel
set_option maxRecDepth 100000 in
theorem xa_88 : xall 88 = true := by decide +kernel
set_option maxRecDepth 100000 in
theorem xa_89 : xall 89 = true := by decide +kernel
set_option maxRecDepth 100000 in
theorem xa_90 : xall 90 = true := by decide +kernel
set_option maxRecDepth 100000 in
theorem xa_91 : xall 91 = true := by decide +kernel
set_option maxRecDepth 100000 in
theorem xa_92 : xall 92 = true := by decide +kernel
set_option maxRecDepth 100000 in
theorem xa_93 : xall 93 = true := by decide +kernel
set_option maxRecDepth 100000 in
theorem xa_94 : xall 94 = true := by decide +kernel
set_option maxRecDepth 100000 in
theorem xa_95 : xall 95 = true := by decide +kernel
set_option maxRecDepth 100000 in
theorem xa_96 : xall 96 = true := by decide +kernel
set_option maxRecDepth 100000 in
theorem xa_97 : xall 97 = true := by decide +kernel
set_option maxRecDepth 100000 in
theorem xa_98 : xall 98 = true := by decide +kernel
set_option maxRecDepth 100000 in
theorem xa_99 : xall 99 = true := by decide +kernel
set_option maxRecDepth 100000 in
theorem xa_100 : xall 100 = true := by decide +kernel
set_option maxRecDepth 100000 in
theorem xa_101 : xall 101 = true := by decide +kernel
end
section
set_option maxRecDepth 100000 in
theorem xa_102 : xall 102 = true := by decide +kernel
set_option maxRecDepth 100000 in
theorem xa_103 : xall 103 = true := by decide +kernel
set_option maxRecDepth 100000 in
theorem xa_104 : xall 104 = true := by decide +kernel
set_option maxRecDepth 100000 in
theorem xa_105 : xall 105 = true := by decide +kernel
set_option maxRecDepth 100000 in
theorem xa_106 : xall 106 = true := by decide +kernel
set_option maxRecDepth 100000 in
theorem xa_107 : xall 107 = true := by decide +kernel
set_option maxRecDepth 100000 in
theorem xa_108 : xall 108 = true := by decide +kernel
set_option maxRecDepth 100000 in
theorem xa_109 : xall 109 = true := by decide +kernel
set_option maxRecDepth 100000 in
theorem xa_110 : xall 110 = true := by decide +kernel
set_option maxRecDepth 100000 in
theorem xa_111 : xall 111 = true := by decide +kernel
set_option maxRecDepth 100000 in
theorem xa_112 : xall 112 = true := by decide +kernel
set_option maxRecDepth 100000 in
theorem xa_113 : xall 113 = true := by decide +kernel
set_option maxRecDepth 100000 in
theorem xa_114 : xall 114 = true := by decide +kernel
set_option maxRecDepth 100000 in
theorem xa_115 : xall 115 = true := by decide +kernel
set_option maxRecDepth 100000 in
theorem xa_116 : xall 116 = true := by decide +kernel
set_option maxRecDepth 100000 in
theorem xa_117 : xall 117 = true := by decide +kernel
set_option maxRecDepth 100000 in
theorem xa_118 : xall 118 = true := by decide +kernel
set_option maxRecDepth 100000 in
theorem xa_119 : xall 119 = true := by decide +kernel
end
section
set_option maxRecDepth 100000 in
theorem xa_120 : xall 120 = true := by decide +kernel
set_option maxRecDepth 100000 in
theorem xa_121 : xall 121 = true := by decide +kernel
set_option maxRecDepth 100000 in
theorem xa_122 : xall 122 = true := by decide +kernel
set_option maxRecDepth 100000 in
theorem xa_123 : xall 123 = true := by decide +kernel
set_option maxRecDepth 100000 in
theorem xa_124 : xall 124 = true := by decide +kernel
set_option maxRecDepth 100000 in
theorem xa_125 : xall 125 = true := by decide +kernel
set_option maxRecDepth 100000 in
theorem xa_126 : xall 126 = true := by decide +kernel
set_option maxRecDepth 100000 in
theorem xa_127 : xall 127 = true := by decide +kernel
set_option maxRecDepth 100000 in
theorem xa_128 : xall 128 = true := by decide +kernel
set_option maxRecDepth 100000 in
theorem xa_129 : xall 129 = true := by decide +kernel
set_option maxRecDepth 100000 in
theorem xa_130 : xall 130 = true := by decide +kernel
set_option maxRecDepth 100000 in
theorem xa_131 : xall 131 = true := by decide +kernel
set_option maxRecDepth 100000 in
theorem xa_132 : xall 132 = true := by decide +kernel
set_option maxRecDepth 100000 in
theorem xa_133 : xall 133 = true := by decide +kernel
set_option maxRecDepth 100000 in
theorem xa_134 : xall 134 = true := by decide +kernel
set_option maxRecDepth 100000 in
theorem xa_135 : xall 135 = true := by decide +kernel
end
section
set_option maxRecDepth 100000 in
theorem xa_136 : xall 136 = true := by decide +kernel
set_option maxRecDepth 100000 in
theorem xa_137 : xall 137 = true := by decide +kernel
set_option maxRecDepth 100000 in
theorem xa_138 : xall 138 = true := by decide +kernel
set_option maxRecDepth 100000 in
theorem xa_139 : xall 139 = true := by decide +kernel
set_option maxRecDepth 100000 in
theorem xa_140 : xall 140 = true := by decide +kernel
set_option maxRecDepth 100000 in
theorem xa_141 : xall 141 = true := by decide +kernel
set_option maxRecDepth 100000 in
theorem xa_142 : xall 142 = true := by decide +kernel
set_option maxRecDepth 100000 in
theorem xa_143 : xall 143 = true := by decide +kernel
set_option maxRecDepth 100000 in
theorem xa_144 : xall 144 = true := by decide +kernel
set_option maxRecDepth 100000 in
theorem xa_145 : xall 145 = true := by decide +kernel
set_option maxRecDepth 100000 in
theorem xa_146 : xall 146 = true := by decide +kernel
set_option maxRecDepth 100000 in
theorem xa_147 : xall 147 = true := by decide +kernel
set_option maxRecDepth 100000 in
theorem xa_148 : xall 148 = true := by decide +kernel
set_option maxRecDepth 100000 in
theorem xa_149 : xall 149 = true := by decide +kernel
set_option maxRecDepth 100000 in
theorem xa_150 : xall 150 = true := by decide +kernel
set_option maxRecDepth 100000 in
theorem xa_151 : xall 151 = true := by decide +kernel
set_option maxRecDepth 100000 in
theorem xa_152 : xall 152 = true := by decide +kernel
set_option maxRecDepth 100000 in
theorem xa_153 : xall 153 = true := by decide +kernel
set_option maxRecDepth 100000 in
theorem xa_154 : xall 154 = true := by decide +kernel
set_option maxRecDepth 100000 in
theorem xa_155 : xall 155 = true := by decide +kernel
set_option maxRecDepth 100000 in
theorem xa_156 : xall 156 = true := by decide +kernel
end
section
set_option maxRecDepth 100000 in
theorem xa_157 : xall 157 = true := by decide +kernel
set_option maxRecDepth 100000 in
theorem xa_158 : xall 158 = true := by decide +kernel
set_option maxRecDepth 100000 in
theorem xa_159 : xall 159 = true := by decide +kernel
set_option maxRecDepth 100000 in
theorem xa_160 : xall 160 = true := by decide +kernel
set_option maxRecDepth 100000 in
theorem xa_161 : xall 161 = true := by decide +kernel
set_option maxRecDepth 100000 in
theorem xa_162 : xall 162 = true := by decide +kernel
set_option maxRecDepth 100000 in
theorem xa_163 : xall 163 = true := by decide +kernel
set_option maxRecDepth 100000 in
theorem xa_164 : xall 164 = true := by decide +kernel
set_option maxRecDepth 100000 in
theorem xa_165 : xall 165 = true := by decide +kernel
end
section
set_option maxRecDepth 100000 in
theorem xa_166 : xall 166 = true := by decide +kernel
set_option maxRecDepth 100000 in
theorem xa_167 : xall 167 = true := by decide +kernel
set_option maxRecDepth 100000 in
theorem xa_168 : xall 168 = true := by decide +kernel
set_option maxRecDepth 100000 in
theorem xa_169 : xall 169 = true := by decide +kernel
set_option maxRecDepth 100000 in
theorem xa_170 : xall 170 = true := by decide +kernel
set_option maxRecDepth 100000 in
theorem xa_171 : xall 171 = true := by decide +kernel
set_option maxRecDepth 100000 in
theorem xa_172 : xall 172 = true := by decide +kernel
set_option maxRecDepth 100000 in
theorem xa_173 : xall 173 = true := by decide +kernel
set_option maxRecDepth 100000 in
theorem xa_174 : xall 174 = true := by decide +kernel
set_option maxRecDepth 100000 in
theorem xa_175 : xall 175 = true := by decide +kernel
end
section
set_option maxRecDepth 100000 in
theorem xa_176 : xall 176 = true := by decide +kernel
set_option maxRecDepth 100000 in
theorem xa_177 : xall 177 = true := by decide +kernel
set_option maxRecDepth 100000 in
theorem xa_178 : xall 178 = true := by decide +kernel
set_option maxRecDepth 100000 in
theorem xa_179 : xall 179 = true := by decide +kernel
set_option maxRecDepth 100000 in
theorem xa_180 : xall 180 = true := by decide +kernel
set_option maxRecDepth 100000 in
theorem xa_181 : xall 181 = true := by decide +kernel
set_option maxRecDepth 100000 in
theorem xa_182 : xall 182 = true := by decide +kernel
set_option maxRecDepth 100000 in
theorem xa_183 : xall 183 = true := by decide +kernel
set_option maxRecDepth 100000 in
theorem xa_184 : xall 184 = true := by decide +kernel
set_option maxRecDepth 100000 in
theorem xa_185 : xall 185 = true := by decide +kernel
set_option maxRecDepth 100000 in
theorem xa_186 : xall 186 = true := by decide +kernel
end
section
set_option maxRecDepth 100000 in
theorem xa_187 : xall 187 = true := by decide +kernel
set_option maxRecDepth 100000 in
theorem xa_188 : xall 188 = true := by decide +kernel
set_option maxRecDepth 100000 in
theorem xa_189 : xall 189 = true := by decide +kernel
set_option maxRecDepth 100000 in
theorem xa_190 : xall 190 = true := by decide +kernel
set_option maxRecDepth 100000 in
theorem xa_191 : xall 191 = true := by decide +kernel
set_option maxRecDepth 100000 in
theorem xa_192 : xall 192 = true := by decide +kernel
set_option maxRecDepth 100000 in
theorem xa_193 : xall 193 = true := by decide +kernel
set_option maxRecDepth 100000 in
theorem xa_194 : xall 194 = true := by decide +kernel
set_option maxRecDepth 100000 in
theorem xa_195 : xall 195 = true := by decide +kernel
set_option maxRecDepth 100000 in
theorem xa_196 : xall 196 = true := by decide +kernel
end
section
set_option maxRecDepth 100000 in
theorem xa_197 : xall 197 = true := by decide +kernel
set_option maxRecDepth 100000 in
theorem xa_198 : xall 198 = true := by decide +kernel
set_option maxRecDepth 100000 in
theorem xa_199 : xall 199 = true := by decide +kernel
set_option maxRecDepth 100000 in
theorem xa_200 : xall 200 = true := by decide +kernel
set_option maxRecDepth 100000 in
theorem xa_201 : xall 201 = true := by decide +kernel
set_option maxRecDepth 100000 in
theorem xa_202 : xall 202 = true := by decide +kernel
set_option maxRecDepth 100000 in
theorem xa_203 : xall 203 = true := by decide +kernel
set_option maxRecDepth 100000 in
theorem xa_204 : xall 204 = true := by decide +kernel
set_option maxRecDepth 100000 in
theorem xa_205 : xall 205 = true := by decide +kernel
set_option maxRecDepth 100000 in
theorem xa_206 : xall 206 = true := by decide +kernel
set_option maxRecDepth 100000 in
theorem xa_207 : xall 207 = true := by decide +kernel
set_option maxRecDepth 100000 in
theorem xa_208 : xall 208 = true := by decide +kernel
set_option maxRecDepth 100000 in
theorem xa_209 : xall 209 = true := by decide +kernel
set_option maxRecDepth 100000 in
theorem xa_210 : xall 210 = true := by decide +kernel
set_option maxRecDepth 100000 in
theorem xa_211 : xall 211 = true := by decide +kernel
set_option maxRecDepth 100000 in
theorem xa_212 : xall 212 = true := by decide +kernel
set_option maxRecDepth 100000 in
theorem xa_213 : xall 213 = true := by decide +kernel
set_option maxRecDepth 100000 in
theorem xa_214 : xall 214 = true := by decide +kernel
set_option maxRecDepth 100000 in
theorem xa_215 : xall 215 = true := by decide +kernel
set_option maxRecDepth 100000 in
theorem xa_216 : xall 216 = true := by decide +kernel
set_option maxRecDepth 100000 in
theorem xa_217 : xall 217 = true := by decide +kernel
set_option maxRecDepth 100000 in
theorem xa_218 : xall 218 = true := by decide +kernel
set_option maxRecDepth 100000 in
theorem xa_219 : xall 219 = true := by decide +kernel
set_option maxRecDepth 100000 in
theorem xa_220 : xall 220 = true := by decide +kernel
end
section
set_option maxRecDepth 100000 in
theorem xn_0 : xokM 0 = true := by decide +kernel
set_option maxRecDepth 100000 in
theorem xn_1 : xokM 1 = true := by decide +kernel
set_option maxRecDepth 100000 in
theorem xn_2 : xokM 2 = true := by decide +kernel
set_option maxRecDepth 100000 in
theorem xn_3 : xokM 3 = true := by decide +kernel
set_option maxRecDepth 100000 in
theorem xn_4 : xokM 4 = true := by decide +kernel
set_option maxRecDepth 100000 in
theorem xn_5 : xokM 5 = true := by decide +kernel
set_option maxRecDepth 100000 in
theorem xn_6 : xokM 6 = true := by decide +kernel
set_option maxRecDepth 100000 in
theorem xn_7 : xokM 7 = true := by decide +kernel
set_option maxRecDepth 100000 in
theorem xn_8 : xokM 8 = true := by decide +kernel
set_option maxRecDepth 100000 in
theorem xn_9 : xokM 9 = true := by decide +kernel
set_option maxRecDepth 100000 in
theorem xn_10 : xokM 10 = true := by decide +kernel
set_option maxRecDepth 100000 in
theorem xn_11 : xokM 11 = true := by decide +kernel
set_option maxRecDepth 100000 in
theorem xn_12 : xokM 12 = true := by decide +kernel
set_option maxRecDepth 100000 in
theorem xn_13 : xokM 13 = true := by decide +kernel
set_option maxRecDepth 100000 in
theorem xn_14 : xokM 14 = true := by decide +kernel
set_option maxRecDepth 100000 in
theorem xn_15 : xokM 15 = true := by decide +kernel
set_option maxRecDepth 100000 in
theorem xn_16 : xokM 16 = true := by decide +kernel
set_option maxRecDepth 100000 in
theorem xn_17 : xokM 17 = true := by decide +kernel
set_option maxRecDepth 100000 in
theorem xn_18 : xokM 18 = true := by decide +kernel
set_option maxRecDepth 100000 in
theorem xn_19 : xokM 19 = true := by decide +kernel
set_option maxRecDepth 100000 in
theorem xn_20 : xokM 20 = true := by decide +kernel
set_option maxRecDepth 100000 in
theorem xn_21 : xokM 21 = true := by decide +kernel
set_option maxRecDepth 100000 in
theorem xn_22 : xokM 22 = true := by decide +kernel
set_option maxRecDepth 100000 in
theorem xn_23 : xokM 23 = true := by decide +kernel
set_option maxRecDepth 100000 in
theorem xn_24 : xokM 24 = true := by decide +kernel
set_option maxRecDepth 100000 in
theorem xn_25 : xokM 25 = true := by decide +kernel
set_option maxRecDepth 100000 in
theorem xn_26 : xokM 26 = true := by decide +kernel
set_option maxRecDepth 100000 in
theorem xn_27 : xokM 27 = true := by decide +kernel
set_option maxRecDepth 100000 in
theorem xn_28 : xokM 28 = true := by decide +kernel
set_option maxRecDepth 100000 in
theorem xn_29 : xokM 29 = true := by decide +kernel
set_option maxRecDepth 100000 in
theorem xn_30 : xokM 30 = true := by decide +kernel
set_option maxRecDepth 100000 in
theorem xn_31 : xokM 31 = true := by decide +kernel
set_option maxRecDepth 100000 in
theorem xn_32 : xokM 32 = true := by decide +kernel
set_option maxRecDepth 100000 in
theorem xn_33 : xokM 33 = true := by decide +kernel
set_option maxRecDepth 100000 in
theorem xn_34 : xokM 34 = true := by decide +kernel
set_option maxRecDepth 100000 in
theorem xn_35 : xokM 35 = true := by decide +kernel
set_option maxRecDepth 100000 in
theorem xn_36 : xokM 36 = true := by decide +kernel
set_option maxRecDepth 100000 in
theorem xn_37 : xokM 37 = true := by decide +kernel
set_option maxRecDepth 100000 in
theorem xn_38 : xokM 38 = true := by decide +kernel
set_option maxRecDepth 100000 in
theorem xn_39 : xokM 39 = true := by decide +kernel
set_option maxRecDepth 100000 in
theorem xn_40 : xokM 40 = true := by decide +kernel
set_option maxRecDepth 100000 in
theorem xn_41 : xokM 41 = true := by decide +kernel
set_option maxRecDepth 100000 in
theorem xn_42 : xokM 42 = true := by decide +kernel
set_option maxRecDepth 100000 in
theorem xn_43 : xokM 43 = true := by decide +kernel
set_option maxRecDepth 100000 in
theorem xn_44 : xokM 44 = true := by decide +kernel
set_option maxRecDepth 100000 in
theorem xn_45 : xokM 45 = true := by decide +kernel
set_option maxRecDepth 100000 in
theorem xn_46 : xokM 46 = true := by decide +kernel
set_option maxRecDepth 100000 in
theorem xn_47 : xokM 47 = true := by decide +kernel
set_option maxRecDepth 100000 in
theorem xn_48 : xokM 48 = true := by decide +kernel
set_option maxRecDepth 100000 in
theorem xn_49 : xokM 49 = true := by decide +kernel
set_option maxRecDepth 100000 in
theorem xn_50 : xokM 50 = true := by decide +kernel
set_option maxRecDepth 100000 in
theorem xn_51 : xokM 51 = true := by decide +kernel
set_option maxRecDepth 100000 in
theorem xn_52 : xokM 52 = true := by decide +kernel
set_option maxRecDepth 100000 in
theorem xn_53 : xokM 53 = true := by decide +kernel
set_option maxRecDepth 100000 in
theorem xn_54 : xokM 54 = true := by decide +kernel
set_option maxRecDepth 100000 in
theorem xn_55 : xokM 55 = true := by decide +kernel
end
section
set_option maxRecDepth 100000 in
theorem xn_56 : xokM 56 = true := by decide +kernel
set_option maxRecDepth 100000 in
theorem xn_57 : xokM 57 = true := by decide +kernel
set_option maxRecDepth 100000 in
theorem xn_58 : xokM 58 = true := by decide +kernel
set_option maxRecDepth 100000 in
theorem xn_59 : xokM 59 = true := by decide +kernel
set_option maxRecDepth 100000 in
theorem xn_60 : xokM 60 = true := by decide +kernel
set_option maxRecDepth 100000 in
theorem xn_61 : xokM 61 = true := by decide +kernel
set_option maxRecDepth 100000 in
theorem xn_62 : xokM 62 = true := by decide +kernel
set_option maxRecDepth 100000 in
theorem xn_63 : xokM 63 = true := by decide +kernel
set_option maxRecDepth 100000 in
theorem xn_64 : xokM 64 = true := by decide +kernel
set_option maxRecDepth 100000 in
theorem xn_65 : xokM 65 = true := by decide +kernel
set_option maxRecDepth 100000 in
theorem xn_66 : xokM 66 = true := by decide +kernel
set_option maxRecDepth 100000 in
theorem xn_67 : xokM 67 = true := by decide +kernel
set_option maxRecDepth 100000 in
theorem xn_68 : xokM 68 = true := by decide +kernel
set_option maxRecDepth 100000 in
theorem xn_69 : xokM 69 = true := by decide +kernel
set_option maxRecDepth 100000 in
theorem xn_70 : xokM 70 = true := by decide +kernel
set_option maxRecDepth 100000 in
theorem xn_71 : xokM 71 = true := by decide +kernel
set_option maxRecDepth 100000 in
theorem xn_72 : xokM 72 = true := by decide +kernel
set_option maxRecDepth 100000 in
theorem xn_73 : xokM 73 = true := by decide +kernel
set_option maxRecDepth 100000 in
theorem xn_74 : xokM 74 = true := by decide +kernel
set_option maxRecDepth 100000 in
theorem xn_75 : xokM 75 = true := by decide +kernel
set_option maxRecDepth 100000 in
theorem xn_76 : xokM 76 = true := by decide +kernel
set_option maxRecDepth 100000 in
theorem xn_77 : xokM 77 = true := by decide +kernel
set_option maxRecDepth 100000 in
theorem xn_78 : xokM 78 = true := by decide +kernel
set_option maxRecDepth 100000 in
theorem xn_79 : xokM 79 = true := by decide +kernel
set_option maxRecDepth 100000 in
theorem xn_80 : xokM 80 = true := by decide +kernel
set_option maxRecDepth 100000 in
theorem xn_81 : xokM 81 = true := by decide +kernel
set_option maxRecDepth 100000 in
theorem xn_82 : xokM 82 = true := by decide +kernel
set_option maxRecDepth 100000 in
theorem xn_83 : xokM 83 = true := by decide +kernel
set_option maxRecDepth 100000 in
theorem xn_84 : xokM 84 = true := by decide +kernel
set_option maxRecDepth 100000 in
theorem xn_85 : xokM 85 = true := by decide +kernel
set_option maxRecDepth 100000 in
theorem xn_86 : xokM 86 = true := by decide +kernel
set_option maxRecDepth 100000 in
theorem xn_87 : xokM 87 = true := by decide +kernel
set_option maxRecDepth 100000 in
theorem xn_88 : xokM 88 = true := by decide +kernel
set_option maxRecDepth 100000 in
theorem xn_89 : xokM 89 = true := by decide +kernel
set_option maxRecDepth 100000 in
theorem xn_90 : xokM 90 = true := by decide +kernel
set_option maxRecDepth 100000 in
theorem xn_91 : xokM 91 = true := by decide +kernel
set_option maxRecDepth 100000 in
theorem xn_92 : xokM 92 = true := by decide +kernel
set_option maxRecDepth 100000 in
theorem xn_93 : xokM 93 = true := by decide +kernel
set_option maxRecDepth 100000 in
theorem xn_94 : xokM 94 = true := by decide +kernel
set_option maxRecDepth 100000 in
theorem xn_95 : xokM 95 = true := by decide +kernel
set_option maxRecDepth 100000 in
theorem xn_96 : xokM 96 = true := by decide +kernel
set_option maxRecDepth 100000 in
theorem xn_97 : xokM 97 = true := by decide +kernel
set_option maxRecDepth 100000 in
theorem xn_98 : xokM 98 = true := by decide +kernel
set_option maxRecDepth 100000 in
theorem xn_99 : xokM 99 = true := by decide +kernel
set_option maxRecDepth 100000 in
theorem xn_100 : xokM 100 = true := by decide +kernel
set_option maxRecDepth 100000 in
theorem xn_101 : xokM 101 = true := by decide +kernel
set_option maxRecDepth 100000 in
theorem xn_102 : xokM 102 = true := by decide +kernel
set_option maxRecDepth 100000 in
theorem xn_103 : xokM 103 = true := by decide +kernel
set_option maxRecDepth 100000 in
theorem xn_104 : xokM 104 = true := by decide +kernel
set_option maxRecDepth 100000 in
theorem xn_105 : xokM 105 = true := by decide +kernel
set_option maxRecDepth 100000 in
theorem xn_106 : xokM 106 = true := by decide +kernel
set_option maxRecDepth 100000 in
theorem xn_107 : xokM 107 = true := by decide +kernel
set_option maxRecDepth 100000 in
theorem xn_108 : xokM 108 = true := by decide +kernel
set_option maxRecDepth 100000 in
theorem xn_109 : xokM 109 = true := by decide +kernel
set_option maxRecDepth 100000 in
theorem xn_110 : xokM 110 = true := by decide +kernel
set_option maxRecDepth 100000 in
theorem xn_111 : xokM 111 = true := by decide +kernel
end
section
set_option maxRecDepth 100000 in
theorem xn_112 : xokM 112 = true := by decide +kernel
set_option maxRecDepth 100000 in
theorem xn_113 : xokM 113 = true := by decide +kernel
set_option maxRecDepth 100000 in
theorem xn_114 : xokM 114 = true := by decide +kernel
set_option maxRecDepth 100000 in
theorem xn_115 : xokM 115 = true := by decide +kernel
set_option maxRecDepth 100000 in
theorem xn_116 : xokM 116 = true := by decide +kernel
set_option maxRecDepth 100000 in
theorem xn_117 : xokM 117 = true := by decide +kernel
set_option maxRecDepth 100000 in
theorem xn_118 : xokM 118 = true := by decide +kernel
set_option maxRecDepth 100000 in
theorem xn_119 : xokM 119 = true := by decide +kernel
set_option maxRecDepth 100000 in
theorem xn_120 : xokM 120 = true := by decide +kernel
set_option maxRecDepth 100000 in
theorem xn_121 : xokM 121 = true := by decide +kernel
set_option maxRecDepth 100000 in
theorem xn_122 : xokM 122 = true := by decide +kernel
set_option maxRecDepth 100000 in
theorem xn_123 : xokM 123 = true := by decide +kernel
set_option maxRecDepth 100000 in
theorem xn_124 : xokM 124 = true := by decide +kernel
set_option maxRecDepth 100000 in
theorem xn_125 : xokM 125 = true := by decide +kernel
set_option maxRecDepth 100000 in
theorem xn_126 : xokM 126 = true := by decide +kernel
set_option maxRecDepth 100000 in
theorem xn_127 : xokM 127 = true := by decide +kernel
set_option maxRecDepth 100000 in
theorem xn_128 : xokM 128 = true := by decide +kernel
set_option maxRecDepth 100000 in
theorem xn_129 : xokM 129 = true := by decide +kernel
set_option maxRecDepth 100000 in
theorem xn_130 : xokM 130 = true := by decide +kernel
set_option maxRecDepth 100000 in
theorem xn_131 : xokM 131 = true := by decide +kernel
set_option maxRecDepth 100000 in
theorem xn_132 : xokM 132 = true := by decide +kernel
set_option maxRecDepth 100000 in
theorem xn_133 : xokM 133 = true := by decide +kernel
set_option maxRecDepth 100000 in
theorem xn_134 : xokM 134 = true := by decide +kernel
set_option maxRecDepth 100000 in
theorem xn_135 : xokM 135 = true := by decide +kernel
set_option maxRecDepth 100000 in
theorem xn_136 : xokM 136 = true := by decide +kernel
set_option maxRecDepth 100000 in
theorem xn_137 : xokM 137 = true := by decide +kernel
set_option maxRecDepth 100000 in
theorem xn_138 : xokM 138 = true := by decide +kernel
set_option maxRecDepth 100000 in
theorem xn_139 : xokM 139 = true := by decide +kernel
set_option maxRecDepth 100000 in
theorem xn_140 : xokM 140 = true := by decide +kernel
set_option maxRecDepth 100000 in
theorem xn_141 : xokM 141 = true := by decide +kernel
set_option maxRecDepth 100000 in
theorem xn_142 : xokM 142 = true := by decide +kernel
set_option maxRecDepth 100000 in
theorem xn_143 : xokM 143 = true := by decide +kernel
set_option maxRecDepth 100000 in
theorem xn_144 : xokM 144 = true := by decide +kernel
set_option maxRecDepth 100000 in
theorem xn_145 : xokM 145 = true := by decide +kernel
set_option maxRecDepth 100000 in
theorem xn_146 : xokM 146 = true := by decide +kernel
set_option maxRecDepth 100000 in
theorem xn_147 : xokM 147 = true := by decide +kernel
set_option maxRecDepth 100000 in
theorem xn_148 : xokM 148 = true := by decide +kernel
set_option maxRecDepth 100000 in
theorem xn_149 : xokM 149 = true := by decide +kernel
set_option maxRecDepth 100000 in
theorem xn_150 : xokM 150 = true := by decide +kernel
set_option maxRecDepth 100000 in
theorem xn_151 : xokM 151 = true := by decide +kernel
set_option maxRecDepth 100000 in
theorem xn_152 : xokM 152 = true := by decide +kernel
set_option maxRecDepth 100000 in
theorem xn_153 : xokM 153 = true := by decide +kernel
set_option maxRecDepth 100000 in
theorem xn_154 : xokM 154 = true := by decide +kernel
set_option maxRecDepth 100000 in
theorem xn_155 : xokM 155 = true := by decide +kernel
set_option maxRecDepth 100000 in
theorem xn_156 : xokM 156 = true := by decide +kernel
set_option maxRecDepth 100000 in
theorem xn_157 : xokM 157 = true := by decide +kernel
set_option maxRecDepth 100000 in
theorem xn_158 : xokM 158 = true := by decide +kernel
set_option maxRecDepth 100000 in
theorem xn_159 : xokM 159 = true := by decide +kernel
set_option maxRecDepth 100000 in
theorem xn_160 : xokM 160 = true := by decide +kernel
set_option maxRecDepth 100000 in
theorem xn_161 : xokM 161 = true := by decide +kernel
set_option maxRecDepth 100000 in
theorem xn_162 : xokM 162 = true := by decide +kernel
set_option maxRecDepth 100000 in
theorem xn_163 : xokM 163 = true := by decide +kernel
set_option maxRecDepth 100000 in
theorem xn_164 : xokM 164 = true := by decide +kernel
set_option maxRecDepth 100000 in
theorem xn_165 : xokM 165 = true := by decide +kernel
set_option maxRecDepth 100000 in
theorem xn_166 : xokM 166 = true := by decide +kernel
set_option maxRecDepth 100000 in
theorem xn_167 : xokM 167 = true := by decide +kernel
end
section
set_option maxRecDepth 100000 in
theorem xn_168 : xokM 168 = true := by decide +kernel
set_option maxRecDepth 100000 in
theorem xn_169 : xokM 169 = true := by decide +kernel
set_option maxRecDepth 100000 in
theorem xn_170 : xokM 170 = true := by decide +kernel
set_option maxRecDepth 100000 in
theorem xn_171 : xokM 171 = true := by decide +kernel
set_option maxRecDepth 100000 in
theorem xn_172 : xokM 172 = true := by decide +kernel
set_option maxRecDepth 100000 in
theorem xn_173 : xokM 173 = true := by decide +kernel
set_option maxRecDepth 100000 in
theorem xn_174 : xokM 174 = true := by decide +kernel
set_option maxRecDepth 100000 in
theorem xn_175 : xokM 175 = true := by decide +kernel
set_option maxRecDepth 100000 in
theorem xn_176 : xokM 176 = true := by decide +kernel
set_option maxRecDepth 100000 in
theorem xn_177 : xokM 177 = true := by decide +kernel
set_option maxRecDepth 100000 in
theorem xn_178 : xokM 178 = true := by decide +kernel
set_option maxRecDepth 100000 in
theorem xn_179 : xokM 179 = true := by decide +kernel
set_option maxRecDepth 100000 in
theorem xn_180 : xokM 180 = true := by decide +kernel
set_option maxRecDepth 100000 in
theorem xn_181 : xokM 181 = true := by decide +kernel
set_option maxRecDepth 100000 in
theorem xn_182 : xokM 182 = true := by decide +kernel
set_option maxRecDepth 100000 in
theorem xn_183 : xokM 183 = true := by decide +kernel
set_option maxRecDepth 100000 in
theorem xn_184 : xokM 184 = true := by decide +kernel
set_option maxRecDepth 100000 in
theorem xn_185 : xokM 185 = true := by decide +kernel
set_option maxRecDepth 100000 in
theorem xn_186 : xokM 186 = true := by decide +kernel
set_option maxRecDepth 100000 in
theorem xn_187 : xokM 187 = true := by decide +kernel
set_option maxRecDepth 100000 in
theorem xn_188 : xokM 188 = true := by decide +kernel
set_option maxRecDepth 100000 in
theorem xn_189 : xokM 189 = true := by decide +kernel
set_option maxRecDepth 100000 in
theorem xn_190 : xokM 190 = true := by decide +kernel
set_option maxRecDepth 100000 in
theorem xn_191 : xokM 191 = true := by decide +kernel
set_option maxRecDepth 100000 in
theorem xn_192 : xokM 192 = true := by decide +kernel
set_option maxRecDepth 100000 in
theorem xn_193 : xokM 193 = true := by decide +kernel
set_option maxRecDepth 100000 in
theorem xn_194 : xokM 194 = true := by decide +kernel
set_option maxRecDepth 100000 in
theorem xn_195 : xokM 195 = true := by decide +kernel
set_option maxRecDepth 100000 in
theorem xn_196 : xokM 196 = true := by decide +kernel
set_option maxRecDepth 100000 in
theorem xn_197 : xokM 197 = true := by decide +kernel
set_option maxRecDepth 100000 in
theorem xn_198 : xokM 198 = true := by decide +kernel
set_option maxRecDepth 100000 in
theorem xn_199 : xokM 199 = true := by decide +kernel
set_option maxRecDepth 100000 in
theorem xn_200 : xokM 200 = true := by decide +kernel
set_option maxRecDepth 100000 in
theorem xn_201 : xokM 201 = true := by decide +kernel
set_option maxRecDepth 100000 in
theorem xn_202 : xokM 202 = true := by decide +kernel
set_option maxRecDepth 100000 in
theorem xn_203 : xokM 203 = true := by decide +kernel
set_option maxRecDepth 100000 in
theorem xn_204 : xokM 204 = true := by decide +kernel
set_option maxRecDepth 100000 in
theorem xn_205 : xokM 205 = true := by decide +kernel
set_option maxRecDepth 100000 in
theorem xn_206 : xokM 206 = true := by decide +kernel
set_option maxRecDepth 100000 in
theorem xn_207 : xokM 207 = true := by decide +kernel
set_option maxRecDepth 100000 in
theorem xn_208 : xokM 208 = true := by decide +kernel
set_option maxRecDepth 100000 in
theorem xn_209 : xokM 209 = true := by decide +kernel
set_option maxRecDepth 100000 in
theorem xn_210 : xokM 210 = true := by decide +kernel
set_option maxRecDepth 100000 in
theorem xn_211 : xokM 211 = true := by decide +kernel
set_option maxRecDepth 100000 in
theorem xn_212 : xokM 212 = true := by decide +kernel
set_option maxRecDepth 100000 in
theorem xn_213 : xokM 213 = true := by decide +kernel
set_option maxRecDepth 100000 in
theorem xn_214 : xokM 214 = true := by decide +kernel
set_option maxRecDepth 100000 in
theorem xn_215 : xokM 215 = true := by decide +kernel
set_option maxRecDepth 100000 in
theorem xn_216 : xokM 216 = true := by decide +kernel
set_option maxRecDepth 100000 in
theorem xn_217 : xokM 217 = true := by decide +kernel
set_option maxRecDepth 100000 in
theorem xn_218 : xokM 218 = true := by decide +kernel
set_option maxRecDepth 100000 in
theorem xn_219 : xokM 219 = true := by decide +kernel
set_option maxRecDepth 100000 in
theorem xn_220 : xokM 220 = true := by decide +kernel
end
section
theorem xb_0 : ∀ k, k < 10 → xall (0 + k) = true
  | 0, _ => xa_0
  | 1, _ => xa_1
  | 2, _ => xa_2
  | 3, _ => xa_3
  | 4, _ => xa_4
  | 5, _ => xa_5
  | 6, _ => xa_6
  | 7, _ => xa_7
  | 8, _ => xa_8
  | 9, _ => xa_9
  | k + 10, h => absurd h (by omega)
theorem xb_10 : ∀ k, k < 10 → xall (10 + k) = true
  | 0, _ => xa_10
  | 1, _ => xa_11
  | 2, _ => xa_12
  | 3, _ => xa_13
  | 4, _ => xa_14
  | 5, _ => xa_15
  | 6, _ => xa_16
  | 7, _ => xa_17
  | 8, _ => xa_18
  | 9, _ => xa_19
  | k + 10, h => absurd h (by omega)
theorem xb_20 : ∀ k, k < 10 → xall (20 + k) = true
  | 0, _ => xa_20
  | 1, _ => xa_21
  | 2, _ => xa_22
  | 3, _ => xa_23
  | 4, _ => xa_24
  | 5, _ => xa_25
  | 6, _ => xa_26
  | 7, _ => xa_27
  | 8, _ => xa_28
  | 9, _ => xa_29
  | k + 10, h => absurd h (by omega)
theorem xb_30 : ∀ k, k < 10 → xall (30 + k) = true
  | 0, _ => xa_30
  | 1, _ => xa_31
  | 2, _ => xa_32
  | 3, _ => xa_33
  | 4, _ => xa_34
  | 5, _ => xa_35
  | 6, _ => xa_36
  | 7, _ => xa_37
  | 8, _ => xa_38
  | 9, _ => xa_39
  | k + 10, h => absurd h (by omega)
theorem xb_40 : ∀ k, k < 10 → xall (40 + k) = true
  | 0, _ => xa_40
  | 1, _ => xa_41
  | 2, _ => xa_42
  | 3, _ => xa_43
  | 4, _ => xa_44
  | 5, _ => xa_45
  | 6, _ => xa_46
  | 7, _ => xa_47
  | 8, _ => xa_48
  | 9, _ => xa_49
  | k + 10, h => absurd h (by omega)
theorem xb_50 : ∀ k, k < 10 → xall (50 + k) = true
  | 0, _ => xa_50
  | 1, _ => xa_51
  | 2, _ => xa_52
  | 3, _ => xa_53
  | 4, _ => xa_54
  | 5, _ => xa_55
  | 6, _ => xa_56
  | 7, _ => xa_57
  | 8, _ => xa_58
  | 9, _ => xa_59
  | k + 10, h => absurd h (by omega)
theorem xb_60 : ∀ k, k < 10 → xall (60 + k) = true
  | 0, _ => xa_60
  | 1, _ => xa_61
  | 2, _ => xa_62
  | 3, _ => xa_63
  | 4, _ => xa_64
  | 5, _ => xa_65
  | 6, _ => xa_66
  | 7, _ => xa_67
  | 8, _ => xa_68
  | 9, _ => xa_69
  | k + 10, h => absurd h (by omega)
theorem xb_70 : ∀ k, k < 10 → xall (70 + k) = true
  | 0, _ => xa_70
  | 1, _ => xa_71
  | 2, _ => xa_72
  | 3, _ => xa_73
  | 4, _ => xa_74
  | 5, _ => xa_75
  | 6, _ => xa_76
  | 7, _ => xa_77
  | 8, _ => xa_78
  | 9, _ => xa_79
  | k + 10, h => absurd h (by omega)
theorem xb_80 : ∀ k, k < 10 → xall (80 + k) = true
  | 0, _ => xa_80
  | 1, _ => xa_81
  | 2, _ => xa_82
  | 3, _ => xa_83
  | 4, _ => xa_84
  | 5, _ => xa_85
  | 6, _ => xa_86
  | 7, _ => xa_87
  | 8, _ => xa_88
  | 9, _ => xa_89
  | k + 10, h => absurd h (by omega)
theorem xb_90 : ∀ k, k < 10 → xall (90 + k) = true
  | 0, _ => xa_90
  | 1, _ => xa_91
  | 2, _ => xa_92
  | 3, _ => xa_93
  | 4, _ => xa_94
  | 5, _ => xa_95
  | 6, _ => xa_96
  | 7, _ => xa_97
  | 8, _ => xa_98
  | 9, _ => xa_99
  | k + 10, h => absurd h (by omega)
theorem xb_100 : ∀ k, k < 10 → xall (100 + k) = true
  | 0, _ => xa_100
  | 1, _ => xa_101
  | 2, _ => xa_102
  | 3, _ => xa_103
  | 4, _ => xa_104
  | 5, _ => xa_105
  | 6, _ => xa_106
  | 7, _ => xa_107
  | 8, _ => xa_108
  | 9, _ => xa_109
  | k + 10, h => absurd h (by omega)
theorem xb_110 : ∀ k, k < 10 → xall (110 + k) = true
  | 0, _ => xa_110
  | 1, _ => xa_111
  | 2, _ => xa_112
  | 3, _ => xa_113
  | 4, _ => xa_114
  | 5, _ => xa_115
  | 6, _ => xa_116
  | 7, _ => xa_117
  | 8, _ => xa_118
  | 9, _ => xa_119
  | k + 10, h => absurd h (by omega)
theorem xb_120 : ∀ k, k < 10 → xall (120 + k) = true
  | 0, _ => xa_120
  | 1, _ => xa_121
  | 2, _ => xa_122
  | 3, _ => xa_123
  | 4, _ => xa_124
  | 5, _ => xa_125
  | 6, _ => xa_126
  | 7, _ => xa_127
  | 8, _ => xa_128
  | 9, _ => xa_129
  | k + 10, h => absurd h (by omega)
theorem xb_130 : ∀ k, k < 10 → xall (130 + k) = true
  | 0, _ => xa_130
  | 1, _ => xa_131
  | 2, _ => xa_132
  | 3, _ => xa_133
  | 4, _ => xa_134
  | 5, _ => xa_135
  | 6, _ => xa_136
  | 7, _ => xa_137
  | 8, _ => xa_138
  | 9, _ => xa_139
  | k + 10, h => absurd h (by omega)
theorem xb_140 : ∀ k, k < 10 → xall (140 + k) = true
  | 0, _ => xa_140
  | 1, _ => xa_141
  | 2, _ => xa_142
  | 3, _ => xa_143
  | 4, _ => xa_144
  | 5, _ => xa_145
  | 6, _ => xa_146
  | 7, _ => xa_147
  | 8, _ => xa_148
  | 9, _ => xa_149
  | k + 10, h => absurd h (by omega)
theorem xb_150 : ∀ k, k < 10 → xall (150 + k) = true
  | 0, _ => xa_150
  | 1, _ => xa_151
  | 2, _ => xa_152
  | 3, _ => xa_153
  | 4, _ => xa_154
  | 5, _ => xa_155
  | 6, _ => xa_156
  | 7, _ => xa_157
  | 8, _ => xa_158
  | 9, _ => xa_159
  | k + 10, h => absurd h (by omega)
theorem xb_160 : ∀ k, k < 10 → xall (160 + k) = true
  | 0, _ => xa_160
  | 1, _ => xa_161
  | 2, _ => xa_162
  | 3, _ => xa_163
  | 4, _ => xa_164
  | 5, _ => xa_165
  | 6, _ => xa_166
  | 7, _ => xa_167
  | 8, _ => xa_168
  | 9, _ => xa_169
  | k + 10, h => absurd h (by omega)
theorem xb_170 : ∀ k, k < 10 → xall (170 + k) = true
  | 0, _ => xa_170
  | 1, _ => xa_171
  | 2, _ => xa_172
  | 3, _ => xa_173
  | 4, _ => xa_174
  | 5, _ => xa_175
  | 6, _ => xa_176
  | 7, _ => xa_177
  | 8, _ => xa_178
  | 9, _ => xa_179
  | k + 10, h => absurd h (by omega)
theorem xb_180 : ∀ k, k < 10 → xall (180 + k) = true
  | 0, _ => xa_180
  | 1, _ => xa_181
  | 2, _ => xa_182
  | 3, _ => xa_183
  | 4, _ => xa_184
  | 5, _ => xa_185
  | 6, _ => xa_186
  | 7, _ => xa_187
  | 8, _ => xa_188
  | 9, _ => xa_189
  | k + 10, h => absurd h (by omega)
theorem xb_190 : ∀ k, k < 10 → xall (190 + k) = true
  | 0, _ => xa_190
  | 1, _ => xa_191
  | 2, _ => xa_192
  | 3, _ => xa_193
  | 4, _ => xa_194
  | 5, _ => xa_195
  | 6, _ => xa_196
  | 7, _ => xa_197
  | 8, _ => xa_198
  | 9, _ => xa_199
  | k + 10, h => absurd h (by omega)
theorem xb_200 : ∀ k, k < 10 → xall (200 + k) = true
  | 0, _ => xa_200
  | 1, _ => xa_201
  | 2, _ => xa_202
  | 3, _ => xa_203
  | 4, _ => xa_204
  | 5, _ => xa_205
  | 6, _ => xa_206
  | 7, _ => xa_207
  | 8, _ => xa_208
  | 9, _ => xa_209
  | k + 10, h => absurd h (by omega)
theorem xb_210 : ∀ k, k < 10 → xall (210 + k) = true
  | 0, _ => xa_210
  | 1, _ => xa_211
  | 2, _ => xa_212
  | 3, _ => xa_213
  | 4, _ => xa_214
  | 5, _ => xa_215
  | 6, _ => xa_216
  | 7, _ => xa_217
  | 8, _ => xa_218
  | 9, _ => xa_219
  | k + 10, h => absurd h (by omega)
theorem xb_220 : ∀ k, k < 1 → xall (220 + k) = true
  | 0, _ => xa_220
  | k + 1, h => absurd h (by omega)
theorem xall_of {mi : Nat} (h : mi < 221) : xall mi = true := by
  rcases Nat.lt_or_ge mi 10 with q | q
  · have h9 := xb_0 (mi - 0) (by omega)
    rwa [show 0 + (mi - 0) = mi by omega] at h9
  rcases Nat.lt_or_ge mi 20 with q | q
  · have h9 := xb_10 (mi - 10) (by omega)
    rwa [show 10 + (mi - 10) = mi by omega] at h9
  rcases Nat.lt_or_ge mi 30 with q | q
  · have h9 := xb_20 (mi - 20) (by omega)
    rwa [show 20 + (mi - 20) = mi by omega] at h9
  rcases Nat.lt_or_ge mi 40 with q | q
  · have h9 := xb_30 (mi - 30) (by omega)
    rwa [show 30 + (mi - 30) = mi by omega] at h9
  rcases Nat.lt_or_ge mi 50 with q | q
  · have h9 := xb_40 (mi - 40) (by omega)
    rwa [show 40 + (mi - 40) = mi by omega] at h9
  rcases Nat.lt_or_ge mi 60 with q | q
  · have h9 := xb_50 (mi - 50) (by omega)
    rwa [show 50 + (mi - 50) = mi by omega] at h9
  rcases Nat.lt_or_ge mi 70 with q | q
  · have h9 := xb_60 (mi - 60) (by omega)
    rwa [show 60 + (mi - 60) = mi by omega] at h9
  rcases Nat.lt_or_ge mi 80 with q | q
  · have h9 := xb_70 (mi - 70) (by omega)
    rwa [show 70 + (mi - 70) = mi by omega] at h9
  rcases Nat.lt_or_ge mi 90 with q | q
  · have h9 := xb_80 (mi - 80) (by omega)
    rwa [show 80 + (mi - 80) = mi by omega] at h9
  rcases Nat.lt_or_ge mi 100 with q | q
  · have h9 := xb_90 (mi - 90) (by omega)
    rwa [show 90 + (mi - 90) = mi by omega] at h9
  rcases Nat.lt_or_ge mi 110 with q | q
  · have h9 := xb_100 (mi - 100) (by omega)
    rwa [show 100 + (mi - 100) = mi by omega] at h9
  rcases Nat.lt_or_ge mi 120 with q | q
  · have h9 := xb_110 (mi - 110) (by omega)
    rwa [show 110 + (mi - 110) = mi by omega] at h9
  rcases Nat.lt_or_ge mi 130 with q | q
  · have h9 := xb_120 (mi - 120) (by omega)
    rwa [show 120 + (mi - 120) = mi by omega] at h9
  rcases Nat.lt_or_ge mi 140 with q | q
  · have h9 := xb_130 (mi - 130) (by omega)
    rwa [show 130 + (mi - 130) = mi by omega] at h9
  rcases Nat.lt_or_ge mi 150 with q | q
  · have h9 := xb_140 (mi - 140) (by omega)
    rwa [show 140 + (mi - 140) = mi by omega] at h9
  rcases Nat.lt_or_ge mi 160 with q | q
  · have h9 := xb_150 (mi - 150) (by omega)
    rwa [show 150 + (mi - 150) = mi by omega] at h9
  rcases Nat.lt_or_ge mi 170 with q | q
  · have h9 := xb_160 (mi - 160) (by omega)
    rwa [show 160 + (mi - 160) = mi by omega] at h9
  rcases Nat.lt_or_ge mi 180 with q | q
  · have h9 := xb_170 (mi - 170) (by omega)
    rwa [show 170 + (mi - 170) = mi by omega] at h9
  rcases Nat.lt_or_ge mi 190 with q | q
  · have h9 := xb_180 (mi - 180) (by omega)
    rwa [show 180 + (mi - 180) = mi by omega] at h9
  rcases Nat.lt_or_ge mi 200 with q | q
  · have h9 := xb_190 (mi - 190) (by omega)
    rwa [show 190 + (mi - 190) = mi by omega] at h9
  rcases Nat.lt_or_ge mi 210 with q | q
  · have h9 := xb_200 (mi - 200) (by omega)
    rwa [show 200 + (mi - 200) = mi by omega] at h9
  rcases Nat.lt_or_ge mi 220 with q | q
  · have h9 := xb_210 (mi - 210) (by omega)
    rwa [show 210 + (mi - 210) = mi by omega] at h9
  rcases Nat.lt_or_ge mi 221 with q | q
  · have h9 := xb_220 (mi - 220) (by omega)
    rwa [show 220 + (mi - 220) = mi by omega] at h9
  · omega
theorem xf_0 : ∀ k, k < 10 → xokM (0 + k) = true
  | 0, _ => xn_0
  | 1, _ => xn_1
  | 2, _ => xn_2
  | 3, _ => xn_3
  | 4, _ => xn_4
  | 5, _ => xn_5
  | 6, _ => xn_6
  | 7, _ => xn_7
  | 8, _ => xn_8
  | 9, _ => xn_9
  | k + 10, h => absurd h (by omega)
theorem xf_10 : ∀ k, k < 10 → xokM (10 + k) = true
  | 0, _ => xn_10
  | 1, _ => xn_11
  | 2, _ => xn_12
  | 3, _ => xn_13
  | 4, _ => xn_14
  | 5, _ => xn_15
  | 6, _ => xn_16
  | 7, _ => xn_17
  | 8, _ => xn_18
  | 9, _ => xn_19
  | k + 10, h => absurd h (by omega)
theorem xf_20 : ∀ k, k < 10 → xokM (20 + k) = true
  | 0, _ => xn_20
  | 1, _ => xn_21
  | 2, _ => xn_22
  | 3, _ => xn_23
  | 4, _ => xn_24
  | 5, _ => xn_25
  | 6, _ => xn_26
  | 7, _ => xn_27
  | 8, _ => xn_28
  | 9, _ => xn_29
  | k + 10, h => absurd h (by omega)
theorem xf_30 : ∀ k, k < 10 → xokM (30 + k) = true
  | 0, _ => xn_30
  | 1, _ => xn_31
  | 2, _ => xn_32
  | 3, _ => xn_33
  | 4, _ => xn_34
  | 5, _ => xn_35
  | 6, _ => xn_36
  | 7, _ => xn_37
  | 8, _ => xn_38
  | 9, _ => xn_39
  | k + 10, h => absurd h (by omega)
theorem xf_40 : ∀ k, k < 10 → xokM (40 + k) = true
  | 0, _ => xn_40
  | 1, _ => xn_41
  | 2, _ => xn_42
  | 3, _ => xn_43
  | 4, _ => xn_44
  | 5, _ => xn_45
  | 6, _ => xn_46
  | 7, _ => xn_47
  | 8, _ => xn_48
  | 9, _ => xn_49
  | k + 10, h => absurd h (by omega)
theorem xf_50 : ∀ k, k < 10 → xokM (50 + k) = true
  | 0, _ => xn_50
  | 1, _ => xn_51
  | 2, _ => xn_52
  | 3, _ => xn_53
  | 4, _ => xn_54
  | 5, _ => xn_55
  | 6, _ => xn_56
  | 7, _ => xn_57
  | 8, _ => xn_58
  | 9, _ => xn_59
  | k + 10, h => absurd h (by omega)
theorem xf_60 : ∀ k, k < 10 → xokM (60 + k) = true
  | 0, _ => xn_60
  | 1, _ => xn_61
  | 2, _ => xn_62
  | 3, _ => xn_63
  | 4, _ => xn_64
  | 5, _ => xn_65
  | 6, _ => xn_66
  | 7, _ => xn_67
  | 8, _ => xn_68
  | 9, _ => xn_69
  | k + 10, h => absurd h (by omega)
theorem xf_70 : ∀ k, k < 10 → xokM (70 + k) = true
  | 0, _ => xn_70
  | 1, _ => xn_71
  | 2, _ => xn_72
  | 3, _ => xn_73
  | 4, _ => xn_74
  | 5, _ => xn_75
  | 6, _ => xn_76
  | 7, _ => xn_77
  | 8, _ => xn_78
  | 9, _ => xn_79
  | k + 10, h => absurd h (by omega)
theorem xf_80 : ∀ k, k < 10 → xokM (80 + k) = true
  | 0, _ => xn_80
  | 1, _ => xn_81
  | 2, _ => xn_82
  | 3, _ => xn_83
  | 4, _ => xn_84
  | 5, _ => xn_85
  | 6, _ => xn_86
  | 7, _ => xn_87
  | 8, _ => xn_88
  | 9, _ => xn_89
  | k + 10, h => absurd h (by omega)
theorem xf_90 : ∀ k, k < 10 → xokM (90 + k) = true
  | 0, _ => xn_90
  | 1, _ => xn_91
  | 2, _ => xn_92
  | 3, _ => xn_93
  | 4, _ => xn_94
  | 5, _ => xn_95
  | 6, _ => xn_96
  | 7, _ => xn_97
  | 8, _ => xn_98
  | 9, _ => xn_99
  | k + 10, h => absurd h (by omega)
theorem xf_100 : ∀ k, k < 10 → xokM (100 + k) = true
  | 0, _ => xn_100
  | 1, _ => xn_101
  | 2, _ => xn_102
  | 3, _ => xn_103
  | 4, _ => xn_104
  | 5, _ => xn_105
  | 6, _ => xn_106
  | 7, _ => xn_107
  | 8, _ => xn_108
  | 9, _ => xn_109
  | k + 10, h => absurd h (by omega)
theorem xf_110 : ∀ k, k < 10 → xokM (110 + k) = true
  | 0, _ => xn_110
  | 1, _ => xn_111
  | 2, _ => xn_112
  | 3, _ => xn_113
  | 4, _ => xn_114
  | 5, _ => xn_115
  | 6, _ => xn_116
  | 7, _ => xn_117
  | 8, _ => xn_118
  | 9, _ => xn_119
  | k + 10, h => absurd h (by omega)
theorem xf_120 : ∀ k, k < 10 → xokM (120 + k) = true
  | 0, _ => xn_120
  | 1, _ => xn_121
  | 2, _ => xn_122
  | 3, _ => xn_123
  | 4, _ => xn_124
  | 5, _ => xn_125
  | 6, _ => xn_126
  | 7, _ => xn_127
  | 8, _ => xn_128
  | 9, _ => xn_129
  | k + 10, h => absurd h (by omega)
theorem xf_130 : ∀ k, k < 10 → xokM (130 + k) = true
  | 0, _ => xn_130
  | 1, _ => xn_131
  | 2, _ => xn_132
  | 3, _ => xn_133
  | 4, _ => xn_134
  | 5, _ => xn_135
  | 6, _ => xn_136
  | 7, _ => xn_137
  | 8, _ => xn_138
  | 9, _ => xn_139
  | k + 10, h => absurd h (by omega)
theorem xf_140 : ∀ k, k < 10 → xokM (140 + k) = true
  | 0, _ => xn_140
  | 1, _ => xn_141
  | 2, _ => xn_142
  | 3, _ => xn_143
  | 4, _ => xn_144
  | 5, _ => xn_145
  | 6, _ => xn_146
  | 7, _ => xn_147
  | 8, _ => xn_148
  | 9, _ => xn_149
  | k + 10, h => absurd h (by omega)
theorem xf_150 : ∀ k, k < 10 → xokM (150 + k) = true
  | 0, _ => xn_150
  | 1, _ => xn_151
  | 2, _ => xn_152
  | 3, _ => xn_153
  | 4, _ => xn_154
  | 5, _ => xn_155
  | 6, _ => xn_156
  | 7, _ => xn_157
  | 8, _ => xn_158
  | 9, _ => xn_159
  | k + 10, h => absurd h (by omega)
theorem xf_160 : ∀ k, k < 10 → xokM (160 + k) = true
  | 0, _ => xn_160
  | 1, _ => xn_161
  | 2, _ => xn_162
  | 3, _ => xn_163
  | 4, _ => xn_164
  | 5, _ => xn_165
  | 6, _ => xn_166
  | 7, _ => xn_167
  | 8, _ => xn_168
  | 9, _ => xn_169
  | k + 10, h => absurd h (by omega)
theorem xf_170 : ∀ k, k < 10 → xokM (170 + k) = true
  | 0, _ => xn_170
  | 1, _ => xn_171
  | 2, _ => xn_172
  | 3, _ => xn_173
  | 4, _ => xn_174
  | 5, _ => xn_175
  | 6, _ => xn_176
  | 7, _ => xn_177
  | 8, _ => xn_178
  | 9, _ => xn_179
  | k + 10, h => absurd h (by omega)
theorem xf_180 : ∀ k, k < 10 → xokM (180 + k) = true
  | 0, _ => xn_180
  | 1, _ => xn_181
  | 2, _ => xn_182
  | 3, _ => xn_183
  | 4, _ => xn_184
  | 5, _ => xn_185
  | 6, _ => xn_186
  | 7, _ => xn_187
  | 8, _ => xn_188
  | 9, _ => xn_189
  | k + 10, h => absurd h (by omega)
theorem xf_190 : ∀ k, k < 10 → xokM (190 + k) = true
  | 0, _ => xn_190
  | 1, _ => xn_191
  | 2, _ => xn_192
  | 3, _ => xn_193
  | 4, _ => xn_194
  | 5, _ => xn_195
  | 6, _ => xn_196
  | 7, _ => xn_197
  | 8, _ => xn_198
  | 9, _ => xn_199
  | k + 10, h => absurd h (by omega)
theorem xf_200 : ∀ k, k < 10 → xokM (200 + k) = true
  | 0, _ => xn_200
  | 1, _ => xn_201
  | 2, _ => xn_202
  | 3, _ => xn_203
  | 4, _ => xn_204
  | 5, _ => xn_205
  | 6, _ => xn_206
  | 7, _ => xn_207
  | 8, _ => xn_208
  | 9, _ => xn_209
  | k + 10, h => absurd h (by omega)
theorem xf_210 : ∀ k, k < 10 → xokM (210 + k) = true
  | 0, _ => xn_210
  | 1, _ => xn_211
  | 2, _ => xn_212
  | 3, _ => xn_213
  | 4, _ => xn_214
  | 5, _ => xn_215
  | 6, _ => xn_216
  | 7, _ => xn_217
  | 8, _ => xn_218
  | 9, _ => xn_219
  | k + 10, h => absurd h (by omega)
theorem xf_220 : ∀ k, k < 1 → xokM (220 + k) = true
  | 0, _ => xn_220
  | k + 1, h => absurd h (by omega)
theorem xokM_of {mi : Nat} (h : mi < 221) : xokM mi = true := by
  rcases Nat.lt_or_ge mi 10 with q | q
  · have h9 := xf_0 (mi - 0) (by omega)
    rwa [show 0 + (mi - 0) = mi by omega] at h9
  rcases Nat.lt_or_ge mi 20 with q | q
  · have h9 := xf_10 (mi - 10) (by omega)
    rwa [show 10 + (mi - 10) = mi by omega] at h9
  rcases Nat.lt_or_ge mi 30 with q | q
  · have h9 := xf_20 (mi - 20) (by omega)
    rwa [show 20 + (mi - 20) = mi by omega] at h9
  rcases Nat.lt_or_ge mi 40 with q | q
  · have h9 := xf_30 (mi - 30) (by omega)
    rwa [show 30 + (mi - 30) = mi by omega] at h9
  rcases Nat.lt_or_ge mi 50 with q | q
  · have h9 := xf_40 (mi - 40) (by omega)
    rwa [show 40 + (mi - 40) = mi by omega] at h9
  rcases Nat.lt_or_ge mi 60 with q | q
  · have h9 := xf_50 (mi - 50) (by omega)
    rwa [show 50 + (mi - 50) = mi by omega] at h9
  rcases Nat.lt_or_ge mi 70 with q | q
  · have h9 := xf_60 (mi - 60) (by omega)
    rwa [show 60 + (mi - 60) = mi by omega] at h9
  rcases Nat.lt_or_ge mi 80 with q | q
  · have h9 := xf_70 (mi - 70) (by omega)
    rwa [show 70 + (mi - 70) = mi by omega] at h9
  rcases Nat.lt_or_ge mi 90 with q | q
  · have h9 := xf_80 (mi - 80) (by omega)
    rwa [show 80 + (mi - 80) = mi by omega] at h9
  rcases Nat.lt_or_ge mi 100 with q | q
  · have h9 := xf_90 (mi - 90) (by omega)
    rwa [show 90 + (mi - 90) = mi by omega] at h9
  rcases Nat.lt_or_ge mi 110 with q | q
  · have h9 := xf_100 (mi - 100) (by omega)
    rwa [show 100 + (mi - 100) = mi by omega] at h9
  rcases Nat.lt_or_ge mi 120 with q | q
  · have h9 := xf_110 (mi - 110) (by omega)
    rwa [show 110 + (mi - 110) = mi by omega] at h9
  rcases Nat.lt_or_ge mi 130 with q | q
  · have h9 := xf_120 (mi - 120) (by omega)
    rwa [show 120 + (mi - 120) = mi by omega] at h9
  rcases Nat.lt_or_ge mi 140 with q | q
  · have h9 := xf_130 (mi - 130) (by omega)
    rwa [show 130 + (mi - 130) = mi by omega] at h9
  rcases Nat.lt_or_ge mi 150 with q | q
  · have h9 := xf_140 (mi - 140) (by omega)
    rwa [show 140 + (mi - 140) = mi by omega] at h9
  rcases Nat.lt_or_ge mi 160 with q | q
  · have h9 := xf_150 (mi - 150) (by omega)
    rwa [show 150 + (mi - 150) = mi by omega] at h9
  rcases Nat.lt_or_ge mi 170 with q | q
  · have h9 := xf_160 (mi - 160) (by omega)
    rwa [show 160 + (mi - 160) = mi by omega] at h9
  rcases Nat.lt_or_ge mi 180 with q | q
  · have h9 := xf_170 (mi - 170) (by omega)
    rwa [show 170 + (mi - 170) = mi by omega] at h9
  rcases Nat.lt_or_ge mi 190 with q | q
  · have h9 := xf_180 (mi - 180) (by omega)
    rwa [show 180 + (mi - 180) = mi by omega] at h9
  rcases Nat.lt_or_ge mi 200 with q | q
  · have h9 := xf_190 (mi - 190) (by omega)
    rwa [show 190 + (mi - 190) = mi by omega] at h9
  rcases Nat.lt_or_ge mi 210 with q | q
  · have h9 := xf_200 (mi - 200) (by omega)
    rwa [show 200 + (mi - 200) = mi by omega] at h9
  rcases Nat.lt_or_ge mi 220 with q | q
  · have h9 := xf_210 (mi - 210) (by omega)
    rwa [show 210 + (mi - 210) = mi by omega] at h9
  rcases Nat.lt_or_ge mi 221 with q | q
  · have h9 := xf_220 (mi - 220) (by omega)
    rwa [show 220 + (mi - 220) = mi by omega] at h9
  · omega
end
section
-- the pure machine's heap as the kit's world
def xv (b scr : Nat) : Value → Value
  | .ref k => .ref (if k = xscr then scr else b + k)
  | v => v
theorem xv_cat (b scr : Nat) (v : Value) : (xv b scr v).category = v.category := by cases v <;> rfl
abbrev xTy : Type := ClassId × ClassId × ClassId
def xk (K : xTy) (ty : FieldType) : ClassId := match ty with
  | .int => K.1
  | .long => K.2.1
  | _ => K.2.2
abbrev xtl (K : xTy) : List (ClassId × FieldType) := [(K.1, .int), (K.2.1, .long), (K.2.2, .char)]
def xe (K : xTy) (b scr : Nat) : xC → va_E
  | .inl q => .inl (xk K q.1, q.2)
  | .inr q => .inr (q.1, q.2.map (xv b scr))
def xw (K : xTy) (b scr : Nat) (A : List xC) : va_W := A.mapIdx fun k e => (b + k, xe K b scr e)
theorem xw_at {K : xTy} {b scr : Nat} {A : List xC} {k : Nat} {e : xC} (h : A[k]? = some e) : (xw K b scr A)[k]? = some (b + k, xe K b scr e) := by
  simp [xw, h]
theorem xw_of {K : xTy} {b scr : Nat} {A : List xC} {k : Nat} {q : Nat × va_E} (h : (xw K b scr A)[k]? = some q) : ∃ e, A[k]? = some e ∧ q = (b + k, xe K b scr e) := by
  simp only [xw, List.getElem?_mapIdx, Option.map_eq_some_iff] at h
  obtain ⟨e, h1, h2⟩ := h
  exact ⟨e, h1, h2.symm⟩
theorem xw_D (K : xTy) (b scr : Nat) (A : List xC) : va_D (fun q => b ≤ q) (xw K b scr A) := by
  refine ⟨fun i j p q hi hj he => ?_, fun k q hk => ?_⟩
  · obtain ⟨e1, -, rfl⟩ := xw_of hi
    obtain ⟨e2, -, rfl⟩ := xw_of hj
    dsimp only at he
    omega
  · obtain ⟨e1, -, rfl⟩ := xw_of hk
    exact Nat.le_add_right b k
theorem xw_set (K : xTy) (b scr : Nat) (A : List xC) (k : Nat) (e : xC) : (xw K b scr A).set k (b + k, xe K b scr e) = xw K b scr (A.set k e) := by
  apply List.ext_getElem?
  intro j
  simp only [xw, List.getElem?_set, List.getElem?_mapIdx, List.length_mapIdx]
  by_cases h : k = j
  · subst h
    by_cases h2 : k < A.length
    · simp [h2]
    · simp [h2]
  · simp [h]
theorem xw_app (K : xTy) (b scr : Nat) (A : List xC) (e : xC) : xw K b scr (A ++ [e]) = xw K b scr A ++ [(b + A.length, xe K b scr e)] := by
  simp [xw, List.mapIdx_append]
/-- what was there before the law's first step, and is there still -/
def xex (b : Nat) (U : State) : Prop := ∃ (s0 : State) (a0 : Array Value), s0.heap.size = b ∧ (∀ q, q < b → U.heap[q]? = s0.heap[q]?) ∧ s0.WarmedH U.vm ∧ (∀ w ∈ lw_tbl, w.before a0 s0 = true) ∧ (Jvm.Cond.and given_1 narrow_1).before a0 s0 = true
theorem xex_move {b : Nat} {s U : State} {H : Heap} (h : xex b s) (hU : U.heap = H) (hH : ∀ q, q < b → H[q]? = s.heap[q]?) (hW : s.WarmedH U.vm) : xex b U := by
  obtain ⟨s0, a0, e1, e2, e3, e4, e5⟩ := h
  exact ⟨s0, a0, e1, fun q hq => by rw [hU, hH q hq]; exact e2 q hq, State.WarmedH.trans e3 hW, e4, e5⟩
/-- a method's surroundings -/
def xcx (D : va_G) (K : xTy) (b scr : Nat) (sc : xSc) (mi : Nat) (p : Program) (s : State) (m : MethodId) (args : Array Value) (meth : Method) (c : Code) : Prop :=
  p.tables.exec = Jvm.exec ∧ c.code = xby mi ∧ c.maxLocals = (xme mi).2.2.1 ∧ s.vm.findClass (xme mi).1.cls = some m.cls ∧ (∀ w ∈ xTb, w.before args s = true) ∧ va_K D xCl (xtl K) s ∧ va_X scr sc.1 sc.2 s s.heap ∧ scr < b ∧ b ≤ s.heap.size ∧ meth.name = (xme mi).1.name ∧ meth.sig.returnType = (xme mi).2.2.2.1 ∧ meth.locks = false ∧ xex b s
/-- what the pure heap counts -/
def xsz : xC → Nat
  | .inl q => q.2.1
  | .inr q => q.2.length
def xcn (h : xH) : Nat := h.1.length + h.2
def xsn (h : xH) : Nat := (h.1.map xsz).sum + 6 * h.2
theorem xlk_mem {i : Nat} {v : Value} : ∀ {ls : xL}, xlk i ls = some v → (i, v) ∈ ls
  | [], h => by cases h
  | q :: r, h => by
    simp only [xlk] at h
    by_cases hq : (q.1 == i) = true
    · rw [if_pos hq] at h
      cases h
      have : q.1 = i := by simpa using hq
      subst this
      exact List.mem_cons_self
    · rw [if_neg hq] at h
      exact List.mem_cons_of_mem _ (xlk_mem h)
theorem xput_mem {i : Nat} {v : Value} {z : Nat × Value} : ∀ {ls : xL}, z ∈ xput i v ls → z = (i, v) ∨ z ∈ ls
  | [], h => by
    simp only [xput, List.mem_singleton] at h
    exact Or.inl h
  | q :: r, h => by
    simp only [xput] at h
    split at h
    · rcases List.mem_cons.mp h with e | e
      · exact Or.inl e
      · exact Or.inr e
    · rcases List.mem_cons.mp h with e | e
      · exact Or.inr (e ▸ List.mem_cons_self)
      · rcases xput_mem e with e | e
        · exact Or.inl e
        · exact Or.inr (List.mem_cons_of_mem _ e)
/-- locals, translated -/
abbrev xtv (b scr : Nat) (q : Nat × Value) : Nat × Value := (q.1, xv b scr q.2)
theorem xhas_lk {b scr nL i : Nat} {v : Value} {la : Array Slot} {ls : xL} (h : lv_has la nL (ls.map (xtv b scr))) (hl : xlk i ls = some v) : la[i]? = some (.val (xv b scr v)) :=
  h.2.2 (i, xv b scr v) (List.mem_map.mpr ⟨(i, v), xlk_mem hl, rfl⟩)
theorem lv_has_mono {la : Array Slot} {nL : Nat} {l l' : List (Nat × Value)} (h : lv_has la nL l) (hs : ∀ q ∈ l', q ∈ l) : lv_has la nL l' := ⟨h.1, h.2.1, fun q hq => h.2.2 q (hs q hq)⟩
theorem xst1_sub {b scr i : Nat} {v : Value} {ls : xL} : ∀ q ∈ (xst1 i v ls).map (xtv b scr), q ∈ (i, xv b scr v) :: (ls.map (xtv b scr)).filter (fun q => !(q.1 == i) && !(q.1 + 1 == i && q.2.category == 2)) := by
  intro q hq
  obtain ⟨z, hz, rfl⟩ := List.mem_map.mp hq
  rcases xput_mem hz with rfl | hz
  · exact List.mem_cons_self
  · obtain ⟨h1, h2⟩ := List.mem_filter.mp hz
    exact List.mem_cons_of_mem _ (List.mem_filter.mpr ⟨List.mem_map.mpr ⟨z, h1, rfl⟩, by simpa [xtv, xv_cat] using h2⟩)
theorem xst2_sub {b scr i : Nat} {v : Value} {ls : xL} : ∀ q ∈ (xst2 i v ls).map (xtv b scr), q ∈ (i, xv b scr v) :: (ls.map (xtv b scr)).filter (fun q => !(q.1 == i) && (!(q.1 == i + 1) && !(q.1 + 1 == i && q.2.category == 2))) := by
  intro q hq
  obtain ⟨z, hz, rfl⟩ := List.mem_map.mp hq
  rcases xput_mem hz with rfl | hz
  · exact List.mem_cons_self
  · obtain ⟨h1, h2⟩ := List.mem_filter.mp hz
    exact List.mem_cons_of_mem _ (List.mem_filter.mpr ⟨List.mem_map.mpr ⟨z, h1, rfl⟩, by simpa [xtv, xv_cat] using h2⟩)
theorem xib_in {i : Int32} {n : Nat} (h : xib i n = true) : vp_in i n := by
  simp only [xib, Bool.and_eq_true, decide_eq_true_eq] at h
  exact vp_in_iff.mpr h
end
section
section XS
variable {p : Program} {l : Launch} {e : Env} {R : Room} {s : State} {m : MethodId} {args : Array Value} {below : List Frame} {meth : Method} {c : Code} {Q : State → Prop}
theorem x_sized {H : Heap} {locs : List Loc} {cells slots : Nat} {g : JFrame} (h : H.size ≤ s.heap.size + cells → W p l e R s m args below meth c H locs cells slots Q g) : W p l e R s m args below meth c H locs cells slots Q g := fun T hT X => h (by rw [← hT]; exact X.heapSize) T hT X
/-- the world between two instructions: C0 cells and S0 slots were there at the method's entry -/
def xwd (D : va_G) (K : xTy) (b scr : Nat) (s : State) (C0 S0 : Nat) (A : List xC) (g : Nat) (H : Heap) (locs : List Loc) (cells slots : Nat) : Prop :=
  s.heap.size = b + C0 ∧ cells + C0 = A.length + g ∧ slots + S0 = xsn (A, g) ∧ H.size = b + (A.length + g) ∧ A.length ≤ 1000 ∧ va_P D xCl (xw K b scr A) H ∧ va_S (fun q => b ≤ q) s.heap H locs
theorem va_S.comp {B : Nat → Prop} {H0 H H1 : Heap} {l0 l1 : List Loc} (h : va_S B H0 H l0) (h1 : va_S B H H1 l1) : va_S B H0 H1 l1 :=
  ⟨Nat.le_trans h.1 h1.1, fun q hq hn => (h1.2.1 q (Nat.lt_of_lt_of_le hq h.1) hn).trans (h.2.1 q hq hn), h1.2.2⟩
theorem va_S.again {B : Nat → Prop} {H0 H : Heap} {l0 : List Loc} (h : va_S B H0 H l0) : va_S B H H l0 := ⟨Nat.le_refl _, fun _ _ _ => rfl, h.2.2⟩
theorem xsum_set {A : List xC} {k : Nat} {e0 e : xC} (h : A[k]? = some e0) (hz : xsz e = xsz e0) : ((A.set k e).map xsz).sum = (A.map xsz).sum := by
  have : (A.set k e).map xsz = A.map xsz := by
    apply List.ext_getElem?
    intro j
    simp only [List.getElem?_map, List.getElem?_set]
    by_cases hj : k = j
    · subst hj
      rw [h]
      have hlt : k < A.length := (List.getElem?_eq_some_iff.mp h).1
      simp [hlt, hz]
    · simp [hj]
  rw [this]
/-- behind a store into a cell -/
theorem xwd_set {D : va_G} {K : xTy} {b scr C0 S0 : Nat} {A : List xC} {g : Nat} {H H1 : Heap} {locs locs1 : List Loc} {cells slots k : Nat} {e0 e1 : xC} (hw : xwd D K b scr s C0 S0 A g H locs cells slots) (hk : A[k]? = some e0) (hz : xsz e1 = xsz e0)
    (hle : H1.size ≤ s.heap.size + cells) (hP : va_P D xCl ((xw K b scr A).set k (b + k, xe K b scr e1)) H1) (hS : va_S (fun q => b ≤ q) H H1 locs1) : xwd D K b scr s C0 S0 (A.set k e1) g H1 locs1 cells slots := by
  obtain ⟨h1, h2, h3, h4, h5, h6, h7⟩ := hw
  have hs := hS.1
  refine ⟨h1, by simpa using h2, ?_, by simp only [List.length_set]; omega, by simpa using h5, by rw [← xw_set]; exact hP, h7.comp hS⟩
  rw [h3]
  simp only [xsn, xsum_set hk hz]
/-- behind a new cell -/
theorem xwd_new {D : va_G} {K : xTy} {b scr C0 S0 : Nat} {A : List xC} {H H1 : Heap} {locs locs1 : List Loc} {cells slots n q : Nat} {e1 : xC} (hw : xwd D K b scr s C0 S0 A 0 H locs cells slots) (hA : A.length < 1000) (hz : xsz e1 = n)
    (hle : H1.size ≤ s.heap.size + (cells + 1)) (hP : va_P D xCl (xw K b scr A ++ [(q, xe K b scr e1)]) H1) (hD : va_D (fun q => b ≤ q) (xw K b scr A ++ [(q, xe K b scr e1)])) (hS : va_S (fun q => b ≤ q) H H1 locs1) : q = b + A.length ∧ xwd D K b scr s C0 S0 (A ++ [e1]) 0 H1 locs1 (cells + 1) (slots + n) := by
  obtain ⟨h1, h2, h3, h4, h5, h6, h7⟩ := hw
  have hlen : (xw K b scr A).length = A.length := by simp [xw]
  have hq1 : (xw K b scr A ++ [(q, xe K b scr e1)])[A.length]? = some (q, xe K b scr e1) := by
    rw [List.getElem?_append_right (by omega), hlen]
    simp
  have hlt : q < H1.size := va_at.lt (hP _ _ hq1)
  have hbq : b ≤ q := hD.2 _ _ hq1
  have hge : b + A.length ≤ q := by
    rcases Nat.lt_or_ge q (b + A.length) with hc | hc
    · exfalso
      have hi : q - b < A.length := by omega
      obtain ⟨e0, he0⟩ : ∃ e0, A[q - b]? = some e0 := ⟨A[q - b], List.getElem?_eq_getElem hi⟩
      have h9 : (xw K b scr A ++ [(q, xe K b scr e1)])[q - b]? = some (b + (q - b), xe K b scr e0) := by
        rw [List.getElem?_append_left (by omega)]
        exact xw_at he0
      have := hD.1 _ _ _ _ h9 hq1 (by dsimp only; omega)
      omega
    · exact hc
  have hs := hS.1
  have hq : q = b + A.length := by omega
  refine ⟨hq, h1, by simp; omega, ?_, by simp only [List.length_append, List.length_singleton]; omega, by simp; omega, ?_, h7.comp hS⟩
  · simp only [xsn, List.map_append, List.sum_append, List.map_cons, List.map_nil, List.sum_cons, List.sum_nil, hz] at h3 ⊢
    omega
  · rw [xw_app, ← hq]
    exact hP
theorem xcl_get {ci : Nat} (h : ci < 8) : xCl[ci]? = some (xcl ci) := by
  have h8 : ci < xCl.length := h
  unfold xcl
  rw [List.getD_eq_getElem?_getD, List.getElem?_eq_getElem h8]
  rfl
theorem xin_ws : ∀ ci, ci < 8 → ∀ w ∈ u_ws (xcl ci).1 (xcl ci).2.1 (xcl ci).2.2, w ∈ xTb := by decide +kernel
def xtyf (ci : Nat) : Nat → FieldType := fun k => (xtys.getD ci []).getD k .int
theorem xty_ok : ∀ ci, ci < 8 → ∀ k, k < (xcl ci).2.2 → parseFieldDescriptor ((xcl ci).2.1 k).2.2.1 = some (xtyf ci k) := by decide +kernel
theorem xnm_ok : ∀ ci, ci < 8 → ∀ a, a < (xcl ci).2.2 → ∀ b, b < (xcl ci).2.2 → a ≠ b → ((xcl ci).2.1 a).2.1 ≠ ((xcl ci).2.1 b).2.1 := by decide +kernel
theorem xdf_ok : ∀ ci, ci < 8 → ∀ j, j < (xcl ci).2.2 → defaultValue (xtyf ci j) = vp_V (xdfs.getD ci []) j := by decide +kernel
theorem xdf_len : ∀ ci, ci < 8 → (xdfs.getD ci []).length = (xcl ci).2.2 := by decide +kernel
def xdfp (v : Value) : Bool := match v with
  | .ref _ => false
  | _ => true
theorem xdf_pl : ∀ ci, ci < 8 → (xdfs.getD ci []).all xdfp = true := by decide +kernel
theorem xdf_xv {b scr : Nat} {l : List Value} (h : l.all xdfp = true) : l.map (xv b scr) = l := by
  have : ∀ v ∈ l, xv b scr v = v := fun v hv => by
    have h1 := List.all_eq_true.mp h v hv
    cases v <;> first | rfl | (simp [xdfp] at h1)
  rw [List.map_congr_left this, List.map_id']
theorem xin_inst : ∀ ci, ci < 8 → Cond.instantiable (xcl ci).1 (xcl ci).2.2 ∈ xTb ∧ Cond.initialized (xcl ci).1 ∈ xTb := by decide +kernel
theorem xin_obj : Cond.instanceMethod Lib.objectInit ∈ xTb ∧ Cond.code Lib.objectInit ⟨#[0xb1]⟩ 1 none ∈ xTb := by decide +kernel
theorem xin_max : Cond.static Lib.Math.max.name ∈ xTb ∧ Cond.initialized "java/lang/Math" ∈ xTb ∧ Cond.code Lib.Math.max.name Lib.Math.max.code 2 (some .int) ∈ xTb := by decide +kernel
theorem xfit_n {b scr : Nat} {ty : FieldType} {v : Value} (h : xfit ty v = true) : narrow ty (xv b scr v) = xv b scr v ∧ fits ty (xv b scr v) = true := by
  cases ty <;> cases v <;> first | (simp [xfit] at h; done) | (exact ⟨rfl, rfl⟩) | skip
  all_goals
    simp only [xfit, Bool.or_eq_true, beq_iff_eq] at h
    rcases h with rfl | rfl <;> exact ⟨rfl, rfl⟩
theorem xsw_t {pc d : Nat} {x : Int32} : ∀ {lo : Int} {offs : List Int} {sw : List (Int32 × Nat)}, xswt pc lo offs sw = true → (x.toInt < lo ∨ lo + offs.length ≤ x.toInt) → xsw d x sw = d
  | lo, [], [], _, _ => rfl
  | lo, [], _ :: _, h, _ => by cases h
  | lo, _ :: _, [], h, _ => by cases h
  | lo, o :: offs, z :: sw, h, hx => by
    simp only [xswt, Bool.and_eq_true, decide_eq_true_eq] at h
    have hne : ¬ x = z.1 := fun q => by rw [q, h.1] at hx; simp only [List.length_cons] at hx; omega
    simp only [xsw, if_neg hne]
    exact xsw_t h.2.2 (by simp only [List.length_cons] at hx; omega)
theorem xsw_i {pc d : Nat} {x : Int32} : ∀ {lo : Int} {offs : List Int} {sw : List (Int32 × Nat)}, xswt pc lo offs sw = true → ¬ x.toInt < lo → x.toInt < lo + offs.length → ∃ off, offs[(x.toInt - lo).toNat]? = some off ∧ (pc : Int) + off = (xsw d x sw : Int)
  | lo, [], [], _, h1, h2 => by simp at h2; omega
  | lo, [], _ :: _, h, _, _ => by cases h
  | lo, _ :: _, [], h, _, _ => by cases h
  | lo, o :: offs, z :: sw, h, h1, h2 => by
    simp only [xswt, Bool.and_eq_true, decide_eq_true_eq] at h
    by_cases hx : x.toInt = lo
    · have he : x = z.1 := Int32.toInt_inj.mp (hx.trans h.1.symm)
      refine ⟨o, by rw [hx]; simp, ?_⟩
      simp only [xsw, if_pos he]
      exact h.2.1
    · have hne : ¬ x = z.1 := fun q => hx (by rw [q]; exact h.1)
      obtain ⟨off, a1, a2⟩ := xsw_i (d := d) (x := x) h.2.2 (by omega) (by simp only [List.length_cons] at h2; omega)
      refine ⟨off, ?_, by simp only [xsw, if_neg hne]; exact a2⟩
      have : (x.toInt - lo).toNat = (x.toInt - (lo + 1)).toNat + 1 := by omega
      rw [this, List.getElem?_cons_succ]
      exact a1
theorem xsw_p {pc d : Nat} {dflt : Int} (hd : (pc : Int) + dflt = d) {x : Int32} : ∀ {ps : List (Int × Int)} {sw : List (Int32 × Nat)}, xswp pc ps sw = true → (pc : Int) + Op.lookupswitch.offset ps dflt x.toInt = (xsw d x sw : Int)
  | [], [], _ => by simpa [Op.lookupswitch.offset, xsw] using hd
  | [], _ :: _, h => by cases h
  | _ :: _, [], h => by cases h
  | q :: ps, z :: sw, h => by
    simp only [xswp, Bool.and_eq_true, decide_eq_true_eq] at h
    have ih := xsw_p hd (x := x) h.2.2
    by_cases hx : x.toInt = q.1
    · have he : x = z.1 := Int32.toInt_inj.mp (hx.trans h.1.symm)
      simp only [xsw, if_pos he]
      rw [← h.2.1]
      obtain ⟨q1, q2⟩ := q
      simp only at hx
      simp [Op.lookupswitch.offset, hx]
    · have hne : ¬ x = z.1 := fun w => hx (by rw [w]; exact h.1)
      simp only [xsw, if_neg hne]
      rw [← ih]
      obtain ⟨q1, q2⟩ := q
      simp only at hx
      have hx2 : ¬ q1 = x.toInt := fun w => hx w.symm
      simp [Op.lookupswitch.offset, hx, hx2]
end XS
end
section
section XS2
variable {p : Program} {l : Launch} {e : Env} {R : Room} {s : State} {m : MethodId} {args : Array Value} {below : List Frame} {meth : Method} {c : Code} {Q : State → Prop}
theorem x_if {P : Nat → Prop} {b : Bool} {x y : Nat} (h : P (if b = true then x else y)) (hb : b = true) : P x := by rw [if_pos hb] at h; exact h
theorem x_el {P : Nat → Prop} {b : Bool} {x y : Nat} (h : P (if b = true then x else y)) (hb : ¬ b = true) : P y := by rw [if_neg hb] at h; exact h
set_option maxHeartbeats 4000000 in
set_option maxRecDepth 100000 in
/-- a simple instruction, on the machine -/
theorem xs_sound {D : va_G} {K : xTy} {b scr : Nat} {sc : xSc} {C0 S0 mi d g pc : Nat} {r : xRow} {ls : xL} {st : List Value} {A : List xC} {q : xN} {H : Heap} {locs : List Loc} {cells slots : Nat} {la : Array Slot}
    (cx : xcx D K b scr sc mi p s m args meth c) (hok : xok mi pc r = true)
    (hs : xs sc (xme mi).2.2.1 d g r pc ls st A = some q) (hl : lv_has la (xme mi).2.2.1 (ls.map (xtv b scr))) (hw : xwd D K b scr s C0 S0 A g H locs cells slots)
    (hR : q.2.2.2.length + g ≤ C0 + R.cells ∧ xsn (q.2.2.2, g) ≤ S0 + R.slots) (hd : d ≤ R.frames ∧ 64 * d ≤ R.locals)
    (k : ∀ (la' : Array Slot) (H' : Heap) (locs' : List Loc) (cells' slots' : Nat), lv_has la' (xme mi).2.2.1 (q.2.1.map (xtv b scr)) → xwd D K b scr s C0 S0 q.2.2.2 g H' locs' cells' slots' → W p l e R s m args below meth c H' locs' cells' slots' Q (F0 m q.1 la' (q.2.2.1.map (xv b scr)))) :
    W p l e R s m args below meth c H locs cells slots Q (F0 m pc la (st.map (xv b scr))) := by
  obtain ⟨hx, hb, hml, hown, hts, hK, hX, hsb, hbs, hnm, hrt, hlk, hex⟩ := id cx
  obtain ⟨w1, w2, w3, w4, w5, hP, hS⟩ := id hw
  have hbA : ¬ (fun q : Nat => b ≤ q) scr := Nat.not_le.mpr hsb
  have hscr : scr < s.heap.size := Nat.lt_of_lt_of_le hsb hbs
  have hD := xw_D K b scr A
  have hne : ∀ {a : Nat} {e0 : xC}, A[a]? = some e0 → ¬ a = xscr := fun {a} {e0} ha h9 => by
    have := (List.getElem?_eq_some_iff.mp ha).1
    rw [h9] at this
    simp only [xscr] at this
    omega
  obtain ⟨i, len, r1, r2, r3, rv, rk, sw⟩ := r
  simp only [xok, Bool.and_eq_true, decide_eq_true_eq] at hok
  obtain ⟨hdec, hlen, hok⟩ := hok
  cases i with
  | iconst v =>
    simp only [xlen, Bool.or_eq_true, beq_iff_eq] at hlen
    obtain rfl : len = 1 := by omega
    simp only [xokI, decide_eq_true_eq] at hok
    cases hs
    exact lv_iconst hx hb hdec hok (k _ _ _ _ _ hl hw)
  | bipush v =>
    simp only [xlen, Bool.or_eq_true, beq_iff_eq] at hlen
    obtain rfl : len = 2 := by omega
    simp only [xokI, decide_eq_true_eq] at hok
    cases hs
    exact lv_bipush hx hb hdec hok (k _ _ _ _ _ hl hw)
  | sipush v =>
    simp only [xlen, Bool.or_eq_true, beq_iff_eq] at hlen
    obtain rfl : len = 3 := by omega
    simp only [xokI, decide_eq_true_eq] at hok
    cases hs
    exact lv_sipush hx hb hdec hok (k _ _ _ _ _ hl hw)
  | lconst v =>
    simp only [xlen, Bool.or_eq_true, beq_iff_eq] at hlen
    obtain rfl : len = 1 := by omega
    cases hs
    exact lv_lconst hx hb hdec rfl (k _ _ _ _ _ hl hw)
  | ldc2_w ix =>
    simp only [xlen, Bool.or_eq_true, beq_iff_eq] at hlen
    obtain rfl : len = 3 := by omega
    simp only [xokI] at hok
    cases hs
    exact lv_ldc2 hx hb hown (hts _ (xhas_in hok)) hdec (k _ _ _ _ _ hl hw)
  | iload ix =>
    simp only [xlen, Bool.or_eq_true, beq_iff_eq] at hlen
    obtain rfl : len = 2 := by omega
    simp only [xs, xlki] at hs
    split at hs
    · rename_i x hx1
      cases hs
      exact lv_iload hx hb hdec (xhas_lk hl hx1) (k _ _ _ _ _ hl hw)
    · cases hs
  | iload_n ix =>
    simp only [xlen, Bool.or_eq_true, beq_iff_eq] at hlen
    obtain rfl : len = 1 := by omega
    simp only [xs, xlki] at hs
    split at hs
    · rename_i x hx1
      cases hs
      exact lv_iload_n hx hb hdec rfl (xhas_lk hl hx1) (k _ _ _ _ _ hl hw)
    · cases hs
  | lload ix =>
    simp only [xlen, Bool.or_eq_true, beq_iff_eq] at hlen
    obtain rfl : len = 2 := by omega
    simp only [xs, xlkl] at hs
    split at hs
    · rename_i x hx1
      cases hs
      exact lv_lload hx hb hdec (xhas_lk hl hx1) (k _ _ _ _ _ hl hw)
    · cases hs
  | lload_n ix =>
    simp only [xlen, Bool.or_eq_true, beq_iff_eq] at hlen
    obtain rfl : len = 1 := by omega
    simp only [xs, xlkl] at hs
    split at hs
    · rename_i x hx1
      cases hs
      exact lv_lload_n hx hb hdec rfl (xhas_lk hl hx1) (k _ _ _ _ _ hl hw)
    · cases hs
  | aload ix =>
    simp only [xlen, Bool.or_eq_true, beq_iff_eq] at hlen
    obtain rfl : len = 2 := by omega
    simp only [xs, xlka] at hs
    split at hs
    · rename_i x hx1
      cases hs
      exact lv_aload hx hb hdec (xhas_lk hl hx1) (k _ _ _ _ _ hl hw)
    · cases hs
  | aload_n ix =>
    simp only [xlen, Bool.or_eq_true, beq_iff_eq] at hlen
    obtain rfl : len = 1 := by omega
    simp only [xs, xlka] at hs
    split at hs
    · rename_i x hx1
      cases hs
      exact lv_aload_n hx hb hdec rfl (xhas_lk hl hx1) (k _ _ _ _ _ hl hw)
    · cases hs
  | istore ix =>
    simp only [xlen, Bool.or_eq_true, beq_iff_eq] at hlen
    obtain rfl : len = 2 := by omega
    simp only [xs, xi1] at hs
    split at hs
    · split at hs
      · rename_i hlt
        cases hs
        exact lv_istore hx hb hdec hl hlt rfl (fun la2 hl2 => k _ _ _ _ _ (lv_has_mono hl2 xst1_sub) hw)
      · cases hs
    · cases hs
  | istore_n ix =>
    simp only [xlen, Bool.or_eq_true, beq_iff_eq] at hlen
    obtain rfl : len = 1 := by omega
    simp only [xs, xi1] at hs
    split at hs
    · split at hs
      · rename_i hlt
        cases hs
        exact lv_istore_n hx hb hdec rfl hl hlt rfl (fun la2 hl2 => k _ _ _ _ _ (lv_has_mono hl2 xst1_sub) hw)
      · cases hs
    · cases hs
  | lstore ix =>
    simp only [xlen, Bool.or_eq_true, beq_iff_eq] at hlen
    obtain rfl : len = 2 := by omega
    simp only [xs, xl1] at hs
    split at hs
    · split at hs
      · rename_i hlt
        cases hs
        exact lv_lstore hx hb hdec hl hlt rfl (fun la2 hl2 => k _ _ _ _ _ (lv_has_mono hl2 xst2_sub) hw)
      · cases hs
    · cases hs
  | lstore_n ix =>
    simp only [xlen, Bool.or_eq_true, beq_iff_eq] at hlen
    obtain rfl : len = 1 := by omega
    simp only [xs, xl1] at hs
    split at hs
    · split at hs
      · rename_i hlt
        cases hs
        exact lv_lstore_n hx hb hdec rfl hl hlt rfl (fun la2 hl2 => k _ _ _ _ _ (lv_has_mono hl2 xst2_sub) hw)
      · cases hs
    · cases hs
  | astore ix =>
    simp only [xlen, Bool.or_eq_true, beq_iff_eq] at hlen
    obtain rfl : len = 2 := by omega
    simp only [xs, xr1] at hs
    split at hs
    · split at hs
      · rename_i hlt
        cases hs
        exact lv_astore hx hb hdec hl hlt rfl (fun la2 hl2 => k _ _ _ _ _ (lv_has_mono hl2 xst1_sub) hw)
      · cases hs
    · cases hs
  | astore_n ix =>
    simp only [xlen, Bool.or_eq_true, beq_iff_eq] at hlen
    obtain rfl : len = 1 := by omega
    simp only [xs, xr1] at hs
    split at hs
    · split at hs
      · rename_i hlt
        cases hs
        exact lv_astore_n hx hb hdec rfl hl hlt rfl (fun la2 hl2 => k _ _ _ _ _ (lv_has_mono hl2 xst1_sub) hw)
      · cases hs
    · cases hs
  | iinc ix v =>
    simp only [xlen, Bool.or_eq_true, beq_iff_eq] at hlen
    obtain rfl : len = 3 := by omega
    simp only [xokI, decide_eq_true_eq] at hok
    simp only [xs, xlki] at hs
    split at hs
    · rename_i x hx1
      split at hs
      · rename_i hlt
        cases hs
        obtain ⟨kp, hkp⟩ := List.getElem?_of_mem (List.mem_map.mpr ⟨(ix, Value.int x), xlk_mem hx1, rfl⟩ : xtv b scr (ix, Value.int x) ∈ ls.map (xtv b scr))
        exact lv_iinc hx hb hdec hl hkp (by rw [hok]) hlt rfl (fun la2 hl2 => k _ _ _ _ _ (lv_has_mono hl2 xst1_sub) hw)
      · cases hs
    · cases hs
  | dup =>
    simp only [xlen, Bool.or_eq_true, beq_iff_eq] at hlen
    obtain rfl : len = 1 := by omega
    simp only [xs] at hs
    split at hs
    · split at hs
      · rename_i hc1
        cases hs
        exact lv_dup hx hb hdec (by rw [xv_cat]; exact hc1) (k _ _ _ _ _ hl hw)
      · cases hs
    · cases hs
  | pop =>
    simp only [xlen, Bool.or_eq_true, beq_iff_eq] at hlen
    obtain rfl : len = 1 := by omega
    simp only [xs] at hs
    split at hs
    · split at hs
      · rename_i hc1
        cases hs
        exact lv_pop hx hb hdec (by rw [xv_cat]; exact hc1) (k _ _ _ _ _ hl hw)
      · cases hs
    · cases hs
  | dup2 =>
    simp only [xlen, Bool.or_eq_true, beq_iff_eq] at hlen
    obtain rfl : len = 1 := by omega
    simp only [xs] at hs
    split at hs
    · split at hs
      · rename_i hc1
        split at hs
        · rename_i hc2
          cases hs
          exact lv_dup2_11 hx hb hdec (by rw [xv_cat]; exact hc1) (by rw [xv_cat]; exact hc2) (k _ _ _ _ _ hl hw)
        · cases hs
      · cases hs
    · cases hs
  | iadd =>
    simp only [xlen, Bool.or_eq_true, beq_iff_eq] at hlen
    obtain rfl : len = 1 := by omega
    simp only [xs, xi2] at hs
    split at hs
    · cases hs
      exact lv_iadd hx hb hdec (k _ _ _ _ _ hl hw)
    · cases hs
  | isub =>
    simp only [xlen, Bool.or_eq_true, beq_iff_eq] at hlen
    obtain rfl : len = 1 := by omega
    simp only [xs, xi2] at hs
    split at hs
    · cases hs
      exact lv_isub hx hb hdec (k _ _ _ _ _ hl hw)
    · cases hs
  | imul =>
    simp only [xlen, Bool.or_eq_true, beq_iff_eq] at hlen
    obtain rfl : len = 1 := by omega
    simp only [xs, xi2] at hs
    split at hs
    · cases hs
      exact lv_imul hx hb hdec (k _ _ _ _ _ hl hw)
    · cases hs
  | iand =>
    simp only [xlen, Bool.or_eq_true, beq_iff_eq] at hlen
    obtain rfl : len = 1 := by omega
    simp only [xs, xi2] at hs
    split at hs
    · cases hs
      exact lv_iand hx hb hdec (k _ _ _ _ _ hl hw)
    · cases hs
  | ladd =>
    simp only [xlen, Bool.or_eq_true, beq_iff_eq] at hlen
    obtain rfl : len = 1 := by omega
    simp only [xs, xl2] at hs
    split at hs
    · cases hs
      exact lv_ladd hx hb hdec (k _ _ _ _ _ hl hw)
    · cases hs
  | lsub =>
    simp only [xlen, Bool.or_eq_true, beq_iff_eq] at hlen
    obtain rfl : len = 1 := by omega
    simp only [xs, xl2] at hs
    split at hs
    · cases hs
      exact lv_lsub hx hb hdec (k _ _ _ _ _ hl hw)
    · cases hs
  | lmul =>
    simp only [xlen, Bool.or_eq_true, beq_iff_eq] at hlen
    obtain rfl : len = 1 := by omega
    simp only [xs, xl2] at hs
    split at hs
    · cases hs
      exact lv_lmul hx hb hdec (k _ _ _ _ _ hl hw)
    · cases hs
  | land =>
    simp only [xlen, Bool.or_eq_true, beq_iff_eq] at hlen
    obtain rfl : len = 1 := by omega
    simp only [xs, xl2] at hs
    split at hs
    · cases hs
      exact lv_land hx hb hdec (k _ _ _ _ _ hl hw)
    · cases hs
  | lor =>
    simp only [xlen, Bool.or_eq_true, beq_iff_eq] at hlen
    obtain rfl : len = 1 := by omega
    simp only [xs, xl2] at hs
    split at hs
    · cases hs
      exact lv_lor hx hb hdec (k _ _ _ _ _ hl hw)
    · cases hs
  | irem =>
    simp only [xlen, Bool.or_eq_true, beq_iff_eq] at hlen
    obtain rfl : len = 1 := by omega
    simp only [xs, xi2] at hs
    split at hs
    · split at hs
      · cases hs
      · rename_i hy
        cases hs
        exact lv_irem hx hb hdec hy (k _ _ _ _ _ hl hw)
    · cases hs
  | ldiv =>
    simp only [xlen, Bool.or_eq_true, beq_iff_eq] at hlen
    obtain rfl : len = 1 := by omega
    simp only [xs, xl2] at hs
    split at hs
    · split at hs
      · cases hs
      · rename_i hy
        cases hs
        exact lv_ldiv hx hb hdec hy (k _ _ _ _ _ hl hw)
    · cases hs
  | lrem =>
    simp only [xlen, Bool.or_eq_true, beq_iff_eq] at hlen
    obtain rfl : len = 1 := by omega
    simp only [xs, xl2] at hs
    split at hs
    · split at hs
      · cases hs
      · rename_i hy
        cases hs
        exact lv_lrem hx hb hdec hy (k _ _ _ _ _ hl hw)
    · cases hs
  | ineg =>
    simp only [xlen, Bool.or_eq_true, beq_iff_eq] at hlen
    obtain rfl : len = 1 := by omega
    simp only [xs, xi1] at hs
    split at hs
    · cases hs
      exact lv_ineg hx hb hdec (k _ _ _ _ _ hl hw)
    · cases hs
  | lneg =>
    simp only [xlen, Bool.or_eq_true, beq_iff_eq] at hlen
    obtain rfl : len = 1 := by omega
    simp only [xs, xl1] at hs
    split at hs
    · cases hs
      exact lv_lneg hx hb hdec (k _ _ _ _ _ hl hw)
    · cases hs
  | lshl =>
    simp only [xlen, Bool.or_eq_true, beq_iff_eq] at hlen
    obtain rfl : len = 1 := by omega
    simp only [xs, xli] at hs
    split at hs
    · cases hs
      exact lv_lshl hx hb hdec rfl (k _ _ _ _ _ hl hw)
    · cases hs
  | lushr =>
    simp only [xlen, Bool.or_eq_true, beq_iff_eq] at hlen
    obtain rfl : len = 1 := by omega
    simp only [xs, xli] at hs
    split at hs
    · cases hs
      exact lv_lushr hx hb hdec rfl (k _ _ _ _ _ hl hw)
    · cases hs
  | i2l =>
    simp only [xlen, Bool.or_eq_true, beq_iff_eq] at hlen
    obtain rfl : len = 1 := by omega
    simp only [xs, xi1] at hs
    split at hs
    · cases hs
      exact lv_i2l hx hb hdec rfl (k _ _ _ _ _ hl hw)
    · cases hs
  | l2i =>
    simp only [xlen, Bool.or_eq_true, beq_iff_eq] at hlen
    obtain rfl : len = 1 := by omega
    simp only [xs, xl1] at hs
    split at hs
    · cases hs
      exact lv_l2i hx hb hdec rfl (k _ _ _ _ _ hl hw)
    · cases hs
  | i2c =>
    simp only [xlen, Bool.or_eq_true, beq_iff_eq] at hlen
    obtain rfl : len = 1 := by omega
    simp only [xs, xi1] at hs
    split at hs
    · cases hs
      exact lv_i2c hx hb hdec rfl (k _ _ _ _ _ hl hw)
    · cases hs
  | lcmp =>
    simp only [xlen, Bool.or_eq_true, beq_iff_eq] at hlen
    obtain rfl : len = 1 := by omega
    simp only [xs, xl2] at hs
    split at hs
    · cases hs
      exact W.lcmp hx hb hdec (k _ _ _ _ _ hl hw)
    · cases hs
  | goto o =>
    simp only [xlen, Bool.or_eq_true, beq_iff_eq] at hlen
    obtain rfl : len = 3 := by omega
    simp only [xokI, decide_eq_true_eq] at hok
    cases hs
    exact lv_goto hx hb hdec hok (k _ _ _ _ _ hl hw)
  | ifCond kc o =>
    simp only [xlen, Bool.or_eq_true, beq_iff_eq] at hlen
    obtain rfl : len = 3 := by omega
    simp only [xokI, decide_eq_true_eq] at hok
    simp only [xs, xi1] at hs
    split at hs
    · cases hs
      have kk := k _ _ _ _ _ hl hw
      cases kc with
      | eq => exact lv_if_eq hx hb hdec hok (fun h => x_if (P := fun z => W p l e R s m args below meth c H locs cells slots Q (F0 m z la _)) kk (decide_eq_true h)) (fun h => x_el (P := fun z => W p l e R s m args below meth c H locs cells slots Q (F0 m z la _)) kk (fun z => h (of_decide_eq_true z)))
      | ne => exact lv_if_ne hx hb hdec hok (fun h => x_if (P := fun z => W p l e R s m args below meth c H locs cells slots Q (F0 m z la _)) kk (decide_eq_true h)) (fun h => x_el (P := fun z => W p l e R s m args below meth c H locs cells slots Q (F0 m z la _)) kk (fun z => of_decide_eq_true z h))
      | lt => exact lv_if_lt hx hb hdec hok (fun h => x_if (P := fun z => W p l e R s m args below meth c H locs cells slots Q (F0 m z la _)) kk (decide_eq_true h)) (fun h => x_el (P := fun z => W p l e R s m args below meth c H locs cells slots Q (F0 m z la _)) kk (fun z => h (of_decide_eq_true z)))
      | ge => exact lv_if_ge hx hb hdec hok (fun h => x_if (P := fun z => W p l e R s m args below meth c H locs cells slots Q (F0 m z la _)) kk (decide_eq_true h)) (fun h => x_el (P := fun z => W p l e R s m args below meth c H locs cells slots Q (F0 m z la _)) kk (fun z => h (of_decide_eq_true z)))
      | gt => exact lv_if_gt hx hb hdec hok (fun h => x_if (P := fun z => W p l e R s m args below meth c H locs cells slots Q (F0 m z la _)) kk (decide_eq_true h)) (fun h => x_el (P := fun z => W p l e R s m args below meth c H locs cells slots Q (F0 m z la _)) kk (fun z => h (of_decide_eq_true z)))
      | le => exact lv_if_le hx hb hdec hok (fun h => x_if (P := fun z => W p l e R s m args below meth c H locs cells slots Q (F0 m z la _)) kk (decide_eq_true h)) (fun h => x_el (P := fun z => W p l e R s m args below meth c H locs cells slots Q (F0 m z la _)) kk (fun z => h (of_decide_eq_true z)))
    · cases hs
  | if_icmp kc o =>
    simp only [xlen, Bool.or_eq_true, beq_iff_eq] at hlen
    obtain rfl : len = 3 := by omega
    simp only [xokI, decide_eq_true_eq] at hok
    simp only [xs, xi2] at hs
    split at hs
    · cases hs
      have kk := k _ _ _ _ _ hl hw
      cases kc with
      | eq => exact lv_icmp_eq hx hb hdec hok (fun h => x_if (P := fun z => W p l e R s m args below meth c H locs cells slots Q (F0 m z la _)) kk (decide_eq_true h)) (fun h => x_el (P := fun z => W p l e R s m args below meth c H locs cells slots Q (F0 m z la _)) kk (fun z => h (of_decide_eq_true z)))
      | ne => exact lv_icmp_ne hx hb hdec hok (fun h => x_if (P := fun z => W p l e R s m args below meth c H locs cells slots Q (F0 m z la _)) kk (decide_eq_true h)) (fun h => x_el (P := fun z => W p l e R s m args below meth c H locs cells slots Q (F0 m z la _)) kk (fun z => of_decide_eq_true z h))
      | lt => exact lv_icmp_lt hx hb hdec hok (fun h => x_if (P := fun z => W p l e R s m args below meth c H locs cells slots Q (F0 m z la _)) kk (decide_eq_true h)) (fun h => x_el (P := fun z => W p l e R s m args below meth c H locs cells slots Q (F0 m z la _)) kk (fun z => h (of_decide_eq_true z)))
      | ge => exact lv_icmp_ge hx hb hdec hok (fun h => x_if (P := fun z => W p l e R s m args below meth c H locs cells slots Q (F0 m z la _)) kk (decide_eq_true h)) (fun h => x_el (P := fun z => W p l e R s m args below meth c H locs cells slots Q (F0 m z la _)) kk (fun z => h (of_decide_eq_true z)))
      | gt => exact lv_icmp_gt hx hb hdec hok (fun h => x_if (P := fun z => W p l e R s m args below meth c H locs cells slots Q (F0 m z la _)) kk (decide_eq_true h)) (fun h => x_el (P := fun z => W p l e R s m args below meth c H locs cells slots Q (F0 m z la _)) kk (fun z => h (of_decide_eq_true z)))
      | le => exact lv_icmp_le hx hb hdec hok (fun h => x_if (P := fun z => W p l e R s m args below meth c H locs cells slots Q (F0 m z la _)) kk (decide_eq_true h)) (fun h => x_el (P := fun z => W p l e R s m args below meth c H locs cells slots Q (F0 m z la _)) kk (fun z => h (of_decide_eq_true z)))
    · cases hs
  | tableswitch df lo hi offs =>
    simp only [xokI, Bool.and_eq_true, decide_eq_true_eq] at hok
    obtain ⟨ho1, ho2, ho3⟩ := hok
    simp only [xs, xi1] at hs
    split at hs
    · rename_i x rest
      cases hs
      have kk := k _ _ _ _ _ hl hw
      by_cases h1 : x.toInt < lo
      · exact lv_tableOut hx hb hdec (Or.inl h1) (by rw [ho1]; exact congrArg Int.ofNat (xsw_t ho3 (Or.inl h1)).symm) kk
      · by_cases h2 : hi < x.toInt
        · exact lv_tableOut hx hb hdec (Or.inr h2) (by rw [ho1]; exact congrArg Int.ofNat (xsw_t ho3 (Or.inr (by simp only [Array.length_toList]; omega))).symm) kk
        · obtain ⟨off, a1, a2⟩ := xsw_i (d := r1) ho3 h1 (by simp only [Array.length_toList]; omega)
          exact lv_tableIn hx hb hdec h1 h2 (by rw [← Array.getElem?_toList]; exact a1) a2 kk
    · cases hs
  | lookupswitch df ps =>
    simp only [xokI, Bool.and_eq_true, decide_eq_true_eq] at hok
    obtain ⟨ho1, ho2, ho3⟩ := hok
    simp only [xs, xi1] at hs
    split at hs
    · rename_i x rest
      cases hs
      exact lv_lookup hx hb hdec ho2 rfl (xsw_p ho1 ho3) (k _ _ _ _ _ hl hw)
    · cases hs
  | getfield ix =>
    simp only [xlen, Bool.or_eq_true, beq_iff_eq] at hlen
    obtain rfl : len = 3 := by omega
    simp only [xokI, xfok, Bool.and_eq_true, decide_eq_true_eq] at hok
    obtain ⟨ho1, ho2, ho3, ho4⟩ := hok
    simp only [xs, xr1] at hs
    split at hs
    · rename_i a rest
      simp only [xob] at hs
      split at hs
      · rename_i cj fs hA
        split at hs
        · rename_i hcj
          subst hcj
          split at hs
          · rename_i v hv
            cases hs
            have he := xw_at (K := K) (b := b) (scr := scr) hA
            have kk := k _ _ _ _ _ hl hw
            have ha : (if a = xscr then scr else b + a) = b + a := if_neg (hne hA)
            show W p l e R s m args below meth c H locs cells slots Q (F0 m pc la (.ref (if a = xscr then scr else b + a) :: rest.map (xv b scr)))
            rw [ha]
            exact va_get (D := D) (C := (xcl cj).1) (T := (xcl cj).2.1) (N := (xcl cj).2.2) hx hb hts (xin_ws _ ho1) hown hK hP a he (xcl_get ho1) r2 ho2 (hts _ (xhas_in ho3)) (fun y hy => by rw [ho4] at hy; exact hy) (by rw [List.getElem?_map, hv]; rfl) hdec kk
          · cases hs
        · cases hs
      · cases hs
    · cases hs
  | putfield ix =>
    simp only [xlen, Bool.or_eq_true, beq_iff_eq] at hlen
    obtain rfl : len = 3 := by omega
    simp only [xokI, xfok, Bool.and_eq_true, decide_eq_true_eq] at hok
    obtain ⟨⟨ho1, ho2, ho3, ho4⟩, ho5⟩ := hok
    simp only [xs] at hs
    split at hs
    · rename_i v a rest
      simp only [xob] at hs
      split at hs
      · rename_i cj fs hA
        split at hs
        · rename_i hcj
          subst hcj
          split at hs
          · rename_i hfl
            split at hs
            · rename_i hfit
              cases hs
              have he := xw_at (K := K) (b := b) (scr := scr) hA
              have ha : (if a = xscr then scr else b + a) = b + a := if_neg (hne hA)
              show W p l e R s m args below meth c H locs cells slots Q (F0 m pc la (xv b scr v :: .ref (if a = xscr then scr else b + a) :: rest.map (xv b scr)))
              rw [ha]
              obtain ⟨hn1, hn2⟩ := xfit_n (b := b) (scr := scr) hfit
              have hset : (fs.map (xv b scr)).set r2 (xv b scr v) = (fs.set r2 v).map (xv b scr) := (List.map_set ..).symm
              cases hfin : ((xcl cj).2.1 r2).2.2.2 with
              | false =>
                refine va_put (D := D) (A := fun q => b ≤ q) (H0 := H) (C := (xcl cj).1) (T := (xcl cj).2.1) (N := (xcl cj).2.2) hx hb hts (xin_ws _ ho1) (xtyf cj) (xty_ok _ ho1) (xnm_ok _ ho1) hown hK hP hD hS.again a he (xcl_get ho1) r2 ho2 (hts _ (xhas_in ho3)) (fun y hy => by rw [ho4] at hy; exact hy) hfin (xty_ok _ ho1 r2 ho2) hn1 hn2 (by rw [List.length_map]; exact hfl) hdec (fun H1 locs1 hP1 hD1 hS1 => x_sized fun hz => ?_)
                rw [hset] at hP1
                exact k _ _ _ _ _ hl (xwd_set (e1 := .inr (cj, fs.set r2 v)) hw hA (by simp [xsz]) hz hP1 hS1)
              | true =>
                simp only [xfin, hfin, if_true, Bool.and_eq_true, decide_eq_true_eq] at ho5
                refine va_putF (D := D) (A := fun q => b ≤ q) (H0 := H) (C := (xcl cj).1) (T := (xcl cj).2.1) (N := (xcl cj).2.2) hx hb hts (xin_ws _ ho1) (xtyf cj) (xty_ok _ ho1) (xnm_ok _ ho1) hown hK hP hD hS.again a he (xcl_get ho1) r2 ho2 (hts _ (xhas_in ho3)) (fun y hy => by rw [ho4] at hy; exact hy) hfin (by rw [hnm]; exact ho5.1) (by rw [ho4]; exact ho5.2) (xty_ok _ ho1 r2 ho2) hn1 hn2 (by rw [List.length_map]; exact hfl) hdec (fun H1 locs1 hP1 hD1 hS1 => x_sized fun hz => ?_)
                rw [hset] at hP1
                exact k _ _ _ _ _ hl (xwd_set (e1 := .inr (cj, fs.set r2 v)) hw hA (by simp [xsz]) hz hP1 hS1)
            · cases hs
          · cases hs
        · cases hs
      · cases hs
    · cases hs
  | arraylength =>
    simp only [xlen, Bool.or_eq_true, beq_iff_eq] at hlen
    obtain rfl : len = 1 := by omega
    simp only [xs, xr1] at hs
    split at hs
    · rename_i a rest
      split at hs
      · rename_i ha
        cases hs
        show W p l e R s m args below meth c H locs cells slots Q (F0 m pc la (.ref (if a = xscr then scr else b + a) :: rest.map (xv b scr)))
        rw [if_pos ha]
        exact va_slen hx hb hX hscr hbA hS hdec (k _ _ _ _ _ hl hw)
      · split at hs
        · rename_i hna ty n f hA
          cases hs
          have he := xw_at (K := K) (b := b) (scr := scr) hA
          show W p l e R s m args below meth c H locs cells slots Q (F0 m pc la (.ref (if a = xscr then scr else b + a) :: rest.map (xv b scr)))
          rw [if_neg (hne hA)]
          have kk := k _ _ _ _ _ hl hw
          cases ty with
          | int => exact va_alen hx hb hK hP a 0 he rfl rfl hdec kk
          | long => exact va_alen hx hb hK hP a 1 he rfl rfl hdec kk
          | _ => exact va_alen (ty := .char) hx hb hK hP a 2 he rfl rfl hdec kk
        · cases hs
    · cases hs
  | iaload =>
    simp only [xlen, Bool.or_eq_true, beq_iff_eq] at hlen
    obtain rfl : len = 1 := by omega
    simp only [xs, xri] at hs
    split at hs
    · rename_i j a rest
      split at hs
      · rename_i ha
        split at hs
        · rename_i hin
          cases hs
          show W p l e R s m args below meth c H locs cells slots Q (F0 m pc la (.int j :: .ref (if a = xscr then scr else b + a) :: rest.map (xv b scr)))
          rw [if_pos ha]
          exact va_sld hx hb hX hscr hbA hS (xib_in hin) hdec (k _ _ _ _ _ hl hw)
        · cases hs
      · rename_i hna
        simp only [xarI] at hs
        split at hs
        · rename_i ty n f hA
          split at hs
          · rename_i hty
            subst hty
            split at hs
            · rename_i hin
              cases hs
              have he := xw_at (K := K) (b := b) (scr := scr) hA
              show W p l e R s m args below meth c H locs cells slots Q (F0 m pc la (.int j :: .ref (if a = xscr then scr else b + a) :: rest.map (xv b scr)))
              rw [if_neg (hne hA)]
              exact va_iald hx hb hK hP a 0 he rfl (xib_in hin) hdec (k _ _ _ _ _ hl hw)
            · cases hs
          · cases hs
        · cases hs
    · cases hs
  | caload =>
    simp only [xlen, Bool.or_eq_true, beq_iff_eq] at hlen
    obtain rfl : len = 1 := by omega
    simp only [xs, xri] at hs
    split at hs
    · rename_i j a rest
      simp only [xarI] at hs
      split at hs
      · rename_i ty n f hA
        split at hs
        · rename_i hty
          subst hty
          split at hs
          · rename_i hin
            cases hs
            have he := xw_at (K := K) (b := b) (scr := scr) hA
            show W p l e R s m args below meth c H locs cells slots Q (F0 m pc la (.int j :: .ref (if a = xscr then scr else b + a) :: rest.map (xv b scr)))
            rw [if_neg (hne hA)]
            exact va_cald hx hb hK hP a 2 he rfl (xib_in hin) hdec (k _ _ _ _ _ hl hw)
          · cases hs
        · cases hs
      · cases hs
    · cases hs
  | laload =>
    simp only [xlen, Bool.or_eq_true, beq_iff_eq] at hlen
    obtain rfl : len = 1 := by omega
    simp only [xs, xri] at hs
    split at hs
    · rename_i j a rest
      simp only [xarL] at hs
      split at hs
      · rename_i ty n f hA
        split at hs
        · rename_i hty
          subst hty
          split at hs
          · rename_i hin
            cases hs
            have he := xw_at (K := K) (b := b) (scr := scr) hA
            show W p l e R s m args below meth c H locs cells slots Q (F0 m pc la (.int j :: .ref (if a = xscr then scr else b + a) :: rest.map (xv b scr)))
            rw [if_neg (hne hA)]
            exact va_lald hx hb hK hP a 1 he rfl (xib_in hin) hdec (k _ _ _ _ _ hl hw)
          · cases hs
        · cases hs
      · cases hs
    · cases hs
  | iastore =>
    simp only [xlen, Bool.or_eq_true, beq_iff_eq] at hlen
    obtain rfl : len = 1 := by omega
    simp only [xs, xi1, xri] at hs
    split at hs
    · rename_i x rest0
      split at hs
      · rename_i j a rest
        simp only [xarI] at hs
        split at hs
        · rename_i ty n f hA
          split at hs
          · rename_i hty
            subst hty
            split at hs
            · rename_i hin
              cases hs
              have he := xw_at (K := K) (b := b) (scr := scr) hA
              show W p l e R s m args below meth c H locs cells slots Q (F0 m pc la (.int x :: .int j :: .ref (if a = xscr then scr else b + a) :: rest.map (xv b scr)))
              rw [if_neg (hne hA)]
              refine va_iast (A := fun q => b ≤ q) (H0 := H) hx hb hK hP hD hS.again a 0 he rfl (xib_in hin) hdec (fun H1 locs1 hP1 hD1 hS1 => x_sized fun hz => ?_)
              exact k _ _ _ _ _ hl (xwd_set (e1 := .inl (.int, n, .inl (upd f j.toNatClampNeg x))) hw hA rfl hz hP1 hS1)
            · cases hs
          · cases hs
        · cases hs
      · cases hs
    · cases hs
  | castore =>
    simp only [xlen, Bool.or_eq_true, beq_iff_eq] at hlen
    obtain rfl : len = 1 := by omega
    simp only [xs, xi1, xri] at hs
    split at hs
    · rename_i x rest0
      split at hs
      · rename_i j a rest
        simp only [xarI] at hs
        split at hs
        · rename_i ty n f hA
          split at hs
          · rename_i hty
            subst hty
            split at hs
            · rename_i hin
              cases hs
              have he := xw_at (K := K) (b := b) (scr := scr) hA
              show W p l e R s m args below meth c H locs cells slots Q (F0 m pc la (.int x :: .int j :: .ref (if a = xscr then scr else b + a) :: rest.map (xv b scr)))
              rw [if_neg (hne hA)]
              refine va_cast (A := fun q => b ≤ q) (H0 := H) hx hb hK hP hD hS.again a 2 he rfl (xib_in hin) hdec (fun H1 locs1 hP1 hD1 hS1 => x_sized fun hz => ?_)
              exact k _ _ _ _ _ hl (xwd_set (e1 := .inl (.char, n, .inl (upd f j.toNatClampNeg (vp_nar .char x)))) hw hA rfl hz hP1 hS1)
            · cases hs
          · cases hs
        · cases hs
      · cases hs
    · cases hs
  | lastore =>
    simp only [xlen, Bool.or_eq_true, beq_iff_eq] at hlen
    obtain rfl : len = 1 := by omega
    simp only [xs, xl1, xri] at hs
    split at hs
    · rename_i x rest0
      split at hs
      · rename_i j a rest
        simp only [xarL] at hs
        split at hs
        · rename_i ty n f hA
          split at hs
          · rename_i hty
            subst hty
            split at hs
            · rename_i hin
              cases hs
              have he := xw_at (K := K) (b := b) (scr := scr) hA
              show W p l e R s m args below meth c H locs cells slots Q (F0 m pc la (.long x :: .int j :: .ref (if a = xscr then scr else b + a) :: rest.map (xv b scr)))
              rw [if_neg (hne hA)]
              refine va_last (A := fun q => b ≤ q) (H0 := H) hx hb hK hP hD hS.again a 1 he rfl (xib_in hin) hdec (fun H1 locs1 hP1 hD1 hS1 => x_sized fun hz => ?_)
              exact k _ _ _ _ _ hl (xwd_set (e1 := .inl (.long, n, .inr (.inl (vp_updL f j.toNatClampNeg x)))) hw hA rfl hz hP1 hS1)
            · cases hs
          · cases hs
        · cases hs
      · cases hs
    · cases hs
  | newarray t =>
    simp only [xlen, Bool.or_eq_true, beq_iff_eq] at hlen
    obtain rfl : len = 2 := by omega
    simp only [xokI] at hok
    simp only [xs, xi1] at hs
    split at hs
    · rename_i x rest
      split at hs
      · rename_i hg
        subst hg
        split at hs
        · rename_i hin
          split at hs
          · rename_i hA9
            split at hs
            · rename_i e1 he1
              cases hs
              simp only [xib, Bool.and_eq_true, decide_eq_true_eq] at hin
              have hnn : ¬ x < 0 := fun h => by have := Int32.lt_iff_toInt_lt.mp h; simp at this; omega
              have hcl : x.toNatClampNeg < 100000 := by have h9 : x.toNatClampNeg = x.toInt.toNat := rfl; rw [h9]; omega
              have hsz : xsz e1 = x.toNatClampNeg := by cases t <;> simp only [xnar] at he1 <;> cases he1 <;> rfl
              have hce : cells + 1 ≤ R.cells := by have := hR.1; simp only [List.length_append, List.length_singleton] at this; omega
              have hsl : slots + x.toNatClampNeg ≤ R.slots := by have := hR.2; simp only [xsn, List.map_append, List.sum_append, List.map_cons, List.map_nil, List.sum_cons, List.sum_nil, hsz] at this w3; omega
              have key : ∀ (ty : FieldType) (a0 : vp_A) (t0 : Nat), newarray.typeOf t = ty → e1 = .inl (ty, a0) → (xtl K)[t0]? = some (xk K ty, ty) → va_RA s (xk K ty) ty = (s.vm.findClass ("[" ++ ty.toString) = some (xk K ty)) → (∀ cA : ClassId, va_RA s cA ty = (s.vm.findClass ("[" ++ ty.toString) = some cA)) → (∀ cA : ClassId, vp_cell cA a0 = arrV cA x.toNatClampNeg (fun _ => defaultValue ty)) → componentBytes ty ≤ 8 → W p l e R s m args below meth c H locs cells slots Q (F0 m pc la (.int x :: rest.map (xv b scr))) := by
                intro ty a0 t0 hty he ht0 _ hra ha hcb
                subst he
                refine va_newa (A := fun q => b ≤ q) (H0 := H) hx hb (hts _ (xhas_in hok)) hty hK hP hD hS.again (fun q hq => by show b ≤ q; omega) ha hnn rfl (by have : x.toNatClampNeg * componentBytes ty ≤ 100000 * 8 := Nat.mul_le_mul (by omega) hcb; omega) hce hsl hdec (fun q cA H1 hK1 hP1 hD1 hS1 => x_sized fun hz => ?_)
                have e1 : cA = xk K ty := by
                  have z1 := (hK1.2 3 (cA, ty) rfl).2
                  have z2 := (hK.2 t0 _ ht0).2
                  rw [hra] at z1 z2
                  exact Option.some.inj (z1.symm.trans z2)
                subst e1
                obtain ⟨hq, hw1⟩ := xwd_new (e1 := .inl (ty, a0)) (n := x.toNatClampNeg) hw hA9 hsz hz hP1 hD1 hS1
                have kk := k _ _ _ _ _ hl hw1
                have h3 : xv b scr (.ref A.length) = .ref q := by rw [hq]; show Value.ref (if A.length = xscr then scr else b + A.length) = _; rw [if_neg (by simp only [xscr]; omega)]
                rw [List.map_cons, h3] at kk
                exact kk
              cases t <;> simp only [xnar] at he1 <;> cases he1
              · exact key .char _ 2 rfl rfl rfl rfl (fun _ => rfl) (fun _ => rfl) (by decide)
              · exact key .int _ 0 rfl rfl rfl rfl (fun _ => rfl) (fun _ => rfl) (by decide)
              · exact key .long _ 1 rfl rfl rfl rfl (fun _ => rfl) (fun _ => rfl) (by decide)
            · cases hs
          · cases hs
        · cases hs
      · cases hs
    · cases hs
  | new ix =>
    simp only [xlen, Bool.or_eq_true, beq_iff_eq] at hlen
    obtain rfl : len = 3 := by omega
    simp only [xs] at hs
    split at hs
    · rename_i hg
      subst hg
      split at hs
      · rename_i hA9
        split at hs
        · rename_i h8
          cases hs
          simp only [xokI, if_pos h8] at hok
          have hn : (xdfs.getD r1 []).length = (xcl r1).2.2 := xdf_len _ h8
          have hce : cells + 1 ≤ R.cells := by have := hR.1; simp only [List.length_append, List.length_singleton] at this; omega
          have hsl : slots + (xcl r1).2.2 ≤ R.slots := by have := hR.2; simp only [xsn, List.map_append, List.sum_append, List.map_cons, List.map_nil, List.sum_cons, List.sum_nil, xsz, hn] at this w3; omega
          refine va_new (A := fun q => b ≤ q) (H0 := H) (ci := r1) (fs := xdfs.getD r1 []) (C := (xcl r1).1) (T := (xcl r1).2.1) (N := (xcl r1).2.2) hx hb hts (xin_ws _ h8) (xtyf r1) (xty_ok _ h8) hown (hts _ (xhas_in hok)) (hts _ (xin_inst _ h8).1) (hts _ (xin_inst _ h8).2) hK hP hD hS.again (fun q hq => by show b ≤ q; omega) (xcl_get h8) (xdf_ok _ h8) hce hsl hdec (fun q H1 hP1 hD1 hS1 => x_sized fun hz => ?_)
          have hxe : xe K b scr (.inr (r1, xdfs.getD r1 [])) = .inr (r1, xdfs.getD r1 []) := by show Sum.inr (r1, (xdfs.getD r1 []).map (xv b scr)) = _; rw [xdf_xv (xdf_pl _ h8)]
          rw [← hxe] at hP1 hD1
          obtain ⟨hq, hw1⟩ := xwd_new (e1 := .inr (r1, xdfs.getD r1 [])) (n := (xcl r1).2.2) hw hA9 hn hz hP1 hD1 hS1
          have kk := k _ _ _ _ _ hl hw1
          have h3 : xv b scr (.ref A.length) = .ref q := by rw [hq]; show Value.ref (if A.length = xscr then scr else b + A.length) = _; rw [if_neg (by simp only [xscr]; omega)]
          rw [List.map_cons, h3] at kk
          exact kk
        · cases hs
      · cases hs
    · cases hs
  | invokespecial ix =>
    simp only [xlen, Bool.or_eq_true, beq_iff_eq] at hlen
    obtain rfl : len = 3 := by omega
    simp only [xs] at hs
    split at hs
    · rename_i h1
      subst h1
      split at hs
      · simp only [xr1] at hs
        split at hs
        · rename_i a rest
          split at hs
          · rename_i hca
            cases hs
            have ho : xhas r3 (.methodLink (xme mi).1.cls ix objectInit) = true := by simpa [xokI] using hok
            exact W.objInit hx hb hown (hts _ (xhas_in ho)) (hts _ xin_obj.1) (hts _ xin_obj.2) rfl (by rw [hml]; exact hl.1) rfl hdec (by omega) (by have hc2 : ((rest.map (xv b scr)).map fun v => v.category).sum ≤ 8 := (by rw [List.map_map]; simpa [Function.comp_def, xv_cat] using hca); show 2 * 0 + _ + 12 ≤ R.locals; omega) (k _ _ _ _ _ hl hw)
          · cases hs
        · cases hs
      · cases hs
    · cases hs
  | invokestatic ix =>
    simp only [xlen, Bool.or_eq_true, beq_iff_eq] at hlen
    obtain rfl : len = 3 := by omega
    simp only [xs] at hs
    split at hs
    · rename_i h1
      subst h1
      split at hs
      · simp only [xi2] at hs
        split at hs
        · rename_i y x rest
          split at hs
          · rename_i hca
            cases hs
            have ho : xhas r3 (.methodLink (xme mi).1.cls ix Lib.Math.max.name) = true := by simpa [xokI] using hok
            have hR1 : A.length + g ≤ C0 + R.cells := hR.1
            have hR2 : xsn (A, g) ≤ S0 + R.slots := hR.2
            exact va_mmax hx hb (by rw [hml]; exact hl.1.symm) hown (hts _ (xhas_in ho)) (hts _ xin_max.1) (hts _ xin_max.2.1) (hts _ xin_max.2.2) (by omega) (by have hc2 : ((rest.map (xv b scr)).map fun v => v.category).sum ≤ 8 := (by rw [List.map_map]; simpa [Function.comp_def, xv_cat] using hca); omega) (by omega) (by omega) hdec (k _ _ _ _ _ hl hw)
          · cases hs
        · cases hs
      · cases hs
    · cases hs
  | _ => cases hs
end XS2
end
section
section XR
variable {p : Program} {l : Launch} {e : Env} {R : Room} {s : State} {m : MethodId} {args : Array Value} {below : List Frame} {meth : Method} {c : Code} {Q : State → Prop}
theorem xw_le {A : List xC} {k : Nat} {e0 e1 : xC} (h : A[k]? = some e0) (hz : xsz e1 = xsz e0) : A.length ≤ (A.set k e1).length ∧ (A.map xsz).sum ≤ ((A.set k e1).map xsz).sum := ⟨by simp, Nat.le_of_eq (xsum_set h hz).symm⟩
set_option maxHeartbeats 4000000 in
theorem xs_mono {sc : xSc} {nL d g pc : Nat} {r : xRow} {ls : xL} {st : List Value} {A : List xC} {q : xN} (hs : xs sc nL d g r pc ls st A = some q) : A.length ≤ q.2.2.2.length ∧ (A.map xsz).sum ≤ (q.2.2.2.map xsz).sum := by
  obtain ⟨i, len, r1, r2, r3, rv, rk, sw⟩ := r
  cases i <;> first
    | (cases hs; done)
    | (cases hs; exact ⟨Nat.le_refl _, Nat.le_refl _⟩)
    | (simp only [xs, xi1, xi2, xl1, xl2, xli, xr1, xri, xlki, xlkl, xlka, xarI, xarL, xob] at hs
       repeat' (split at hs)
       all_goals first
         | (cases hs; done)
         | (cases hs; exact ⟨Nat.le_refl _, Nat.le_refl _⟩)
         | (cases hs; rename_i hA _; exact xw_le hA rfl)
         | (cases hs; rename_i hA _ _; exact xw_le hA rfl)
         | (cases hs; rename_i hA _ _ _; exact xw_le hA (by simp [xsz]))
         | (cases hs; exact ⟨by simp, by simp⟩))
theorem xr_mono (sc : xSc) : ∀ (n d mi pc : Nat) (ls : xL) (st : List Value) (h : xH) (o : xO) (h' : xH), xr sc n d mi pc ls st h = some (o, h') → xcn h ≤ xcn h' ∧ xsn h ≤ xsn h'
  | 0, _, _, _, _, _, _, _, _, hr => by cases hr
  | n + 1, d, mi, pc, ls, st, h, o, h', hr => by
    unfold xr at hr
    split at hr
    · cases hr
    · rename_i r hrow
      split at hr
      · split at hr
        · cases hr
        · rename_i q hq
          have h1 := xs_mono hq
          have h2 := xr_mono sc n _ _ _ _ _ _ _ _ hr
          simp only [xcn, xsn] at h2 ⊢
          omega
      · split at hr
        · cases hr
        · cases hr
          exact ⟨Nat.le_refl _, Nat.le_refl _⟩
      · split at hr
        · cases hr
        · rename_i d'
          split at hr
          · cases hr
          · rename_i q hq
            split at hr
            · cases hr
            · rename_i v h1 hc
              have a1 := xr_mono sc n _ _ _ _ _ _ _ _ hc
              have a2 := xr_mono sc n _ _ _ _ _ _ _ _ hr
              omega
            · rename_i ev h1 hc
              split at hr
              · cases hr
              · have a1 := xr_mono sc n _ _ _ _ _ _ _ _ hc
                have a2 := xr_mono sc n _ _ _ _ _ _ _ _ hr
                omega
      · split at hr
        · exact xr_mono sc n _ _ _ _ _ _ _ _ hr
        · cases hr
      · split at hr
        · cases hr
          simp only [xcn, xsn]
          omega
        · cases hr
theorem xargs_map (b scr : Nat) : ∀ (vs : List Value) (i : Nat), lv_args i (vs.map (xv b scr)) = (lv_args i vs).map (xtv b scr)
  | [], _ => rfl
  | v :: vs, i => by
    simp only [List.map_cons, lv_args, xv_cat, xargs_map b scr vs]
theorem xsl_map (b scr : Nat) (vs : List Value) : (lg_sl (vs.map (xv b scr))).length = (lg_sl vs).length := by
  induction vs with
  | nil => rfl
  | cons v vs ih =>
    simp only [lg_sl, List.map_cons, List.flatMap_cons, List.length_append, xv_cat] at ih ⊢
    rw [ih]
    split <;> simp
/-- what a callee is given and gives back -/
def xPc (D : va_G) (K : xTy) (b scr : Nat) (sc : xSc) (h : xH) (As : List Value) : Array Value → State → Prop := fun v U =>
  v = (As.map (xv b scr)).toArray ∧ U.heap.size = b + xcn h ∧ h.1.length ≤ 1000 ∧ va_P D xCl (xw K b scr h.1) U.heap ∧ va_K D xCl (xtl K) U ∧ va_X scr sc.1 sc.2 U U.heap ∧ scr < b ∧ xex b U
def xQc (D : va_G) (K : xTy) (b scr : Nat) (v : Option Value) (h' : xH) : Array Value → State → Outcome → State → Prop := fun _ st oc t =>
  oc = .returned (v.map (xv b scr)) ∧ t.heap.size = b + xcn h' ∧ h'.1.length ≤ 1000 ∧ va_P D xCl (xw K b scr h'.1) t.heap ∧ ∀ q, q < b → t.heap[q]? = st.heap[q]?
def xRm (d mc ms : Nat) : Room := { frames := d, cells := mc, slots := ms, locals := 64 * d }
def xws (mi : Nat) : List Cond := Cond.code (xme mi).1 (xme mi).2.1 (xme mi).2.2.1 (xme mi).2.2.2.1 :: xTb
theorem xPc_blind {D : va_G} {K : xTy} {b scr : Nat} {sc : xSc} {h : xH} {As : List Value} : FrameBlind (xPc D K b scr sc h As) := by
  intro a U g mk q
  obtain ⟨q1, q2, q3, q4, q5, q6, q7, q8⟩ := q
  exact ⟨q1, q2, q3, q4, va_K.moved (u := U) (U := U.calling g mk a) (Vm.Alike.refl U.vm) q5, va_X.moved (u := U) (U := U.calling g mk a) (Vm.Alike.refl U.vm) q6, q7, q8⟩
theorem x_call {H : Heap} {locs : List Loc} {cells slots mc ms pc : Nat} {la : Array Slot} {st0 rest : List Value} {Qa : State → Outcome → State → Prop} {free : Addr → Prop}
    (hr : va_Run p l e R s m args below meth c H locs cells slots mc ms (F0 m pc la st0) rest Qa free)
    (kk : ∀ (v : Option Value) (st₀ t : State) (L : List Loc), st₀.heap = H → (∀ q ∈ L, free q.base) → Qa st₀ (.returned v) t → W p l e R s m args below meth c t.heap (locs ++ L) (cells + mc) (slots + ms) Q (F0 m (pc + 3) la (v.toList ++ rest))) :
    W p l e R s m args below meth c H locs cells slots Q (F0 m pc la st0) := by
  intro T hT X
  obtain ⟨v, st₀, t, T', L, h1, X', h2, h3, h4, h5, h6⟩ := hr T hT X
  obtain ⟨u, a1, a2⟩ := kk v st₀ t L h1 h2 h5 T' h3 X'
  exact ⟨u, h6 u a1, a2⟩
end XR
end
section
section XM1
variable {p : Program} {l : Launch} {e : Env} {R : Room} {s : State} {m : MethodId} {args : Array Value} {below : List Frame} {meth : Method} {c : Code} {Q : State → Prop}
theorem xTb_good {w : Cond} (h : w ∈ xTb) : (w.onTables && w.keeps) = true ∨ ∃ ty, w = .arrayClass ty := good_of_word (List.mem_filter.mp h).2
theorem xws_good {mi : Nat} (hmi : mi < 214) : GoodIn xTb (xws mi) := by
  have h := xokM_of (show mi < 221 by omega)
  simp only [xokM, if_pos hmi, Bool.and_eq_true] at h
  intro w hw
  rcases List.mem_cons.mp hw with rfl | hw
  · exact ⟨xhas_in h.1, xTb_good (xhas_in h.1)⟩
  · exact ⟨hw, xTb_good hw⟩
/-- what is known of a method -/
theorem xmi_facts {mi : Nat} (hmi : mi < 221) : Cond.initialized (xme mi).1.cls ∈ xTb ∧ (xme mi).1.cls ≠ "java/lang/invoke/MethodHandle" ∧ (xme mi).1.cls ≠ "java/lang/invoke/VarHandle" ∧ plainName (xme mi).1.cls = true ∧ (xme mi).2.2.1 ≤ 40 := by
  have h := xokM_of hmi
  simp only [xokM, Bool.and_eq_true, decide_eq_true_eq] at h
  exact ⟨xhas_in h.2.2.1, h.2.2.2.1, h.2.2.2.2.1, h.2.2.2.2.2.1, h.2.2.2.2.2.2⟩
theorem xmi_static {mi : Nat} (hmi : mi < 220) (h99 : (xme mi).2.2.2.2.1 = 99) : Cond.static (xme mi).1 ∈ xTb := by
  have h := xokM_of (show mi < 221 by omega)
  simp only [xokM, if_pos h99, if_pos hmi, Bool.and_eq_true] at h
  exact xhas_in h.2.1
theorem xmi_inst {mi : Nat} (hmi : mi < 220) (h99 : (xme mi).2.2.2.2.1 ≠ 99) : Cond.instanceMethod (xme mi).1 ∈ xTb ∧ (xme mi).1.cls = (xcl (xme mi).2.2.2.2.1).1 ∧ (xme mi).2.2.2.2.1 < 8 ∧ ((xme mi).1.name ≠ "<init>" → Cond.selects (xme mi).1.cls (xme mi).1 (xme mi).1 ∈ xTb) := by
  have h := xokM_of (show mi < 221 by omega)
  simp only [xokM, if_neg h99, Bool.and_eq_true, decide_eq_true_eq] at h
  refine ⟨xhas_in h.2.1.1, h.2.1.2.1, h.2.1.2.2.1, fun hn => ?_⟩
  have h4 := h.2.1.2.2.2
  rw [if_neg hn] at h4
  exact xhas_in h4
/-- the end of a method -/
theorem xret_sound {D : va_G} {K : xTy} {b scr : Nat} {sc : xSc} {C0 S0 mi pc : Nat} {r : xRow} {st : List Value} {h : xH} {v : Option Value} {H : Heap} {locs : List Loc} {cells slots : Nat} {la : Array Slot}
    (cx : xcx D K b scr sc mi p s m args meth c) (hok : xok mi pc r = true) (hv : xret (xme mi).2.2.2.1 r.1 st = some v) (hw : xwd D K b scr s C0 S0 h.1 h.2 H locs cells slots) (hc : xcn h ≤ C0 + R.cells) (hsl : xsn h ≤ S0 + R.slots) :
    W p l e R s m args below meth c H locs cells slots (MQ below (xQc D K b scr v h) args s R.cells R.slots (fun q => b ≤ q)) (F0 m pc la (st.map (xv b scr))) := by
  obtain ⟨hx, hb, hml, hown, hts, hK, hX, hsb, hbs, hnm, hrt, hlk, hex⟩ := id cx
  obtain ⟨w1, w2, w3, w4, w5, hP, hS⟩ := id hw
  have hq : ∀ (z : Option Value) (t : State), t.heap = H → z = v.map (xv b scr) → xQc D K b scr v h args s (.returned z) t := fun z t ht hz => by
    refine ⟨by rw [hz], by rw [ht]; exact w4, w5, by rw [ht]; exact hP, fun q hq => ?_⟩
    rw [ht]
    exact hS.2.1 q (by omega) (by show ¬ b ≤ q; omega)
  have hc2 : cells ≤ R.cells := by simp only [xcn] at hc; omega
  have hs2 : slots ≤ R.slots := by
    have h9 : xsn h = xsn (h.1, h.2) := rfl
    omega
  obtain ⟨i, len, r1, r2, r3, rv, rk, sw⟩ := r
  simp only [xok, Bool.and_eq_true, decide_eq_true_eq] at hok
  obtain ⟨hdec, hlen, -⟩ := hok
  refine W.widen (k := R.cells) (n := R.slots) hc2 hs2 ?_
  unfold xret at hv
  split at hv
  · rename_i x heq
    simp only [xlen, Bool.or_eq_true, beq_iff_eq] at heq hlen
    subst heq
    simp only [xlen] at hlen
    obtain rfl : len = 1 := by omega
    split at hv
    · rename_i hty
      cases hv
      exact W.iret hx hb (by rw [hrt, hty]) (fun t ht _ => hq _ t ht rfl) hS.2.2 hdec
    · rename_i hty
      split at hv
      · rename_i h01
        cases hv
        have hn : narrow .boolean (.int x) = .int x := by
          simp only [Bool.or_eq_true, beq_iff_eq] at h01
          rcases h01 with rfl | rfl <;> rfl
        exact W.zret hx hb (by rw [hrt, hty]) hn (fun t ht _ => hq _ t ht rfl) hS.2.2 hdec
      · cases hv
    · cases hv
  · rename_i x heq
    simp only at heq
    subst heq
    simp only [xlen, Bool.or_eq_true, beq_iff_eq] at hlen
    obtain rfl : len = 1 := by omega
    split at hv
    · rename_i hty
      cases hv
      exact W.lret hx hb (by rw [hrt, hty]) (fun t ht _ => hq _ t ht rfl) hS.2.2 hdec
    · cases hv
  · rename_i heq
    simp only at heq
    subst heq
    simp only [xlen, Bool.or_eq_true, beq_iff_eq] at hlen
    obtain rfl : len = 1 := by omega
    split at hv
    · rename_i hty
      cases hv
      exact W.vret hx hb (by rw [hrt, hty]) (fun t ht _ => hq _ t ht rfl) hS.2.2 hdec
    · cases hv
  · cases hv
/-- a text's number: ldc and Packed.ofText in one -/
def xOf (l : Launch) : Prop := ∀ (sc : xSc) (p : Program) (e : Env) (R : Room) (s : State) (m : MethodId) (args : Array Value) (below : List Frame) (meth : Method) (c : Code) (Q : State → Prop) (D : va_G) (K : xTy) (b scr C0 S0 mi d pc : Nat) (r : xRow) (st : List Value) (A : List xC) (g : Nat) (H : Heap) (locs : List Loc) (cells slots : Nat) (la : Array Slot),
  mi < 214 → xcx D K b scr sc mi p s m args meth c → xrow mi pc = some r → xkd r = 4 → la.size = (xme mi).2.2.1 → xwd D K b scr s C0 S0 A g H locs cells slots → A.length + g ≤ C0 + R.cells → xsn (A, g) ≤ S0 + R.slots → d + 8 ≤ R.frames → 64 * (d + 8) ≤ R.locals →
  W p l e R s m args below meth c H locs cells slots Q (F0 m (pc + 5) la (.long r.2.2.2.2.2.2.1 :: st)) → W p l e R s m args below meth c H locs cells slots Q (F0 m pc la st)
end XM1
end
section
section XM2
variable {p : Program} {l : Launch} {e : Env} {R : Room} {s : State} {m : MethodId} {args : Array Value} {below : List Frame} {meth : Method} {c : Code} {Q : State → Prop}
set_option maxHeartbeats 4000000 in
set_option maxRecDepth 100000 in
/-- a call of a method that returns -/
theorem xcall_sound {D : va_G} {K : xTy} {b scr : Nat} {sc : xSc} {C0 S0 mi d pc : Nat} {r : xRow} {st : List Value} {h h1 : xH} {q : List Value × List Value} {v : Option Value} {H : Heap} {locs : List Loc} {cells slots : Nat} {la : Array Slot}
    (cx : xcx D K b scr sc mi p s m args meth c) (hok : xok mi pc r = true) (hkd : xkd r = 2) (hce : r.2.2.1 < 214) (hq : xcall r st h.1 = some q) (hw : xwd D K b scr s C0 S0 h.1 h.2 H locs cells slots) (hsz : la.size = (xme mi).2.2.1)
    (hmono : xcn h ≤ xcn h1 ∧ xsn h ≤ xsn h1) (hc : xcn h1 ≤ C0 + R.cells) (hsl : xsn h1 ≤ S0 + R.slots) (hd : d + 1 ≤ R.frames) (hlo : 64 * (d + 1) ≤ R.locals)
    (hM : Met l (xme r.2.2.1).1 (xws r.2.2.1) (xRm d (xcn h1 - xcn h) (xsn h1 - xsn h)) (xPc D K b scr sc h q.1) (xQc D K b scr v h1) (xcn h1 - xcn h) (xsn h1 - xsn h) (fun q => b ≤ q))
    (k : ∀ (H' : Heap) (locs' : List Loc) (cells' slots' : Nat), xwd D K b scr s C0 S0 h1.1 h1.2 H' locs' cells' slots' → W p l e R s m args below meth c H' locs' cells' slots' Q (F0 m (pc + 3) la ((v.toList ++ q.2).map (xv b scr)))) :
    W p l e R s m args below meth c H locs cells slots Q (F0 m pc la (st.map (xv b scr))) := by
  obtain ⟨hx, hb, hml, hown, hts, hK, hX, hsb, hbs, hnm, hrt, hlk, hex⟩ := id cx
  obtain ⟨w1, w2, w3, w4, w5, hP, hS⟩ := id hw
  obtain ⟨f1, f2, f3, f4, f5⟩ := xmi_facts (mi := r.2.2.1) (by omega)
  have w3' : slots + S0 = xsn h := w3
  have w2' : cells + C0 = xcn h := w2
  obtain ⟨m1, m2⟩ := hmono
  have hne : ∀ {a : Nat} {e0 : xC}, h.1[a]? = some e0 → ¬ a = xscr := fun {a} {e0} ha h9 => by
    have := (List.getElem?_eq_some_iff.mp ha).1
    rw [h9] at this
    simp only [xscr] at this
    omega
  unfold xcall at hq
  split at hq
  rotate_left
  · cases hq
  rename_i hlen
  split at hq
  rotate_left
  · cases hq
  rename_i hcat
  split at hq
  rotate_left
  · cases hq
  rename_i hrecv
  split at hq
  rotate_left
  · cases hq
  rename_i hslo
  cases hq
  have hAl : (st.take r.2.2.2.1).reverse.length = r.2.2.2.1 := by simp [List.length_take]; omega
  generalize hAe : (st.take r.2.2.2.1).reverse = Args at hrecv hslo hM hAl
  have hst : st.map (xv b scr) = (Args.map (xv b scr)).reverse ++ (st.drop r.2.2.2.1).map (xv b scr) := by
    rw [← hAe, List.map_reverse, List.reverse_reverse, ← List.map_append, List.take_append_drop]
  have hcat2 : (((st.drop r.2.2.2.1).map (xv b scr)).map fun v => v.category).sum ≤ 8 := by
    rw [List.map_map]
    simpa [Function.comp_def, xv_cat] using hcat
  generalize hRe : st.drop r.2.2.2.1 = rest at hst hcat2 k
  have hPU : ∀ U : State, U.heap = H → s.WarmedH U.vm → xPc D K b scr sc h Args (Args.map (xv b scr)).toArray U := fun U hU hW => by
    have hsc : H[scr]? = s.heap[scr]? := hS.2.1 scr (by omega) (by show ¬ b ≤ scr; omega)
    exact ⟨rfl, by rw [hU]; exact w4, w5, by rw [hU]; exact hP, va_K.moved hW.alike hK, by rw [hU]; exact (hX.kept hsc).moved hW.alike, hsb, xex_move hex hU (fun q hq => hS.2.1 q (by omega) (by show ¬ b ≤ q; omega)) hW⟩
  have hf : cells + (xcn h1 - xcn h) ≤ R.cells ∧ slots + (xsn h1 - xsn h) ≤ R.slots := by omega
  have hroom : (xRm d (xcn h1 - xcn h) (xsn h1 - xsn h)).frames + 1 ≤ R.frames ∧ 8 + ((xme r.2.2.1).2.2.1 + 11) + (xRm d (xcn h1 - xcn h) (xsn h1 - xsn h)).locals ≤ R.locals := by
    refine ⟨hd, ?_⟩
    show 8 + ((xme r.2.2.1).2.2.1 + 11) + 64 * d ≤ R.locals
    omega
  have fin : ∀ a : Array Value, va_Run p l e R s m args below meth c H locs cells slots (xcn h1 - xcn h) (xsn h1 - xsn h) (F0 m pc la (st.map (xv b scr))) (rest.map (xv b scr)) (xQc D K b scr v h1 a) (fun q => b ≤ q) → W p l e R s m args below meth c H locs cells slots Q (F0 m pc la (st.map (xv b scr))) := by
    intro a hr
    refine x_call hr (fun v' st₀ t L hst0 hL hQ => ?_)
    obtain ⟨q1, q2, q3, q4, q5⟩ := hQ
    have hv : v' = v.map (xv b scr) := Outcome.returned.inj q1
    subst hv
    have kk := k t.heap (locs ++ L) (cells + (xcn h1 - xcn h)) (slots + (xsn h1 - xsn h)) ⟨w1, by show _ = xcn h1; omega, by show _ = xsn h1; omega, q2, q3, q4, by rw [w1, q2]; omega, fun z hz hn => by
      have hz2 : z < b := by
        have : ¬ b ≤ z := hn
        omega
      rw [q5 z hz2, hst0]
      exact hS.2.1 z hz hn, fun z hz => by
      rcases List.mem_append.mp hz with hz | hz
      · exact hS.2.2 z hz
      · exact hL z hz⟩
    have hl2 : (v.toList ++ rest).map (xv b scr) = (v.map (xv b scr)).toList ++ rest.map (xv b scr) := by cases v <;> simp
    rw [hl2] at kk
    exact kk
  have hfix : CallFix p m c (xby mi) (xme mi).2.2.1 s args xTb (xme mi).1.cls := ⟨hx, hb, hml, hown, hts⟩
  obtain ⟨i, len, r1, r2, r3, rv, rk, sw⟩ := r
  simp only [xok, Bool.and_eq_true, decide_eq_true_eq] at hok
  obtain ⟨hdec, hlen2, hok⟩ := hok
  dsimp only at hce hAl hM fin hf hroom f1 f2 f3 f4 f5 hrecv hslo hPU hdec
  have cb : ∀ (ix n : Nat), xhas r3 (.methodLink (xme mi).1.cls ix (xme r1).1) = true → xpar (xme r1).1 n = true → CallB R s args (xme mi).1.cls ix (xme r1).1 (xme r1).2.1 (xme r1).2.2.1 (xme r1).2.2.2.1 (xws r1) (xRm d (xcn h1 - xcn h) (xsn h1 - xsn h)) (xcn h1 - xcn h) (xsn h1 - xsn h) n := fun ix n hlk2 hpar => by
    simp only [xpar, decide_eq_true_eq] at hpar
    exact callB_of (ws' := xTb) n hts (xws_good hce) rfl rfl rfl (hts _ f1) (hts _ (xhas_in hlk2)) ⟨f2, f3, hpar⟩ hroom
  cases i with
  | invokevirtual ix =>
    simp only [xlen, Bool.or_eq_true, beq_iff_eq] at hlen2
    obtain rfl : len = 3 := by omega
    simp only [xokI, if_pos (show r1 < 1000 by omega), Bool.and_eq_true, decide_eq_true_eq] at hok
    obtain ⟨o1, o2, o3, o4, o5, hni⟩ := hok
    obtain ⟨g1, g2, g3, g4⟩ := xmi_inst (mi := r1) (by omega) o5
    unfold xrecv at hrecv
    rw [if_neg o5] at hrecv
    split at hrecv
    · rename_i a As
      split at hrecv
      · rename_i cj fs hA
        have hcj : cj = (xme r1).2.2.2.2.1 := of_decide_eq_true hrecv
        subst hcj
        have hfa : xv b scr (.ref a) = .ref (b + a) := by show Value.ref (if a = xscr then scr else b + a) = _; rw [if_neg (hne hA)]
        have hst2 : st.map (xv b scr) = (As.map (xv b scr)).reverse ++ Value.ref (b + a) :: rest.map (xv b scr) := by
          rw [hst, List.map_cons, hfa, List.reverse_cons, List.append_assoc]
          rfl
        have hrv := va_recv hK hP (xcl_get g3) (xw_at (K := K) (b := b) (scr := scr) hA)
        rw [← g2] at hrv
        have hPV : PreV s H (xme r1).1.cls (b + a) (xPc D K b scr sc h (.ref a :: As)) (As.map (xv b scr)) := ⟨xPc_blind, hrv, fun U hU hW => by
          have := hPU U hU hW
          rw [List.map_cons, hfa] at this
          exact this⟩
        have hn : (As.map (xv b scr)).length = r2 - 1 := by
          simp only [List.length_cons] at hAl
          simp only [List.length_map]
          omega
        unfold xlink at o2
        split at o2
        · exact fin _ (va_runV hfix hM ⟨cb ix (r2 - 1) o2 o4, hts _ g1, hts _ (g4 hni)⟩ hPV rfl hn (by rw [hsz]) hst2 (lv_room hcat2) hdec hf)
        · simp only [xpar, decide_eq_true_eq] at o4
          have hnl : va_Nw (.methodLinkNest (xme mi).1.cls ix (xme r1).1 "TermReader") s := by
            obtain ⟨s0, a0, e1, e2, e3, e4, e5⟩ := hex
            exact va_Nw.warmM e3 (va_Nw.of rfl (e4 _ (List.mem_of_getElem? (of_decide_eq_true o2))))
          exact fin _ (va_runVN hfix hM ⟨va_cnB (ws' := xTb) (r2 - 1) hts (xws_good hce) rfl rfl rfl hnl (hts _ f1) ⟨f2, f3, o4⟩ hroom, hts _ g1, hts _ (g4 hni)⟩ hPV rfl hn (by rw [hsz]) hst2 (lv_room hcat2) hdec hf)
      · cases hrecv
    · cases hrecv
  | invokespecial ix =>
    simp only [xlen, Bool.or_eq_true, beq_iff_eq] at hlen2
    obtain rfl : len = 3 := by omega
    simp only [xokI, if_pos (show r1 < 1000 by omega), Bool.and_eq_true, decide_eq_true_eq] at hok
    obtain ⟨o1, o2, o3, o4, o5, o6, o7⟩ := hok
    obtain ⟨g1, g2, g3, g4⟩ := xmi_inst (mi := r1) (by omega) o7
    unfold xrecv at hrecv
    rw [if_neg o7] at hrecv
    split at hrecv
    · rename_i a As
      split at hrecv
      · rename_i cj fs hA
        have hfa : xv b scr (.ref a) = .ref (b + a) := by show Value.ref (if a = xscr then scr else b + a) = _; rw [if_neg (hne hA)]
        have hst2 : st.map (xv b scr) = (As.map (xv b scr)).reverse ++ Value.ref (b + a) :: rest.map (xv b scr) := by
          rw [hst, List.map_cons, hfa, List.reverse_cons, List.append_assoc]
          rfl
        have hPS : PreS s H (xPc D K b scr sc h (.ref a :: As)) (.ref (b + a) :: As.map (xv b scr)) := ⟨xPc_blind, fun U hU hW => by
          have := hPU U hU hW
          rw [List.map_cons, hfa] at this
          exact this⟩
        have hn : (As.map (xv b scr)).length = r2 - 1 := by
          simp only [List.length_cons] at hAl
          simp only [List.length_map]
          omega
        have cb1 := cb ix (r2 - 1) o2 o4
        rw [o6] at cb1
        exact fin _ (va_runI hfix hM ⟨cb1, o5, hts _ g1⟩ hPS rfl hn (by rw [hsz]) hst2 (lv_room hcat2) hdec hf)
      · cases hrecv
    · cases hrecv
  | invokestatic ix =>
    simp only [xlen, Bool.or_eq_true, beq_iff_eq] at hlen2
    obtain rfl : len = 3 := by omega
    simp only [xokI, if_pos (show r1 < 1000 by omega), Bool.and_eq_true, decide_eq_true_eq] at hok
    obtain ⟨o1, o2, o4, o5⟩ := hok
    exact fin _ (va_runS hfix hM ⟨cb ix r2 o2 o4, hts _ (xmi_static (mi := r1) (by omega) o5)⟩ ⟨xPc_blind, hPU⟩ rfl (by simp only [List.length_map]; exact hAl) (by rw [hsz]) hst (lv_room hcat2) hdec hf)
  | _ => first
    | (simp [xkd] at hkd; done)
    | (simp only [xkd] at hkd; split at hkd <;> cases hkd)
end XM2
end
section
section XM3
variable {l : Launch}
theorem xcall_sl {r : xRow} {st : List Value} {A : List xC} {q : List Value × List Value} (hq : xcall r st A = some q) : (lg_sl q.1).length ≤ (xme r.2.2.1).2.2.1 := by
  unfold xcall at hq
  split at hq
  · split at hq
    · split at hq
      · split at hq
        · rename_i h
          cases hq
          exact h
        · cases hq
      · cases hq
    · cases hq
  · cases hq
theorem xhd_big : ∀ q ∈ xhd, 214 ≤ q.1 := by decide
theorem xhnd_none {mi pc ev : Nat} (h : mi < 214) : xhnd mi pc ev = none := by
  unfold xhnd
  rw [Option.map_eq_none_iff, List.find?_eq_none]
  intro q hq
  have h1 := xhd_big q hq
  have h2 : (q.1 == mi) = false := by
    rw [beq_eq_false_iff_ne]
    omega
  simp [h2]
/-- the pure machine's frame, wherever the method is called -/
def xGo (l : Launch) (sc : xSc) (d mi pc : Nat) (ls : xL) (st : List Value) (h : xH) (v : Option Value) (h' : xH) : Prop :=
  ∀ (p : Program) (e : Env) (R : Room) (s : State) (m : MethodId) (args : Array Value) (below : List Frame) (meth : Method) (c : Code) (D : va_G) (K : xTy) (b scr C0 S0 : Nat) (H : Heap) (locs : List Loc) (cells slots : Nat) (la : Array Slot),
    xcx D K b scr sc mi p s m args meth c → lv_has la (xme mi).2.2.1 (ls.map (xtv b scr)) → xwd D K b scr s C0 S0 h.1 h.2 H locs cells slots → xcn h' ≤ C0 + R.cells → xsn h' ≤ S0 + R.slots → d ≤ R.frames → 64 * d ≤ R.locals →
    W p l e R s m args below meth c H locs cells slots (MQ below (xQc D K b scr v h') args s R.cells R.slots (fun q => b ≤ q)) (F0 m pc la (st.map (xv b scr)))
theorem xmet_of {sc : xSc} {d mi : Nat} {As : List Value} {h h' : xH} {v : Option Value} (hmi : mi < 214) (hsl : (lg_sl As).length ≤ (xme mi).2.2.1) (hm : xcn h ≤ xcn h' ∧ xsn h ≤ xsn h') (G : xGo l sc d mi 0 (lv_args 0 As) [] h v h') (D : va_G) (K : xTy) (b scr : Nat) :
    Met l (xme mi).1 (xws mi) (xRm d (xcn h' - xcn h) (xsn h' - xsn h)) (xPc D K b scr sc h As) (xQc D K b scr v h') (xcn h' - xcn h) (xsn h' - xsn h) (fun q => b ≤ q) := by
  obtain ⟨f1, f2, f3, f4, f5⟩ := xmi_facts (mi := mi) (by omega)
  refine Met.ofW (cc := (xme mi).2.1) (maxL := (xme mi).2.2.1) (ret := (xme mi).2.2.2.1) f4 rfl ?_
  intro p e s m args below meth c s₁ B hml hv
  obtain ⟨hv1, hv2, hv3, hv4, hv5, hv6, hv7, hv8⟩ := hv
  have hts := atoms_spec (ws := xws mi) B.pre
  have cx : xcx D K b scr sc mi p s m args meth c := ⟨B.exec, B.bytes, hml, findClass_of_methodNamed B.named, fun w hw => hts w (List.mem_cons_of_mem _ hw), hv5, hv6, hv7, by rw [hv2]; omega, (name_of_methodNamed B.named B.method).1, B.returns, B.notSynchronized, hv8⟩
  subst hv1
  have hl := lv_entry (As.map (xv b scr)) (n := (xme mi).2.2.1) (by rw [xsl_map]; exact hsl)
  rw [lg_entry_eq]
  rw [xargs_map] at hl
  exact G p e _ s m _ below meth c D K b scr (xcn h) (xsn h) s.heap [] 0 0 _ cx hl ⟨hv2, Nat.zero_add _, Nat.zero_add _, hv2, hv3, hv4, va_S.rf⟩ (by show xcn h' ≤ xcn h + (xcn h' - xcn h); omega) (by show xsn h' ≤ xsn h + (xsn h' - xsn h); omega) (Nat.le_refl d) (Nat.le_refl (64 * d))
set_option maxHeartbeats 4000000 in
/-- SOUND: what the pure machine answers, the machine answers -/
theorem xr_sound (hof : xOf l) (sc : xSc) : ∀ (n d mi pc : Nat) (ls : xL) (st : List Value) (h : xH) (v : Option Value) (h' : xH), mi < 214 → xr sc n d mi pc ls st h = some (.inl v, h') → xGo l sc d mi pc ls st h v h'
  | 0, _, _, _, _, _, _, _, _, _, hr => by cases hr
  | n + 1, d, mi, pc, ls, st, h, v, h', hmi, hr => by
    intro p e R s m args below meth c D K b scr C0 S0 H locs cells slots la cx hl hw hc hsl hd hlo
    unfold xr at hr
    split at hr
    · cases hr
    · rename_i r hrow
      have hok : xok mi pc r = true := xall_row (xall_of (by omega)) hrow
      split at hr
      · rename_i hk
        split at hr
        · cases hr
        · rename_i q hq
          have hm := xr_mono sc n _ _ _ _ _ _ _ _ hr
          refine xs_sound cx hok hq hl hw ⟨Nat.le_trans hm.1 hc, Nat.le_trans hm.2 hsl⟩ ⟨hd, hlo⟩ (fun la' H' locs' cells' slots' hl' hw' => ?_)
          exact xr_sound hof sc n d mi _ _ _ _ _ _ hmi hr p e R s m args below meth c D K b scr C0 S0 H' locs' cells' slots' la' cx hl' hw' hc hsl hd hlo
      · split at hr
        · cases hr
        · rename_i v1 hv
          cases hr
          exact xret_sound cx hok hv hw hc hsl
      · rename_i hk
        split at hr
        · cases hr
        · rename_i d'
          split at hr
          · cases hr
          · rename_i q hq
            split at hr
            · cases hr
            · rename_i v1 h1 hcal
              have hce : r.2.2.1 < 214 := by
                have h9 := hok
                obtain ⟨i, len, r1, r2, r3, rv, rk, sw⟩ := r
                simp only [xok, Bool.and_eq_true] at h9
                have h9 := h9.2.2
                cases i with
                | invokevirtual ix =>
                  have h1000 : r1 < 1000 := by
                    simp only [xkd] at hk
                    split at hk
                    · assumption
                    · cases hk
                  simp only [xokI, xlim, if_pos hmi, if_pos h1000, Bool.and_eq_true, decide_eq_true_eq] at h9
                  exact h9.1
                | invokespecial ix =>
                  have h1000 : r1 < 1000 := by
                    simp only [xkd] at hk
                    split at hk
                    · assumption
                    · cases hk
                  simp only [xokI, xlim, if_pos hmi, if_pos h1000, Bool.and_eq_true, decide_eq_true_eq] at h9
                  exact h9.1
                | invokestatic ix =>
                  have h1000 : r1 < 1000 := by
                    simp only [xkd] at hk
                    split at hk
                    · assumption
                    · cases hk
                  simp only [xokI, xlim, if_pos hmi, if_pos h1000, Bool.and_eq_true, decide_eq_true_eq] at h9
                  exact h9.1
                | _ => first
                  | (simp [xkd] at hk; done)
                  | (simp only [xkd] at hk; split at hk <;> cases hk)
              have a1 := xr_mono sc n _ _ _ _ _ _ _ _ hcal
              have a2 := xr_mono sc n _ _ _ _ _ _ _ _ hr
              have G := xr_sound hof sc n d' _ _ _ _ _ _ _ hce hcal
              refine xcall_sound cx hok hk hce hq hw hl.1 a1 (Nat.le_trans a2.1 hc) (Nat.le_trans a2.2 hsl) hd hlo (xmet_of hce (xcall_sl hq) a1 G D K b scr) (fun H' locs' cells' slots' hw' => ?_)
              exact xr_sound hof sc n (d' + 1) mi _ _ _ _ _ _ hmi hr p e R s m args below meth c D K b scr C0 S0 H' locs' cells' slots' la cx hl hw' hc hsl hd hlo
            · rw [xhnd_none hmi] at hr
              cases hr
      · rename_i hk
        split at hr
        · rename_i d'
          have hm := xr_mono sc n _ _ _ _ _ _ _ _ hr
          have kk := xr_sound hof sc n (d' + 8) mi _ _ _ _ _ _ hmi hr p e R s m args below meth c D K b scr C0 S0 H locs cells slots la cx hl hw hc hsl hd hlo
          exact hof sc p e R s m args below meth c _ D K b scr C0 S0 mi d' pc r _ h.1 h.2 H locs cells slots la hmi cx hrow hk hl.1 hw (Nat.le_trans hm.1 hc) (Nat.le_trans hm.2 hsl) hd hlo kk
        · cases hr
      · split at hr
        · cases hr
        · cases hr
end XM3
end
section
-- what the pure machine comes to: rules for walks
def xstep (sc : xSc) (rec1 : Nat → Nat → Nat → xL → List Value → xH → Option (xO × xH)) (d mi pc : Nat) (ls : xL) (st : List Value) (h : xH) : Option (xO × xH) := match xrow mi pc with
  | none => none
  | some r => match xkd r with
    | 0 => match xs sc (xme mi).2.2.1 d h.2 r pc ls st h.1 with
      | none => none
      | some q => rec1 d mi q.1 q.2.1 q.2.2.1 (q.2.2.2, h.2)
    | 1 => match xret (xme mi).2.2.2.1 r.1 st with
      | none => none
      | some v => some (.inl v, h)
    | 2 => match d with
      | 0 => none
      | d' + 1 => match xcall r st h.1 with
        | none => none
        | some q => match rec1 d' r.2.2.1 0 (lv_args 0 q.1) [] h with
          | none => none
          | some (.inl v, h') => rec1 (d' + 1) mi (pc + 3) ls (v.toList ++ q.2) h'
          | some (.inr e, h') => match xhnd mi pc e with
            | none => none
            | some t => rec1 (d' + 1) mi t.1 (ls.filter fun z => !(z.1 == t.2)) [] h'
    | 4 => match d with
      | d' + 8 => rec1 (d' + 8) mi (pc + 5) ls (.long r.2.2.2.2.2.2.1 :: st) h
      | _ => none
    | _ => match d with
      | _ + 8 => some (.inr (r.2.2.1 - 1000), (h.1, h.2 + 1))
      | _ => none
theorem xr_eq (sc : xSc) (n d mi pc : Nat) (ls : xL) (st : List Value) (h : xH) : xr sc (n + 1) d mi pc ls st h = xstep sc (xr sc n) d mi pc ls st h := by
  conv => lhs; unfold xr
  rfl
theorem xstep_mono {sc : xSc} {f1 f2 : Nat → Nat → Nat → xL → List Value → xH → Option (xO × xH)} (hm : ∀ d mi pc ls st h r, f1 d mi pc ls st h = some r → f2 d mi pc ls st h = some r) {d mi pc : Nat} {ls : xL} {st : List Value} {h : xH} {r : xO × xH} (hr : xstep sc f1 d mi pc ls st h = some r) : xstep sc f2 d mi pc ls st h = some r := by
  unfold xstep at hr ⊢
  cases hrow : xrow mi pc with
  | none =>
    rw [hrow] at hr
    cases hr
  | some r0 =>
    rw [hrow] at hr
    dsimp only at hr ⊢
    generalize xkd r0 = kk at hr ⊢
    match kk, hr with
    | 0, hr =>
      cases hq : xs sc (xme mi).2.2.1 d h.2 r0 pc ls st h.1 with
      | none =>
        rw [hq] at hr
        cases hr
      | some q =>
        rw [hq] at hr
        exact hm _ _ _ _ _ _ _ hr
    | 1, hr => exact hr
    | 2, hr =>
      match d, hr with
      | 0, hr => exact hr
      | d' + 1, hr =>
        dsimp only at hr ⊢
        cases hq : xcall r0 st h.1 with
        | none =>
          rw [hq] at hr
          cases hr
        | some q =>
          rw [hq] at hr
          dsimp only at hr ⊢
          cases hc : f1 d' r0.2.2.1 0 (lv_args 0 q.1) [] h with
          | none =>
            rw [hc] at hr
            cases hr
          | some z =>
            rw [hc] at hr
            rw [hm _ _ _ _ _ _ _ hc]
            obtain ⟨o, h1⟩ := z
            cases o with
            | inl v => exact hm _ _ _ _ _ _ _ hr
            | inr ev =>
              dsimp only at hr ⊢
              cases ht : xhnd mi pc ev with
              | none =>
                rw [ht] at hr
                cases hr
              | some t =>
                rw [ht] at hr
                exact hm _ _ _ _ _ _ _ hr
    | 3, hr => exact hr
    | 4, hr =>
      match d, hr with
      | d' + 8, hr => exact hm _ _ _ _ _ _ _ hr
      | 0, hr => cases hr
      | 1, hr => cases hr
      | 2, hr => cases hr
      | 3, hr => cases hr
      | 4, hr => cases hr
      | 5, hr => cases hr
      | 6, hr => cases hr
      | 7, hr => cases hr
    | k + 5, hr => exact hr
theorem xr_more (sc : xSc) : ∀ (n d mi pc : Nat) (ls : xL) (st : List Value) (h : xH) (r : xO × xH), xr sc n d mi pc ls st h = some r → xr sc (n + 1) d mi pc ls st h = some r
  | 0, _, _, _, _, _, _, _, hr => by cases hr
  | n + 1, d, mi, pc, ls, st, h, r, hr => by
    rw [xr_eq] at hr ⊢
    exact xstep_mono (xr_more sc n) hr
theorem xr_le {sc : xSc} {n k d mi pc : Nat} {ls : xL} {st : List Value} {h : xH} {r : xO × xH} (hr : xr sc n d mi pc ls st h = some r) (hk : n ≤ k) : xr sc k d mi pc ls st h = some r := by
  induction hk with
  | refl => exact hr
  | step _ ih => exact xr_more _ _ _ _ _ _ _ _ _ ih
def xP (sc : xSc) (d mi pc : Nat) (ls : xL) (st : List Value) (h : xH) (P : xO → xH → Prop) : Prop := ∃ (n : Nat) (o : xO) (h' : xH), xr sc n d mi pc ls st h = some (o, h') ∧ P o h'
/-- a method on its arguments -/
def xM1 (sc : xSc) (d mi : Nat) (As : List Value) (h : xH) (P : xO → xH → Prop) : Prop := xP sc d mi 0 (lv_args 0 As) [] h P
section XP
variable {sc : xSc} {d mi pc : Nat} {ls : xL} {st : List Value} {A : List xC} {g : Nat} {P : xO → xH → Prop}
theorem xP_mono {h : xH} {P' : xO → xH → Prop} (k : xP sc d mi pc ls st h P) (hi : ∀ o h', P o h' → P' o h') : xP sc d mi pc ls st h P' := by
  obtain ⟨n, o, h', e, hp⟩ := k
  exact ⟨n, o, h', e, hi _ _ hp⟩
theorem xP_s {r : xRow} {pc' : Nat} {ls' : xL} {st' : List Value} {A' : List xC} (hrow : xrow mi pc = some r) (hk : xkd r = 0) (hs : xs sc (xme mi).2.2.1 d g r pc ls st A = some (pc', ls', st', A')) (k : xP sc d mi pc' ls' st' (A', g) P) : xP sc d mi pc ls st (A, g) P := by
  obtain ⟨n, o, h', e, hp⟩ := k
  refine ⟨n + 1, o, h', ?_, hp⟩
  rw [xr_eq]
  unfold xstep
  simp only [hrow, hk, hs]
  exact e
theorem xP_ret {r : xRow} {v : Option Value} {h : xH} (hrow : xrow mi pc = some r) (hk : xkd r = 1) (hv : xret (xme mi).2.2.2.1 r.1 st = some v) (k : P (.inl v) h) : xP sc d mi pc ls st h P := by
  refine ⟨1, .inl v, h, ?_, k⟩
  rw [xr_eq]
  unfold xstep
  simp only [hrow, hk, hv]
theorem xP_call {r : xRow} {q : List Value × List Value} {h : xH} (hrow : xrow mi pc = some r) (hk : xkd r = 2) (hq : xcall r st h.1 = some q)
    (k : xM1 sc d r.2.2.1 q.1 h (fun o h1 => match o with
      | .inl v => xP sc (d + 1) mi (pc + 3) ls (v.toList ++ q.2) h1 P
      | .inr ev => ∃ t, xhnd mi pc ev = some t ∧ xP sc (d + 1) mi t.1 (ls.filter fun z => !(z.1 == t.2)) [] h1 P)) : xP sc (d + 1) mi pc ls st h P := by
  obtain ⟨n, o, h1, e, hp⟩ := k
  cases o with
  | inl v =>
    obtain ⟨n2, o2, h2, e2, hp2⟩ := hp
    refine ⟨(n + n2) + 1, o2, h2, ?_, hp2⟩
    rw [xr_eq]
    unfold xstep
    simp only [hrow, hk, hq, xr_le e (Nat.le_add_right n n2)]
    exact xr_le e2 (Nat.le_add_left n2 n)
  | inr ev =>
    obtain ⟨t, ht, n2, o2, h2, e2, hp2⟩ := hp
    refine ⟨(n + n2) + 1, o2, h2, ?_, hp2⟩
    rw [xr_eq]
    unfold xstep
    simp only [hrow, hk, hq, xr_le e (Nat.le_add_right n n2), ht]
    exact xr_le e2 (Nat.le_add_left n2 n)
/-- getfield, on a heap of which a cell is known -/
theorem xP_get {ix len ci k r3 : Nat} {rv : Int32} {rk : Int64} {sw : List (Int32 × Nat)} {a : Nat} {fs rest : List _} {v : Value} (hrow : xrow mi pc = some (.getfield ix, len, ci, k, r3, rv, rk, sw)) (hA : A[a]? = some (.inr (ci, fs))) (hv : fs[k]? = some v)
    (kk : xP sc d mi (pc + 3) ls (v :: rest) (A, g) P) : xP sc d mi pc ls (.ref a :: rest) (A, g) P := by
  refine xP_s hrow rfl ?_ kk
  simp [xs, xr1, xob, hA, hv]
theorem xP_put {ix len ci k r3 : Nat} {rv : Int32} {rk : Int64} {sw : List (Int32 × Nat)} {a : Nat} {fs rest : List _} {v : Value} (hrow : xrow mi pc = some (.putfield ix, len, ci, k, r3, rv, rk, sw)) (hA : A[a]? = some (.inr (ci, fs))) (hl : k < fs.length) (hf : xfit ((xtys.getD ci []).getD k .int) v = true)
    (kk : xP sc d mi (pc + 3) ls rest (A.set a (.inr (ci, fs.set k v)), g) P) : xP sc d mi pc ls (v :: .ref a :: rest) (A, g) P := by
  refine xP_s hrow rfl ?_ kk
  simp only [xs, xob, hA, if_pos hl, hf, if_true]
theorem xP_alen {len r1 r2 r3 : Nat} {rv : Int32} {rk : Int64} {sw : List (Int32 × Nat)} {a n : Nat} {ty : FieldType} {f : _} {rest : List Value} (hrow : xrow mi pc = some (.arraylength, len, r1, r2, r3, rv, rk, sw)) (hA : A[a]? = some (.inl (ty, n, f))) (hn : ¬ a = xscr)
    (kk : xP sc d mi (pc + 1) ls (.int (nI n) :: rest) (A, g) P) : xP sc d mi pc ls (.ref a :: rest) (A, g) P := by
  refine xP_s hrow rfl ?_ kk
  simp only [xs, xr1, if_neg hn, hA]
  rfl
theorem xP_ial {len r1 r2 r3 : Nat} {rv : Int32} {rk : Int64} {sw : List (Int32 × Nat)} {a n : Nat} {f : Nat → Int32} {i : Int32} {rest : List Value} (hrow : xrow mi pc = some (.iaload, len, r1, r2, r3, rv, rk, sw)) (hA : A[a]? = some (.inl (.int, n, .inl f))) (hn : ¬ a = xscr) (hi : xib i n = true)
    (kk : xP sc d mi (pc + 1) ls (.int (f i.toNatClampNeg) :: rest) (A, g) P) : xP sc d mi pc ls (.int i :: .ref a :: rest) (A, g) P := by
  refine xP_s hrow rfl ?_ kk
  simp only [xs, xri, if_neg hn, xarI, hA, hi, if_true]
theorem xP_cal {len r1 r2 r3 : Nat} {rv : Int32} {rk : Int64} {sw : List (Int32 × Nat)} {a n : Nat} {f : Nat → Int32} {i : Int32} {rest : List Value} (hrow : xrow mi pc = some (.caload, len, r1, r2, r3, rv, rk, sw)) (hA : A[a]? = some (.inl (.char, n, .inl f))) (hi : xib i n = true)
    (kk : xP sc d mi (pc + 1) ls (.int (f i.toNatClampNeg) :: rest) (A, g) P) : xP sc d mi pc ls (.int i :: .ref a :: rest) (A, g) P := by
  refine xP_s hrow rfl ?_ kk
  simp only [xs, xri, xarI, hA, hi, if_true]
theorem xP_lal {len r1 r2 r3 : Nat} {rv : Int32} {rk : Int64} {sw : List (Int32 × Nat)} {a n : Nat} {f : Nat → Int64} {i : Int32} {rest : List Value} (hrow : xrow mi pc = some (.laload, len, r1, r2, r3, rv, rk, sw)) (hA : A[a]? = some (.inl (.long, n, .inr (.inl f)))) (hi : xib i n = true)
    (kk : xP sc d mi (pc + 1) ls (.long (f i.toNatClampNeg) :: rest) (A, g) P) : xP sc d mi pc ls (.int i :: .ref a :: rest) (A, g) P := by
  refine xP_s hrow rfl ?_ kk
  simp only [xs, xri, xarL, hA, hi, if_true]
theorem xP_ias {len r1 r2 r3 : Nat} {rv : Int32} {rk : Int64} {sw : List (Int32 × Nat)} {a n : Nat} {f : Nat → Int32} {i x : Int32} {rest : List Value} (hrow : xrow mi pc = some (.iastore, len, r1, r2, r3, rv, rk, sw)) (hA : A[a]? = some (.inl (.int, n, .inl f))) (hi : xib i n = true)
    (kk : xP sc d mi (pc + 1) ls rest (A.set a (.inl (.int, n, .inl (upd f i.toNatClampNeg x))), g) P) : xP sc d mi pc ls (.int x :: .int i :: .ref a :: rest) (A, g) P := by
  refine xP_s hrow rfl ?_ kk
  simp only [xs, xi1, xri, xarI, hA, hi, if_true]
theorem xP_cas {len r1 r2 r3 : Nat} {rv : Int32} {rk : Int64} {sw : List (Int32 × Nat)} {a n : Nat} {f : Nat → Int32} {i x : Int32} {rest : List Value} (hrow : xrow mi pc = some (.castore, len, r1, r2, r3, rv, rk, sw)) (hA : A[a]? = some (.inl (.char, n, .inl f))) (hi : xib i n = true)
    (kk : xP sc d mi (pc + 1) ls rest (A.set a (.inl (.char, n, .inl (upd f i.toNatClampNeg (vp_nar .char x)))), g) P) : xP sc d mi pc ls (.int x :: .int i :: .ref a :: rest) (A, g) P := by
  refine xP_s hrow rfl ?_ kk
  simp only [xs, xi1, xri, xarI, hA, hi, if_true]
theorem xP_las {len r1 r2 r3 : Nat} {rv : Int32} {rk : Int64} {sw : List (Int32 × Nat)} {a n : Nat} {f : Nat → Int64} {i : Int32} {x : Int64} {rest : List Value} (hrow : xrow mi pc = some (.lastore, len, r1, r2, r3, rv, rk, sw)) (hA : A[a]? = some (.inl (.long, n, .inr (.inl f)))) (hi : xib i n = true)
    (kk : xP sc d mi (pc + 1) ls rest (A.set a (.inl (.long, n, .inr (.inl (vp_updL f i.toNatClampNeg x)))), g) P) : xP sc d mi pc ls (.long x :: .int i :: .ref a :: rest) (A, g) P := by
  refine xP_s hrow rfl ?_ kk
  simp only [xs, xl1, xri, xarL, hA, hi, if_true]
/-- a branch -/
theorem xP_if {c : Bool} {t f : Nat} {h : xH} (kt : c = true → xP sc d mi t ls st h P) (kf : c = false → xP sc d mi f ls st h P) : xP sc d mi (if c = true then t else f) ls st h P := by
  cases c with
  | true => exact kt rfl
  | false => exact kf rfl
/-- locals that are no longer read may go -/
theorem xib_nI {j n : Nat} (h : j < n) (hn : n < 2 ^ 31) : xib (nI j) n = true := by
  simp only [xib, Bool.and_eq_true, decide_eq_true_eq]
  rw [nI_toInt (by omega)]
  omega
end XP
end
section
-- CharRow: rows of characters as lists of numbers
/-- the cells that may have changed -/
def xSame (A A' : List xC) (l : List Nat) : Prop := A'.length = A.length ∧ ∀ k, k ∉ l → A'[k]? = A[k]?
theorem xSame.refl (A : List xC) (l : List Nat) : xSame A A l := ⟨rfl, fun _ _ => rfl⟩
theorem xSame.trans {A B C : List xC} {l m : List Nat} (h1 : xSame A B l) (h2 : xSame B C m) : xSame A C (l ++ m) :=
  ⟨h2.1.trans h1.1, fun k hk => (h2.2 k fun h => hk (List.mem_append_right _ h)).trans (h1.2 k fun h => hk (List.mem_append_left _ h))⟩
theorem xSame.wider {A B : List xC} {l m : List Nat} (h : xSame A B l) (hs : ∀ k ∈ l, k ∈ m) : xSame A B m := ⟨h.1, fun k hk => h.2 k fun q => hk (hs k q)⟩
theorem xSame.set {A : List xC} (k : Nat) (e : xC) : xSame A (A.set k e) [k] := ⟨by simp, fun j hj => by
  have : ¬ k = j := fun q => hj (by simp [q])
  simp [List.getElem?_set, this]⟩
theorem xset_ne {A : List xC} {k j : Nat} {e : xC} (h : k ≠ j) : (A.set k e)[j]? = A[j]? := by simp [List.getElem?_set, h]
theorem xset_eq {A : List xC} {k : Nat} {e e0 : xC} (h : A[k]? = some e0) : (A.set k e)[k]? = some e := by
  have := (List.getElem?_eq_some_iff.mp h).1
  simp [List.getElem?_set, this]
/-- comparisons, over the integers -/
theorem xc_i (k : ClassFile.Cond) (x y : Int32) : xcmp k x y = (match k with
  | .eq => decide (x.toInt = y.toInt) | .ne => decide (¬ x.toInt = y.toInt) | .lt => decide (x.toInt < y.toInt) | .ge => decide (y.toInt ≤ x.toInt) | .gt => decide (y.toInt < x.toInt) | .le => decide (x.toInt ≤ y.toInt)) := by
  cases k <;> simp only [xcmp, Int32.lt_iff_toInt_lt, Int32.le_iff_toInt_le, Int32.toInt_inj]
theorem xc_t {k : ClassFile.Cond} {x y : Int32} (h : xcmp k x y = true) : (match k with
  | .eq => x.toInt = y.toInt | .ne => ¬ x.toInt = y.toInt | .lt => x.toInt < y.toInt | .ge => y.toInt ≤ x.toInt | .gt => y.toInt < x.toInt | .le => x.toInt ≤ y.toInt) := by
  rw [xc_i] at h
  cases k <;> simpa using h
theorem xc_f {k : ClassFile.Cond} {x y : Int32} (h : xcmp k x y = false) : (match k with
  | .eq => ¬ x.toInt = y.toInt | .ne => x.toInt = y.toInt | .lt => y.toInt ≤ x.toInt | .ge => x.toInt < y.toInt | .gt => x.toInt ≤ y.toInt | .le => y.toInt < x.toInt) := by
  rw [xc_i] at h
  cases k <;> simpa using h
theorem x_cl (i : Int32) : i.toNatClampNeg = i.toInt.toNat := rfl
theorem xib_of {i : Int32} {n : Nat} (h0 : 0 ≤ i.toInt) (h1 : i.toInt < n) : xib i n = true := by simp [xib, h0, h1]
/-- a row of characters: its object at a, its row at a + 1, holding t -/
def xRw (A : List xC) (a cap : Nat) (t : List Nat) : Prop := ∃ f : Nat → Int32, A[a]? = some (.inr (1, [.ref (a + 1), .int (nI t.length)])) ∧ A[a + 1]? = some (.inl (.char, cap, .inl f)) ∧ t.length ≤ cap ∧ ∀ (i c : Nat), t[i]? = some c → c < 128 ∧ f i = nI c
theorem xRw.same {A A' : List xC} {a cap : Nat} {t : List Nat} {l : List Nat} (h : xRw A a cap t) (hs : xSame A A' l) (h1 : a ∉ l) (h2 : a + 1 ∉ l) : xRw A' a cap t := by
  obtain ⟨f, q1, q2, q3, q4⟩ := h
  exact ⟨f, by rw [hs.2 _ h1]; exact q1, by rw [hs.2 _ h2]; exact q2, q3, q4⟩
/-- what a row answers at a place -/
def cAt (t : List Nat) (i : Int32) : Int32 := if 0 ≤ i.toInt then (match t[i.toInt.toNat]? with
  | some c => nI c
  | none => -1) else -1
theorem cAt_neg {t : List Nat} {i : Int32} (h : i.toInt < 0) : cAt t i = -1 := if_neg (by omega)
theorem cAt_out {t : List Nat} {i : Int32} (h : (t.length : Int) ≤ i.toInt) : cAt t i = -1 := by
  unfold cAt
  rw [if_pos (by omega), List.getElem?_eq_none (by omega)]
theorem cAt_in {t : List Nat} {i : Int32} {c : Nat} (h0 : 0 ≤ i.toInt) (h : t[i.toInt.toNat]? = some c) : cAt t i = nI c := by
  unfold cAt
  rw [if_pos h0, h]
set_option maxRecDepth 100000 in
theorem p_length {sc : xSc} {d g a cap : Nat} {A : List xC} {t : List Nat} {P : xO → xH → Prop} (hr : xRw A a cap t) (k : P (.inl (some (.int (nI t.length)))) (A, g)) : xM1 sc d 12 [.ref a] (A, g) P := by
  obtain ⟨f, h1, h2, h3, h4⟩ := hr
  unfold xM1
  repeat' first
    | refine xP_s rfl rfl rfl ?_
    | refine xP_get rfl h1 rfl ?_
    | refine xP_ret rfl rfl rfl ?_
  exact k
set_option maxRecDepth 100000 in
theorem p_at {sc : xSc} {d g a cap : Nat} {A : List xC} {t : List Nat} {i : Int32} {P : xO → xH → Prop} (hr : xRw A a cap t) (hcap : cap < 2 ^ 31) (ha : ¬ a + 1 = xscr) (k : P (.inl (some (.int (cAt t i)))) (A, g)) : xM1 sc d 13 [.ref a, .int i] (A, g) P := by
  obtain ⟨f, h1, h2, h3, h4⟩ := hr
  have hNi : (nI t.length).toInt = (t.length : Int) := nI_toInt (by omega)
  have hCi : (nI cap).toInt = (cap : Int) := nI_toInt hcap
  have hz : (0 : Int32).toInt = 0 := rfl
  unfold xM1
  repeat' first
    | refine xP_s rfl rfl rfl ?_
    | refine xP_get rfl h1 rfl ?_
    | refine xP_alen rfl h2 ha ?_
    | refine xP_if (fun hc => ?_) (fun hc => ?_)
    | refine xP_ret rfl rfl rfl ?_
  · have := xc_t hc
    dsimp only at this
    rw [cAt_neg (by omega)] at k
    exact k
  · have := xc_t hc
    dsimp only at this
    rw [cAt_out (by omega)] at k
    exact k
  · have := xc_t hc
    dsimp only at this
    rw [cAt_out (by omega)] at k
    exact k
  · rename_i c1 c2
    have q1 := xc_f c1
    have q2 := xc_f c2
    have q3 := xc_f hc
    dsimp only at q1 q2 q3
    refine xP_cal rfl h2 (xib_of (by omega) (by omega)) ?_
    obtain ⟨c, hcc⟩ : ∃ c, t[i.toInt.toNat]? = some c := ⟨t[i.toInt.toNat]'(by omega), List.getElem?_eq_getElem (by omega)⟩
    have hv : f i.toNatClampNeg = cAt t i := by rw [x_cl, (h4 _ c hcc).2, cAt_in (by omega) hcc]
    rw [hv]
    repeat' first
      | refine xP_s rfl rfl rfl ?_
      | refine xP_ret rfl rfl rfl ?_
    exact k
set_option maxRecDepth 100000 in
/-- add: one more, if there is room -/
theorem p_add {sc : xSc} {d g a cap c : Nat} {A : List xC} {t : List Nat} {P : xO → xH → Prop} (hr : xRw A a cap t) (hcap : cap < 2 ^ 31) (ha : ¬ a + 1 = xscr) (hch0 : c < 128) (hroom : t.length < cap) (k : ∀ A', xRw A' a cap (t ++ [c]) → xSame A A' [a, a + 1] → P (.inl none) (A', g)) : xM1 sc d 14 [.ref a, .int (nI c)] (A, g) P := by
  obtain ⟨f, h1, h2, h3, h4⟩ := hr
  have hNi : (nI t.length).toInt = (t.length : Int) := nI_toInt (by omega)
  have hCi : (nI cap).toInt = (cap : Int) := nI_toInt hcap
  have hz : (0 : Int32).toInt = 0 := rfl
  unfold xM1
  repeat' first
    | refine xP_s rfl rfl rfl ?_
    | refine xP_get rfl h1 rfl ?_
    | refine xP_alen rfl h2 ha ?_
    | refine xP_if (fun hc => ?_) (fun hc => ?_)
    | refine xP_ret rfl rfl rfl ?_
  · have := xc_t hc
    dsimp only at this
    omega
  · have := xc_t hc
    dsimp only at this
    omega
  · refine xP_cas rfl h2 (xib_of (by omega) (by omega)) ?_
    have h1' : (A.set (a + 1) (.inl (.char, cap, .inl (upd f (nI t.length).toNatClampNeg (vp_nar .char ((nI c).toUInt32 % 65536).toInt32)))))[a]? = some (.inr (1, [.ref (a + 1), .int (nI t.length)])) := by rw [xset_ne (by omega)]; exact h1
    generalize hB : A.set (a + 1) (.inl (.char, cap, .inl (upd f (nI t.length).toNatClampNeg (vp_nar .char ((nI c).toUInt32 % 65536).toInt32)))) = B at h1' ⊢
    repeat' first
      | refine xP_s rfl rfl rfl ?_
      | refine xP_get rfl h1' rfl ?_
      | refine xP_put rfl h1' (Nat.le_of_ble_eq_true rfl) rfl ?_
      | refine xP_ret rfl rfl rfl ?_
    have hch : vp_nar .char ((nI c).toUInt32 % 65536).toInt32 = nI c := by rw [pk_vc, pk_char, pk_tn (by omega), Nat.mod_eq_of_lt (by omega)]
    refine k _ ⟨upd f t.length (nI c), ?_, ?_, by simp; omega, fun i x hx => ?_⟩ ?_
    · rw [xset_eq h1', nI_1, List.length_append]
      rfl
    · rw [xset_ne (by omega), ← hB, xset_eq h2, nI_clamp (by omega), hch]
    · by_cases hi : i = t.length
      · subst hi
        simp at hx
        subst hx
        exact ⟨hch0, pk_us⟩
      · rw [pk_un hi]
        have : t[i]? = some x := by
          rw [List.getElem?_append] at hx
          split at hx
          · exact hx
          · exfalso
            have := (List.getElem?_eq_some_iff.mp hx).1
            simp at this
            omega
        exact h4 i x this
    · rw [← hB]
      exact ((xSame.set _ _).trans (xSame.set _ _)).wider (by simp)
set_option maxRecDepth 100000 in
/-- cut: fewer, if that is fewer -/
theorem p_cut {sc : xSc} {d g a cap : Nat} {A : List xC} {t : List Nat} {i : Int32} {P : xO → xH → Prop} (hr : xRw A a cap t) (hcap : cap < 2 ^ 31) (k : ∀ A', xRw A' a cap (if 0 ≤ i.toInt ∧ i.toInt < t.length then t.take i.toInt.toNat else t) → xSame A A' [a] → P (.inl none) (A', g)) : xM1 sc d 15 [.ref a, .int i] (A, g) P := by
  obtain ⟨f, h1, h2, h3, h4⟩ := id hr
  have hNi : (nI t.length).toInt = (t.length : Int) := nI_toInt (by omega)
  have hz : (0 : Int32).toInt = 0 := rfl
  unfold xM1
  repeat' first
    | refine xP_s rfl rfl rfl ?_
    | refine xP_get rfl h1 rfl ?_
    | refine xP_put rfl h1 (Nat.le_of_ble_eq_true rfl) rfl ?_
    | refine xP_if (fun hc => ?_) (fun hc => ?_)
    | refine xP_ret rfl rfl rfl ?_
  · have := xc_t hc
    dsimp only at this
    refine k A ?_ (xSame.refl _ _)
    rw [if_neg (by omega)]
    exact hr
  · have := xc_t hc
    dsimp only at this
    refine k A ?_ (xSame.refl _ _)
    rw [if_neg (by omega)]
    exact hr
  · rename_i hc1
    have q1 := xc_f hc1
    have q2 := xc_f hc
    dsimp only at q1 q2
    refine k _ ?_ (xSame.set _ _)
    rw [if_pos (by omega)]
    have hl : (t.take i.toInt.toNat).length = i.toInt.toNat := by rw [List.length_take]; omega
    refine ⟨f, ?_, by rw [xset_ne (by omega)]; exact h2, by omega, fun j c hj => h4 j c ?_⟩
    · rw [xset_eq h1, hl]
      have hi : nI i.toInt.toNat = i := Int32.toInt_inj.mp (by rw [nI_toInt (by omega)]; omega)
      rw [hi]
      rfl
    · rw [List.getElem?_take] at hj
      split at hj
      · exact hj
      · cases hj
theorem x_char {c : Nat} (h : c < 65536) : vp_nar .char (nI c) = nI c := by
  have h1 : ((nI c).toUInt32 % 65536).toInt32 = nI c := by rw [pk_char, pk_tn (by omega), Nat.mod_eq_of_lt h]
  have h2 := pk_vc (nI c)
  rwa [h1] at h2
set_option maxRecDepth 100000 in
theorem p_dropLoop {sc : xSc} {d g a cap D : Nat} {t : List Nat} {P : xO → xH → Prop} (hcap : cap < 2 ^ 30) (ha : ¬ a + 1 = xscr) (hD : D < 2 ^ 30) (h3 : t.length ≤ cap) : ∀ (m k : Nat) (A : List xC) (f : Nat → Int32), t.length ≤ D + k + m → (k = 0 ∨ D + k ≤ t.length) →
    A[a]? = some (.inr (1, [.ref (a + 1), .int (nI t.length)])) → A[a + 1]? = some (.inl (.char, cap, .inl f)) → (∀ (i c : Nat), t[i]? = some c → c < 128) → (∀ (i c : Nat), k ≤ i → t[i]? = some c → f i = nI c) → (∀ (i c : Nat), i < k → t[D + i]? = some c → f i = nI c) →
    (∀ A', xRw A' a cap (t.drop D) → xSame A A' [a, a + 1] → P (.inl none) (A', g)) →
    xP sc d 16 12 [(0, .ref a), (1, .int (nI D)), (2, .int (nI k)), (3, .int (nI (D + k)))] [] (A, g) P := by
  intro m
  induction m with
  | zero =>
    intro k A f hm hk h1 h2 h4 h5 h6 K
    have hNi : (nI t.length).toInt = (t.length : Int) := nI_toInt (by omega)
    have hKi : (nI (D + k)).toInt = ((D + k : Nat) : Int) := nI_toInt (by omega)
    refine xP_s rfl rfl rfl ?_
    refine xP_s rfl rfl rfl ?_
    refine xP_get rfl h1 rfl ?_
    refine xP_s rfl rfl rfl ?_
    refine xP_if (fun hc => ?_) (fun hc => ?_)
    · repeat' first
        | refine xP_s rfl rfl rfl ?_
        | refine xP_put rfl h1 (Nat.le_of_ble_eq_true rfl) rfl ?_
        | refine xP_ret rfl rfl rfl ?_
      have hl : (t.drop D).length = k := by rw [List.length_drop]; omega
      refine K _ ⟨f, ?_, by rw [xset_ne (by omega)]; exact h2, by omega, fun i c hi => ?_⟩ ((xSame.set _ _).wider (by simp))
      · rw [xset_eq h1, hl]
        rfl
      · have hlt := (List.getElem?_eq_some_iff.mp hi).1
        rw [List.getElem?_drop] at hi
        exact ⟨h4 _ _ hi, h6 i c (by omega) hi⟩
    · have := xc_f hc
      dsimp only at this
      omega
  | succ m ih =>
    intro k A f hm hk h1 h2 h4 h5 h6 K
    have hNi : (nI t.length).toInt = (t.length : Int) := nI_toInt (by omega)
    have hKi : (nI (D + k)).toInt = ((D + k : Nat) : Int) := nI_toInt (by omega)
    have hki : (nI k).toInt = (k : Int) := nI_toInt (by omega)
    have hCi : (nI cap).toInt = (cap : Int) := nI_toInt (by omega)
    refine xP_s rfl rfl rfl ?_
    refine xP_s rfl rfl rfl ?_
    refine xP_get rfl h1 rfl ?_
    refine xP_s rfl rfl rfl ?_
    refine xP_if (fun hc => ?_) (fun hc => ?_)
    · have hq := xc_t hc
      dsimp only at hq
      repeat' first
        | refine xP_s rfl rfl rfl ?_
        | refine xP_put rfl h1 (Nat.le_of_ble_eq_true rfl) rfl ?_
        | refine xP_ret rfl rfl rfl ?_
      have hl : (t.drop D).length = k := by rw [List.length_drop]; omega
      refine K _ ⟨f, ?_, by rw [xset_ne (by omega)]; exact h2, by omega, fun i c hi => ?_⟩ ((xSame.set _ _).wider (by simp))
      · rw [xset_eq h1, hl]
        rfl
      · have hlt := (List.getElem?_eq_some_iff.mp hi).1
        rw [List.getElem?_drop] at hi
        exact ⟨h4 _ _ hi, h6 i c (by omega) hi⟩
    · have hq := xc_f hc
      dsimp only at hq
      repeat' first
        | refine xP_s rfl rfl rfl ?_
        | refine xP_get rfl h1 rfl ?_
        | refine xP_alen rfl h2 ha ?_
        | refine xP_if (fun hc => ?_) (fun hc => ?_)
      · have hq2 := xc_t hc
        dsimp only at hq2
        omega
      · obtain ⟨c, hcc⟩ : ∃ c, t[D + k]? = some c := ⟨t[D + k]'(by omega), List.getElem?_eq_getElem (by omega)⟩
        refine xP_cal rfl h2 (xib_of (by omega) (by omega)) ?_
        have hv : f (nI (D + k)).toNatClampNeg = nI c := by rw [nI_clamp (by omega)]; exact h5 _ _ (by omega) hcc
        rw [hv]
        refine xP_cas rfl h2 (xib_of (by omega) (by omega)) ?_
        rw [x_char (by have := h4 _ _ hcc; omega), nI_clamp (by omega)]
        refine xP_s rfl rfl rfl ?_
        refine xP_s rfl rfl rfl ?_
        refine xP_s rfl rfl rfl ?_
        have e1 : nI k + 1 = nI (k + 1) := nI_1 k
        have e2 : nI (D + k) + 1 = nI (D + (k + 1)) := nI_1 (D + k)
        have go := ih (k + 1) (A.set (a + 1) (.inl (.char, cap, .inl (upd f k (nI c))))) (upd f k (nI c)) (by omega) (Or.inr (by omega)) (by rw [xset_ne (by omega)]; exact h1) (xset_eq h2) h4 (fun i c' hi hc' => by rw [pk_un (by omega)]; exact h5 i c' (by omega) hc') (fun i c' hi hc' => by
          by_cases hik : i = k
          · subst hik
            rw [hcc] at hc'
            cases hc'
            exact pk_us
          · rw [pk_un hik]
            exact h6 i c' (by omega) hc') (fun A' r1 r2 => K A' r1 (((xSame.set _ _).trans r2).wider (by simp)))
        rw [← e1, ← e2] at go
        exact go
set_option maxRecDepth 100000 in
/-- dropFirst -/
theorem p_dropFirst {sc : xSc} {d g a cap D : Nat} {A : List xC} {t : List Nat} {P : xO → xH → Prop} (hr : xRw A a cap t) (hcap : cap < 2 ^ 30) (ha : ¬ a + 1 = xscr) (hD : D < 2 ^ 30) (k : ∀ A', xRw A' a cap (t.drop D) → xSame A A' [a, a + 1] → P (.inl none) (A', g)) : xM1 sc d 16 [.ref a, .int (nI D)] (A, g) P := by
  obtain ⟨f, h1, h2, h3, h4⟩ := id hr
  have hDi : (nI D).toInt = (D : Int) := nI_toInt (by omega)
  have hz : (0 : Int32).toInt = 0 := rfl
  have loop := p_dropLoop (sc := sc) (d := d) (g := g) (P := P) hcap ha hD h3 t.length 0 A f (by omega) (Or.inl rfl) h1 h2 (fun i c hi => (h4 i c hi).1) (fun i c _ hi => (h4 i c hi).2) (fun i c hi => absurd hi (Nat.not_lt_zero _)) k
  unfold xM1
  refine xP_s rfl rfl rfl ?_
  refine xP_s rfl rfl rfl ?_
  refine xP_s rfl rfl rfl ?_
  refine xP_s rfl rfl rfl ?_
  refine xP_if (fun hc => ?_) (fun hc => ?_)
  · have hq := xc_t hc
    dsimp only at hq
    have h0 : D = 0 := by omega
    subst h0
    refine xP_s rfl rfl rfl ?_
    refine xP_s rfl rfl rfl ?_
    exact loop
  · refine xP_s rfl rfl rfl ?_
    refine xP_s rfl rfl rfl ?_
    refine xP_s rfl rfl rfl ?_
    exact loop
end
section
-- Chars: kinds of characters
/-- a boolean as the machine has it -/
def xb (c : Bool) : Int32 := if c = true then 1 else 0
theorem xb_t : xb true = 1 := rfl
theorem xb_f : xb false = 0 := rfl
theorem xb_01 (c : Bool) : (xb c == 0 || xb c == 1) = true := by cases c <;> rfl
theorem xb_ne0 (c : Bool) : xcmp .ne (xb c) 0 = c := by cases c <;> rfl
theorem xb_eq0 (c : Bool) : xcmp .eq (xb c) 0 = !c := by cases c <;> rfl
/-- between two numbers -/
def iIn (lo hi : Int) (x : Int32) : Bool := decide (lo ≤ x.toInt) && decide (x.toInt ≤ hi)
set_option maxRecDepth 100000 in
theorem p_isPrintable {sc : xSc} {d g : Nat} {A : List xC} {x : Int32} {P : xO → xH → Prop} (k : P (.inl (some (.int (xb (iIn 32 126 x))))) (A, g)) : xM1 sc d 200 [.int x] (A, g) P := by
  have h1 : (32 : Int32).toInt = 32 := rfl
  have h2 : (126 : Int32).toInt = 126 := rfl
  unfold xM1
  repeat' first
    | refine xP_s rfl rfl rfl ?_
    | refine xP_if (fun hc => ?_) (fun hc => ?_)
    | refine xP_ret rfl rfl rfl ?_
  · have q1 := xc_t hc
    dsimp only at q1
    have e : iIn 32 126 x = false := by simp only [iIn, Bool.and_eq_false_iff, decide_eq_false_iff_not]; omega
    rw [e] at k
    exact k
  · have q1 := xc_t hc
    dsimp only at q1
    have e : iIn 32 126 x = false := by simp only [iIn, Bool.and_eq_false_iff, decide_eq_false_iff_not]; omega
    rw [e] at k
    exact k
  · rename_i hc1
    have q1 := xc_f hc1
    have q2 := xc_f hc
    dsimp only at q1 q2
    have e : iIn 32 126 x = true := by simp only [iIn, Bool.and_eq_true, decide_eq_true_eq]; omega
    rw [e] at k
    exact k
set_option maxRecDepth 100000 in
theorem p_isSmall {sc : xSc} {d g : Nat} {A : List xC} {x : Int32} {P : xO → xH → Prop} (k : P (.inl (some (.int (xb (iIn 97 122 x))))) (A, g)) : xM1 sc d 201 [.int x] (A, g) P := by
  have h1 : (97 : Int32).toInt = 97 := rfl
  have h2 : (122 : Int32).toInt = 122 := rfl
  unfold xM1
  repeat' first
    | refine xP_s rfl rfl rfl ?_
    | refine xP_if (fun hc => ?_) (fun hc => ?_)
    | refine xP_ret rfl rfl rfl ?_
  · have q1 := xc_t hc
    dsimp only at q1
    have e : iIn 97 122 x = false := by simp only [iIn, Bool.and_eq_false_iff, decide_eq_false_iff_not]; omega
    rw [e] at k
    exact k
  · have q1 := xc_t hc
    dsimp only at q1
    have e : iIn 97 122 x = false := by simp only [iIn, Bool.and_eq_false_iff, decide_eq_false_iff_not]; omega
    rw [e] at k
    exact k
  · rename_i hc1
    have q1 := xc_f hc1
    have q2 := xc_f hc
    dsimp only at q1 q2
    have e : iIn 97 122 x = true := by simp only [iIn, Bool.and_eq_true, decide_eq_true_eq]; omega
    rw [e] at k
    exact k
set_option maxRecDepth 100000 in
theorem p_isLarge {sc : xSc} {d g : Nat} {A : List xC} {x : Int32} {P : xO → xH → Prop} (k : P (.inl (some (.int (xb (iIn 65 90 x))))) (A, g)) : xM1 sc d 202 [.int x] (A, g) P := by
  have h1 : (65 : Int32).toInt = 65 := rfl
  have h2 : (90 : Int32).toInt = 90 := rfl
  unfold xM1
  repeat' first
    | refine xP_s rfl rfl rfl ?_
    | refine xP_if (fun hc => ?_) (fun hc => ?_)
    | refine xP_ret rfl rfl rfl ?_
  · have q1 := xc_t hc
    dsimp only at q1
    have e : iIn 65 90 x = false := by simp only [iIn, Bool.and_eq_false_iff, decide_eq_false_iff_not]; omega
    rw [e] at k
    exact k
  · have q1 := xc_t hc
    dsimp only at q1
    have e : iIn 65 90 x = false := by simp only [iIn, Bool.and_eq_false_iff, decide_eq_false_iff_not]; omega
    rw [e] at k
    exact k
  · rename_i hc1
    have q1 := xc_f hc1
    have q2 := xc_f hc
    dsimp only at q1 q2
    have e : iIn 65 90 x = true := by simp only [iIn, Bool.and_eq_true, decide_eq_true_eq]; omega
    rw [e] at k
    exact k
set_option maxRecDepth 100000 in
theorem p_isDigit {sc : xSc} {d g : Nat} {A : List xC} {x : Int32} {P : xO → xH → Prop} (k : P (.inl (some (.int (xb (iIn 48 57 x))))) (A, g)) : xM1 sc d 203 [.int x] (A, g) P := by
  have h1 : (48 : Int32).toInt = 48 := rfl
  have h2 : (57 : Int32).toInt = 57 := rfl
  unfold xM1
  repeat' first
    | refine xP_s rfl rfl rfl ?_
    | refine xP_if (fun hc => ?_) (fun hc => ?_)
    | refine xP_ret rfl rfl rfl ?_
  · have q1 := xc_t hc
    dsimp only at q1
    have e : iIn 48 57 x = false := by simp only [iIn, Bool.and_eq_false_iff, decide_eq_false_iff_not]; omega
    rw [e] at k
    exact k
  · have q1 := xc_t hc
    dsimp only at q1
    have e : iIn 48 57 x = false := by simp only [iIn, Bool.and_eq_false_iff, decide_eq_false_iff_not]; omega
    rw [e] at k
    exact k
  · rename_i hc1
    have q1 := xc_f hc1
    have q2 := xc_f hc
    dsimp only at q1 q2
    have e : iIn 48 57 x = true := by simp only [iIn, Bool.and_eq_true, decide_eq_true_eq]; omega
    rw [e] at k
    exact k
def isW (x : Int32) : Bool := iIn 97 122 x || (iIn 65 90 x || (iIn 48 57 x || decide (x.toInt = 95)))
set_option maxRecDepth 100000 in
theorem p_isWord {sc : xSc} {d g : Nat} {A : List xC} {x : Int32} {P : xO → xH → Prop} (k : P (.inl (some (.int (xb (isW x))))) (A, g)) : xM1 sc (d + 1) 204 [.int x] (A, g) P := by
  have h1 : (95 : Int32).toInt = 95 := rfl
  unfold xM1
  repeat' first
    | refine xP_s rfl rfl rfl ?_
    | refine xP_call rfl rfl rfl (p_isSmall ?_)
    | refine xP_call rfl rfl rfl (p_isLarge ?_)
    | refine xP_call rfl rfl rfl (p_isDigit ?_)
    | refine xP_if (fun hc => ?_) (fun hc => ?_)
    | refine xP_ret rfl rfl rfl ?_
  all_goals
    simp only [xb_ne0, xb_eq0, Bool.not_eq_true'] at *
    try simp only [xc_i, h1, decide_eq_true_eq, decide_eq_false_iff_not, Decidable.not_not] at *
    simp_all [isW, xb]
end
section
-- switches; signs, marks, digits; packed names
theorem xP_sw {sc : xSc} {d mi : Nat} {ls : xL} {st : List Value} {h : xH} {P : xO → xH → Prop} {df : Nat} {x : Int32} : ∀ {l : List (Int32 × Nat)}, (∀ q ∈ l, x = q.1 → xP sc d mi q.2 ls st h P) → ((∀ q ∈ l, ¬ x = q.1) → xP sc d mi df ls st h P) → xP sc d mi (xsw df x l) ls st h P
  | [], _, kd => kd (fun q hq => absurd hq List.not_mem_nil)
  | q :: r, kq, kd => by
    unfold xsw
    split
    next h1 => exact kq q List.mem_cons_self h1
    next h1 => exact xP_sw (fun z hz => kq z (List.mem_cons_of_mem _ hz)) (fun hz => kd (fun z hm => by
      rcases List.mem_cons.mp hm with e | e
      · subst e; exact h1
      · exact hz z e))
def sgL : List Nat := [35, 36, 38, 42, 43, 45, 46, 47, 58, 60, 61, 62, 63, 64, 92, 94, 126]
def pnL : List Nat := [40, 41, 44, 91, 93, 123, 124, 125]
def isSm (c : Nat) : Bool := decide (97 ≤ c) && decide (c ≤ 122)
def isLg (c : Nat) : Bool := decide (65 ≤ c) && decide (c ≤ 90)
def isDg (c : Nat) : Bool := decide (48 ≤ c) && decide (c ≤ 57)
def isWd (c : Nat) : Bool := isSm c || (isLg c || (isDg c || decide (c = 95)))
def isSg (c : Nat) : Bool := sgL.contains c
def isPn (c : Nat) : Bool := pnL.contains c
def sgI (x : Int32) : Bool := [35, 36, 38, 42, 43, 45, 46, 47, 58, 60, 61, 62, 63, 64, 92, 94, 126].contains x
def pnI (x : Int32) : Bool := [40, 41, 44, 91, 93, 123, 124, 125].contains x
theorem iIn_nI {lo hi c : Nat} (h : c < 2 ^ 31) : iIn lo hi (nI c) = (decide (lo ≤ c) && decide (c ≤ hi)) := by
  unfold iIn
  rw [nI_toInt h]
  simp
theorem isW_nI {c : Nat} (h : c < 2 ^ 31) : isW (nI c) = isWd c := by
  unfold isW isWd
  have e1 : iIn 97 122 (nI c) = isSm c := iIn_nI (lo := 97) (hi := 122) h
  have e2 : iIn 65 90 (nI c) = isLg c := iIn_nI (lo := 65) (hi := 90) h
  have e3 : iIn 48 57 (nI c) = isDg c := iIn_nI (lo := 48) (hi := 57) h
  rw [e1, e2, e3, nI_toInt h]
  have e4 : decide ((c : Int) = 95) = decide (c = 95) := decide_eq_decide.mpr (by omega)
  rw [e4]
theorem sgI_nI : ∀ c, c < 128 → sgI (nI c) = isSg c := by decide
theorem pnI_nI : ∀ c, c < 128 → pnI (nI c) = isPn c := by decide
set_option maxRecDepth 100000 in
theorem p_isSign {sc : xSc} {d g : Nat} {A : List xC} {x : Int32} {P : xO → xH → Prop} (k : P (.inl (some (.int (xb (sgI x))))) (A, g)) : xM1 sc d 205 [.int x] (A, g) P := by
  unfold xM1
  refine xP_s rfl rfl rfl ?_
  refine xP_s rfl rfl rfl ?_
  refine xP_sw (fun q hq hx => ?_) (fun hx => ?_)
  · have e : sgI x = true := by
      subst hx
      clear k
      revert q
      decide
    have e2 : q.2 = 148 := by
      clear hx e k
      revert q
      decide
    rw [e2]
    rw [e] at k
    repeat' first
      | refine xP_s rfl rfl rfl ?_
      | refine xP_ret rfl rfl rfl ?_
    exact k
  · have e : sgI x = false := by
      simp only [List.mem_cons, List.not_mem_nil, or_false, forall_eq_or_imp, forall_eq] at hx
      simp [sgI, hx]
    rw [e] at k
    repeat' first
      | refine xP_s rfl rfl rfl ?_
      | refine xP_ret rfl rfl rfl ?_
    exact k
set_option maxRecDepth 100000 in
theorem p_isPunctuation {sc : xSc} {d g : Nat} {A : List xC} {x : Int32} {P : xO → xH → Prop} (k : P (.inl (some (.int (xb (pnI x))))) (A, g)) : xM1 sc d 206 [.int x] (A, g) P := by
  unfold xM1
  refine xP_s rfl rfl rfl ?_
  refine xP_s rfl rfl rfl ?_
  refine xP_sw (fun q hq hx => ?_) (fun hx => ?_)
  · have e : pnI x = true := by
      subst hx
      clear k
      revert q
      decide
    have e2 : q.2 = 76 := by
      clear hx e k
      revert q
      decide
    rw [e2]
    rw [e] at k
    repeat' first
      | refine xP_s rfl rfl rfl ?_
      | refine xP_ret rfl rfl rfl ?_
    exact k
  · have e : pnI x = false := by
      simp only [List.mem_cons, List.not_mem_nil, or_false, forall_eq_or_imp, forall_eq] at hx
      simp [pnI, hx]
    rw [e] at k
    repeat' first
      | refine xP_s rfl rfl rfl ?_
      | refine xP_ret rfl rfl rfl ?_
    exact k
/-- what a digit is worth -/
def dgI (b : Bool) (x : Int32) : Int32 := if iIn 48 57 x then x - 48 else if b && iIn 97 102 x then x - 97 + 10 else -1
set_option maxRecDepth 100000 in
theorem p_digit {sc : xSc} {d g : Nat} {A : List xC} {x : Int32} {b : Bool} {P : xO → xH → Prop} (k : P (.inl (some (.int (dgI b x)))) (A, g)) : xM1 sc (d + 1) 207 [.int x, .int (if b then 16 else 10)] (A, g) P := by
  have h1 : (97 : Int32).toInt = 97 := rfl
  have h2 : (102 : Int32).toInt = 102 := rfl
  unfold xM1
  cases b
  · repeat' first
      | refine xP_s rfl rfl rfl ?_
      | refine xP_call rfl rfl rfl (p_isDigit ?_)
      | refine xP_if (fun hc => ?_) (fun hc => ?_)
      | refine xP_ret rfl rfl rfl ?_
    all_goals
      simp only [xb_ne0, xb_eq0, Bool.not_eq_true', Bool.not_eq_false'] at *
    all_goals simp_all [dgI]
  · repeat' first
      | refine xP_s rfl rfl rfl ?_
      | refine xP_call rfl rfl rfl (p_isDigit ?_)
      | refine xP_if (fun hc => ?_) (fun hc => ?_)
      | refine xP_ret rfl rfl rfl ?_
    · have t1 := xc_t hc
      dsimp only at t1
      have e : iIn 97 102 x = false := by simp only [iIn, Bool.and_eq_false_iff, decide_eq_false_iff_not]; omega
      simp_all [dgI, xb_eq0]
    · have t1 := xc_t hc
      dsimp only at t1
      have e : iIn 97 102 x = false := by simp only [iIn, Bool.and_eq_false_iff, decide_eq_false_iff_not]; omega
      simp_all [dgI, xb_eq0]
    · rename_i q
      have t1 := xc_f hc
      have t2 := xc_f q
      dsimp only at t1 t2
      have e : iIn 97 102 x = true := by simp only [iIn, Bool.and_eq_true, decide_eq_true_eq]; omega
      simp_all [dgI, xb_eq0]
    · simp_all [dgI, xb_eq0]
/-- a byte of a long -/
def bN (s : Int64) (i : Nat) : Nat := s.toBitVec.toNat / 256 ^ i % 256
theorem bN_lt (s : Int64) (i : Nat) : bN s i < 256 := Nat.mod_lt _ (by omega)
/-- the bytes from i on, up to the first that is 0 -/
def tx (s : Int64) : Nat → Nat → List Nat
  | 0, _ => []
  | n + 1, i => if bN s i = 0 then [] else bN s i :: tx s n (i + 1)
abbrev txt (s : Int64) : List Nat := tx s 8 0
theorem x_byteL (s : Int64) : ∀ i, i < 8 → ((s.toUInt64 >>> ((8 * nI i).toInt64.toUInt64 &&& Int64.toUInt64 63)).toInt64 &&& 255) = lN (bN s i) := by
  intro i hi
  have hsh : ((8 * nI i).toInt64.toUInt64 &&& Int64.toUInt64 63) = UInt64.ofNat (8 * i) := by
    revert i
    decide
  rw [hsh]
  have h8 : (256 : Nat) ^ i = 2 ^ (8 * i) := by rw [Nat.pow_mul]
  apply Int64.toBitVec_inj.mp
  apply BitVec.eq_of_toNat_eq
  have e1 : ((255 : Int64)).toBitVec = 255#64 := rfl
  have hm : 8 * i % 18446744073709551616 % 64 = 8 * i := by omega
  rw [Int64.toBitVec_and, e1, BitVec.toNat_and]
  have e2 : (s.toUInt64 >>> UInt64.ofNat (8 * i)).toInt64.toBitVec.toNat = s.toBitVec.toNat / 2 ^ (8 * i) := by
    show (s.toUInt64 >>> UInt64.ofNat (8 * i)).toBitVec.toNat = _
    show (s.toUInt64.toBitVec >>> ((UInt64.ofNat (8 * i)).toBitVec % 64).toNat).toNat = _
    rw [BitVec.toNat_ushiftRight, BitVec.toNat_umod]
    rw [Nat.shiftRight_eq_div_pow]
    have : (UInt64.ofNat (8 * i)).toBitVec.toNat = 8 * i := Nat.mod_eq_of_lt (by omega)
    rw [this]
    have : 8 * i % BitVec.toNat (64 : BitVec 64) = 8 * i := Nat.mod_eq_of_lt (by show _ < 64; omega)
    rw [this]
    rfl
  rw [e2]
  have e3 : (255#64).toNat = 2 ^ 8 - 1 := rfl
  rw [e3, Nat.and_two_pow_sub_one_eq_mod]
  have e4 : (lN (bN s i)).toBitVec.toNat = bN s i := Nat.mod_eq_of_lt (by unfold bN; omega)
  rw [e4, bN, h8]
/-- lN and packed names -/
def pn : List Nat → Nat
  | [] => 0
  | c :: l => c + 256 * pn l
theorem pn_tx (s : Int64) : ∀ n i, pn (tx s n i) = s.toBitVec.toNat / 256 ^ i % 256 ^ (tx s n i).length
  | 0, i => by simp [tx, pn, Nat.mod_one]
  | n + 1, i => by
    unfold tx
    split
    · simp [pn, Nat.mod_one]
    · rw [pn, pn_tx s n (i + 1), List.length_cons, Nat.pow_succ (m := (tx s n (i + 1)).length), Nat.mul_comm (256 ^ (tx s n (i + 1)).length) 256, Nat.mod_mul, bN, Nat.pow_succ, Nat.div_div_eq_div_mul]
theorem tx_len (s : Int64) : ∀ n i, (tx s n i).length ≤ n
  | 0, i => by simp [tx]
  | n + 1, i => by
    unfold tx
    split
    · simp
    · have := tx_len s n (i + 1)
      simp
      omega
theorem tx_get (s : Int64) : ∀ n i k c, (tx s n i)[k]? = some c → bN s (i + k) = c ∧ c ≠ 0
  | 0, i, k, c, h => by simp [tx] at h
  | n + 1, i, k, c, h => by
    unfold tx at h
    split at h
    · simp at h
    · rename_i hz
      match k, h with
      | 0, h =>
        simp at h
        exact ⟨h, h ▸ hz⟩
      | k + 1, h =>
        simp at h
        have := tx_get s n (i + 1) k c h
        rwa [Nat.add_right_comm, Nat.add_assoc i k 1] at this
theorem tx_end (s : Int64) : ∀ n i, (tx s n i).length < n → bN s (i + (tx s n i).length) = 0
  | 0, i, h => by omega
  | n + 1, i, h => by
    unfold tx at h ⊢
    split
    next hz => simpa using hz
    next hz =>
      rw [if_neg hz] at h
      simp at h
      have := tx_end s n (i + 1) h
      rw [List.length_cons, ← Nat.add_assoc, Nat.add_right_comm]
      exact this
theorem lN_bv {n : Nat} (h : n < 2 ^ 64) : (lN n).toBitVec.toNat = n := Nat.mod_eq_of_lt h
theorem x_or {a c i : Nat} (hi : i < 8) (ha : a < 256 ^ i) (hc : c < 256) : lN a ||| ((lN c &&& 255) <<< ((8 * nI i).toInt64 &&& 63)) = lN (a + c * 256 ^ i) := by
  have hsh : ((8 * nI i).toInt64 &&& 63) = Int64.ofNat (8 * i) := by
    clear ha
    revert i
    decide
  rw [hsh]
  have h8 : (256 : Nat) ^ i = 2 ^ (8 * i) := by rw [Nat.pow_mul]
  have hb : (2 : Nat) ^ (8 * i) * 256 ≤ 2 ^ 64 := by
    rw [show (256 : Nat) = 2 ^ 8 from rfl, ← Nat.pow_add]
    exact Nat.pow_le_pow_right (by omega) (by omega)
  have hm : c * 256 ^ i + 256 ^ i ≤ 2 ^ 64 := by
    rw [h8]
    have := Nat.mul_le_mul_right (2 ^ (8 * i)) (show c + 1 ≤ 256 by omega)
    rw [Nat.add_mul, Nat.one_mul, Nat.mul_comm 256] at this
    omega
  apply Int64.toBitVec_inj.mp
  apply BitVec.eq_of_toNat_eq
  rw [lN_bv (by omega), Int64.toBitVec_or, BitVec.toNat_or, lN_bv (by omega)]
  have e1 : ((lN c &&& 255) <<< Int64.ofNat (8 * i)).toBitVec.toNat = c * 2 ^ (8 * i) := by
    show ((lN c &&& 255).toBitVec <<< ((Int64.ofNat (8 * i)).toBitVec.smod 64).toNat).toNat = _
    have e0 : ((Int64.ofNat (8 * i)).toBitVec.smod 64).toNat = 8 * i := by
      clear ha hm hsh h8 hb
      revert i
      decide
    have e2 : ((255 : Int64)).toBitVec = 255#64 := rfl
    have e3 : (255#64).toNat = 2 ^ 8 - 1 := rfl
    rw [e0, BitVec.toNat_shiftLeft, Int64.toBitVec_and, BitVec.toNat_and, e2, e3, Nat.and_two_pow_sub_one_eq_mod, lN_bv (by omega), Nat.mod_eq_of_lt (show c < 2 ^ 8 by omega), Nat.shiftLeft_eq]
    exact Nat.mod_eq_of_lt (by rw [← h8]; omega)
  rw [e1, h8, Nat.or_comm, Nat.add_comm, ← Nat.shiftLeft_eq, Nat.shiftLeft_add_eq_or_of_lt (by rw [← h8]; exact ha)]
theorem x_and (s : Int64) {i : Nat} (hi : i < 8) : s &&& ((1 : Int64) <<< ((8 * nI i).toInt64 &&& 63) - 1) = lN (s.toBitVec.toNat % 256 ^ i) := by
  have h8 : (256 : Nat) ^ i = 2 ^ (8 * i) := by rw [Nat.pow_mul]
  have hsh : ((1 : Int64) <<< ((8 * nI i).toInt64 &&& 63) - 1).toBitVec.toNat = 2 ^ (8 * i) - 1 := by
    clear h8
    revert i
    decide
  apply Int64.toBitVec_inj.mp
  apply BitVec.eq_of_toNat_eq
  rw [Int64.toBitVec_and, BitVec.toNat_and, hsh, Nat.and_two_pow_sub_one_eq_mod, h8]
  exact (lN_bv (by have := Nat.mod_le s.toBitVec.toNat (2 ^ (8 * i)); omega)).symm
theorem lN_bvs (s : Int64) : lN s.toBitVec.toNat = s := by
  apply Int64.toBitVec_inj.mp
  apply BitVec.eq_of_toNat_eq
  exact lN_bv s.toBitVec.isLt
/-- the name that a long tells, as it is kept -/
def trm (s : Int64) : Int64 := lN (pn (txt s))
set_option maxRecDepth 100000 in
theorem p_byteAt {sc : xSc} {d g i : Nat} {A : List xC} {s : Int64} {P : xO → xH → Prop} (hi : i < 8) (k : P (.inl (some (.int (nI (bN s i))))) (A, g)) : xM1 sc d 208 [.long s, .int (nI i)] (A, g) P := by
  have hI : (nI i).toInt = (i : Int) := nI_toInt (by omega)
  have h8 : (8 : Int32).toInt = 8 := rfl
  have h0 : (0 : Int32).toInt = 0 := rfl
  unfold xM1
  repeat' first
    | refine xP_s rfl rfl rfl ?_
    | refine xP_if (fun hc => ?_) (fun hc => ?_)
    | refine xP_ret rfl rfl rfl ?_
  · have := xc_t hc
    dsimp only at this
    omega
  · have := xc_t hc
    dsimp only at this
    omega
  · have e := x_byteL s i hi
    rw [← lN_i, ← e] at k
    exact k
set_option maxRecDepth 100000 in
theorem p_sizeLoop {sc : xSc} {d g : Nat} {A : List xC} {s : Int64} {P : xO → xH → Prop} : ∀ m i, i + m = 8 → P (.inl (some (.int (nI (i + (tx s m i).length))))) (A, g) → xP sc (d + 1) 209 2 [(0, .long s), (2, .int (nI i))] [] (A, g) P
  | 0, i, hm, k => by
    have hI : (nI i).toInt = (i : Int) := nI_toInt (by omega)
    have h8 : (8 : Int32).toInt = 8 := rfl
    refine xP_s rfl rfl rfl ?_
    refine xP_s rfl rfl rfl ?_
    refine xP_s rfl rfl rfl ?_
    refine xP_if (fun hc => ?_) (fun hc => ?_)
    · repeat' first
        | refine xP_s rfl rfl rfl ?_
        | refine xP_ret rfl rfl rfl ?_
      have e : i = 8 := by omega
      subst e
      exact k
    · have := xc_f hc
      dsimp only at this
      omega
  | m + 1, i, hm, k => by
    have hI : (nI i).toInt = (i : Int) := nI_toInt (by omega)
    have h8 : (8 : Int32).toInt = 8 := rfl
    have h0 : (0 : Int32).toInt = 0 := rfl
    have hb := bN_lt s i
    have hB : (nI (bN s i)).toInt = (bN s i : Int) := nI_toInt (by omega)
    unfold tx at k
    refine xP_s rfl rfl rfl ?_
    refine xP_s rfl rfl rfl ?_
    refine xP_s rfl rfl rfl ?_
    refine xP_if (fun hc => ?_) (fun hc => ?_)
    · have := xc_t hc
      dsimp only at this
      omega
    · refine xP_s rfl rfl rfl ?_
      refine xP_s rfl rfl rfl ?_
      refine xP_call rfl rfl rfl (p_byteAt (by omega) ?_)
      refine xP_s rfl rfl rfl ?_
      refine xP_if (fun hc => ?_) (fun hc => ?_)
      · have hz := xc_t hc
        dsimp only at hz
        rw [if_neg (by omega)] at k
        refine xP_s rfl rfl rfl ?_
        refine xP_s rfl rfl rfl ?_
        have go := p_sizeLoop (sc := sc) (d := d) (g := g) (A := A) (s := s) (P := P) m (i + 1) (by omega) (by
          rw [List.length_cons] at k
          rw [show i + 1 + (tx s m (i + 1)).length = i + ((tx s m (i + 1)).length + 1) by omega]
          exact k)
        rw [← nI_1] at go
        exact go
      · have hz := xc_f hc
        dsimp only at hz
        rw [if_pos (by omega)] at k
        repeat' first
          | refine xP_s rfl rfl rfl ?_
          | refine xP_ret rfl rfl rfl ?_
        exact k
set_option maxRecDepth 100000 in
theorem p_size {sc : xSc} {d g : Nat} {A : List xC} {s : Int64} {P : xO → xH → Prop} (k : P (.inl (some (.int (nI (txt s).length)))) (A, g)) : xM1 sc (d + 1) 209 [.long s] (A, g) P := by
  unfold xM1
  refine xP_s rfl rfl rfl ?_
  refine xP_s rfl rfl rfl ?_
  exact p_sizeLoop 8 0 rfl (by simpa using k)
set_option maxRecDepth 100000 in
theorem p_trimmed {sc : xSc} {d g : Nat} {A : List xC} {s : Int64} {P : xO → xH → Prop} (k : P (.inl (some (.long (trm s)))) (A, g)) : xM1 sc (d + 2) 210 [.long s] (A, g) P := by
  have hl : (txt s).length ≤ 8 := tx_len s 8 0
  have hI : (nI (txt s).length).toInt = ((txt s).length : Int) := nI_toInt (by omega)
  have h8 : (8 : Int32).toInt = 8 := rfl
  have ht : pn (txt s) = s.toBitVec.toNat / 256 ^ 0 % 256 ^ (txt s).length := pn_tx s 8 0
  rw [Nat.pow_zero, Nat.div_one] at ht
  unfold xM1
  repeat' first
    | refine xP_s rfl rfl rfl ?_
    | refine xP_call rfl rfl rfl (p_size ?_)
    | refine xP_if (fun hc => ?_) (fun hc => ?_)
    | refine xP_ret rfl rfl rfl ?_
  · have hz := xc_t hc
    dsimp only at hz
    have e := x_and s (i := (txt s).length) (by omega)
    unfold trm at k
    rw [ht, ← e] at k
    exact k
  · have hz := xc_f hc
    dsimp only at hz
    have e : (txt s).length = 8 := by omega
    unfold trm at k
    rw [ht, e, Nat.mod_eq_of_lt (by exact s.toBitVec.isLt), lN_bvs] at k
    exact k
end
section
-- calls on objects; packed names of rows; operators' names
def xcall0 (r : xRow) (st : List Value) : Option (List Value × List Value) :=
  if r.2.2.2.1 ≤ st.length then (if ((st.drop r.2.2.2.1).map fun v => v.category).sum ≤ 8 then (if (lg_sl (st.take r.2.2.2.1).reverse).length ≤ (xme r.2.2.1).2.2.1 then some ((st.take r.2.2.2.1).reverse, st.drop r.2.2.2.1) else none) else none) else none
theorem xcall0_of {r : xRow} {st : List Value} {A : List xC} {q : List Value × List Value} {a ci : Nat} {fs tl : List Value} (hq : xcall0 r st = some q) (hci : (xme r.2.2.1).2.2.2.2.1 = ci) (hq1 : q.1 = .ref a :: tl) (hA : A[a]? = some (.inr (ci, fs))) : xcall r st A = some q := by
  unfold xcall0 at hq
  unfold xcall
  split at hq
  next h1 =>
    split at hq
    next h2 =>
      split at hq
      next h3 =>
        have e : q = ((st.take r.2.2.2.1).reverse, st.drop r.2.2.2.1) := (Option.some.inj hq).symm
        have e1 : (st.take r.2.2.2.1).reverse = .ref a :: tl := by rw [← hq1, e]
        have hrv : xrecv (xme r.2.2.1).2.2.2.2.1 A (st.take r.2.2.2.1).reverse = true := by
          unfold xrecv
          split
          · rfl
          · rw [e1]
            simp [hA, hci]
        rw [if_pos h1, if_pos h2, if_pos hrv, if_pos h3, e]
      next => cases hq
    next => cases hq
  next => cases hq
theorem xP_cv {sc : xSc} {d mi pc : Nat} {ls : xL} {st : List Value} {P : xO → xH → Prop} {r : xRow} {q : List Value × List Value} {A : List xC} {g a ci : Nat} {fs tl : List Value} (hrow : xrow mi pc = some r) (hk : xkd r = 2) (hq : xcall0 r st = some q) (hci : (xme r.2.2.1).2.2.2.2.1 = ci) (hq1 : q.1 = .ref a :: tl) (hA : A[a]? = some (.inr (ci, fs)))
    (k : xM1 sc d r.2.2.1 q.1 (A, g) (fun o h1 => match o with
      | .inl v => xP sc (d + 1) mi (pc + 3) ls (v.toList ++ q.2) h1 P
      | .inr ev => ∃ t, xhnd mi pc ev = some t ∧ xP sc (d + 1) mi t.1 (ls.filter fun z => !(z.1 == t.2)) [] h1 P)) : xP sc (d + 1) mi pc ls st (A, g) P :=
  xP_call hrow hk (xcall0_of hq hci hq1 hA) k
theorem xRw.obj {A : List xC} {a cap : Nat} {t : List Nat} (h : xRw A a cap t) : A[a]? = some (.inr (1, [.ref (a + 1), .int (nI t.length)])) := by
  obtain ⟨f, q1, _, _, _⟩ := h
  exact q1
theorem xRw.len {A : List xC} {a cap : Nat} {t : List Nat} (h : xRw A a cap t) : t.length ≤ cap := by
  obtain ⟨f, _, _, q, _⟩ := h
  exact q
theorem xRw.chr {A : List xC} {a cap : Nat} {t : List Nat} (h : xRw A a cap t) : ∀ c ∈ t, c < 128 := by
  obtain ⟨f, _, _, _, q⟩ := h
  intro c hc
  obtain ⟨i, hi⟩ := List.mem_iff_getElem?.mp hc
  exact (q i c hi).1
theorem cAt_get {t : List Nat} {i c : Nat} (hi : i < 2 ^ 31) (h : t[i]? = some c) : cAt t (nI i) = nI c := by
  have e := nI_toInt hi
  exact cAt_in (by omega) (by rw [e]; simpa using h)
theorem cAt_off {t : List Nat} {i : Nat} (hi : i < 2 ^ 31) (h : t[i]? = none) : cAt t (nI i) = -1 := by
  have e := nI_toInt hi
  have := List.getElem?_eq_none_iff.mp h
  exact cAt_out (by omega)
/-- the key of a name -/
def kL (l : List Nat) : Int64 := if 1 ≤ l.length ∧ l.length ≤ 8 then lN (pn l) else 0
theorem pn_lt : ∀ {l : List Nat}, (∀ c ∈ l, c < 256) → pn l < 256 ^ l.length
  | [], _ => by simp [pn]
  | c :: l, h => by
    have h1 := h c List.mem_cons_self
    have h2 := pn_lt (fun x hx => h x (List.mem_cons_of_mem c hx))
    rw [pn, List.length_cons, Nat.pow_succ]
    omega
theorem pn_snoc : ∀ (l : List Nat) (c : Nat), pn (l ++ [c]) = pn l + c * 256 ^ l.length
  | [], c => by simp [pn]
  | a :: l, c => by
    rw [List.cons_append, pn, pn, pn_snoc l c, List.length_cons, Nat.pow_succ, Nat.mul_add, Nat.mul_comm (256 ^ l.length) 256, Nat.mul_left_comm, Nat.add_assoc]
set_option maxRecDepth 100000 in
theorem p_ofRowLoop {sc : xSc} {d g a cap z : Nat} {A : List xC} {t l : List Nat} {P : xO → xH → Prop} (hr : xRw A a cap t) (hcap : cap < 2 ^ 30) (ha : ¬ a + 1 = xscr) (hl : l.length ≤ 8) (hz : z + l.length ≤ t.length) (hg : ∀ i c, l[i]? = some c → t[z + i]? = some c)
    (k : P (.inl (some (.long (lN (pn l))))) (A, g)) : ∀ m i, i + m = l.length → xP sc (d + 1) 212 18 [(0, .ref a), (1, .int (nI z)), (2, .int (nI l.length)), (3, .long (lN (pn (l.take i)))), (5, .int (nI i))] [] (A, g) P
  | 0, i, hm => by
    have hI : (nI i).toInt = (i : Int) := nI_toInt (by omega)
    have hL : (nI l.length).toInt = (l.length : Int) := nI_toInt (by omega)
    refine xP_s rfl rfl rfl ?_
    refine xP_s rfl rfl rfl ?_
    refine xP_s rfl rfl rfl ?_
    refine xP_if (fun hc => ?_) (fun hc => ?_)
    · repeat' first
        | refine xP_s rfl rfl rfl ?_
        | refine xP_ret rfl rfl rfl ?_
      rw [List.take_of_length_le (by omega)]
      exact k
    · have := xc_f hc
      dsimp only at this
      omega
  | m + 1, i, hm => by
    have hI : (nI i).toInt = (i : Int) := nI_toInt (by omega)
    have hL : (nI l.length).toInt = (l.length : Int) := nI_toInt (by omega)
    obtain ⟨c, hc0⟩ : ∃ c, l[i]? = some c := ⟨l[i]'(by omega), List.getElem?_eq_getElem (by omega)⟩
    have hlt := hr.chr
    have hc1 : c < 128 := hlt c (List.mem_of_getElem? (hg i c hc0))
    have hlen := hr.len
    refine xP_s rfl rfl rfl ?_
    refine xP_s rfl rfl rfl ?_
    refine xP_s rfl rfl rfl ?_
    refine xP_if (fun hc => ?_) (fun hc => ?_)
    · have := xc_t hc
      dsimp only at this
      omega
    · refine xP_s rfl rfl rfl ?_
      refine xP_s rfl rfl rfl ?_
      refine xP_s rfl rfl rfl ?_
      refine xP_s rfl rfl rfl ?_
      refine xP_s rfl rfl rfl ?_
      refine xP_cv rfl rfl rfl rfl rfl hr.obj (p_at hr (by omega) ha ?_)
      have e1 : nI z + nI i = nI (z + i) := nI_add z i
      rw [e1, cAt_get (by omega) (hg i c hc0)]
      have e2 : (nI c).toInt64 = lN c := nI_l (by omega)
      have hp : pn (l.take i) < 256 ^ i := by
        have := pn_lt (l := l.take i) (fun x hx => by
          obtain ⟨j, hj⟩ := List.mem_iff_getElem?.mp hx
          have hj2 : l[j]? = some x := by
            rw [List.getElem?_take] at hj
            split at hj
            · exact hj
            · cases hj
          have := hlt x (List.mem_of_getElem? (hg j x hj2))
          omega)
        rwa [List.length_take, Nat.min_eq_left (by omega)] at this
      have e3 := x_or (a := pn (l.take i)) (c := c) (i := i) (by omega) hp (by omega)
      have e4 : pn (l.take (i + 1)) = pn (l.take i) + c * 256 ^ i := by
        rw [List.take_add_one, hc0]
        simp only [Option.toList]
        rw [pn_snoc, List.length_take, Nat.min_eq_left (by omega)]
      have go := p_ofRowLoop (sc := sc) (d := d) (g := g) (P := P) hr hcap ha hl hz hg k m (i + 1) (by omega)
      rw [e4, ← e3, ← nI_1, ← e2] at go
      repeat' first
        | exact go
        | refine xP_s rfl rfl rfl ?_
set_option maxRecDepth 100000 in
theorem p_ofRow {sc : xSc} {d g a cap z n : Nat} {A : List xC} {t l : List Nat} {P : xO → xH → Prop} (hr : xRw A a cap t) (hcap : cap < 2 ^ 30) (ha : ¬ a + 1 = xscr) (hn : n = l.length) (hz : z + l.length ≤ t.length) (hg : ∀ i c, l[i]? = some c → t[z + i]? = some c)
    (k : P (.inl (some (.long (kL l)))) (A, g)) : xM1 sc (d + 1) 212 [.ref a, .int (nI z), .int (nI n)] (A, g) P := by
  subst hn
  have hlen := hr.len
  have hL : (nI l.length).toInt = (l.length : Int) := nI_toInt (by omega)
  have h1 : (1 : Int32).toInt = 1 := rfl
  have h8 : (8 : Int32).toInt = 8 := rfl
  unfold xM1
  refine xP_s rfl rfl rfl ?_
  refine xP_s rfl rfl rfl ?_
  refine xP_s rfl rfl rfl ?_
  refine xP_if (fun hc => ?_) (fun hc => ?_)
  · have := xc_t hc
    dsimp only at this
    repeat' first
      | refine xP_s rfl rfl rfl ?_
      | refine xP_ret rfl rfl rfl ?_
    unfold kL at k
    rw [if_neg (by omega)] at k
    exact k
  · have q := xc_f hc
    dsimp only at q
    refine xP_s rfl rfl rfl ?_
    refine xP_s rfl rfl rfl ?_
    refine xP_s rfl rfl rfl ?_
    refine xP_if (fun hc => ?_) (fun hc => ?_)
    · have := xc_t hc
      dsimp only at this
      unfold kL at k
      rw [if_pos (by omega)] at k
      refine xP_s rfl rfl rfl ?_
      refine xP_s rfl rfl rfl ?_
      refine xP_s rfl rfl rfl ?_
      refine xP_s rfl rfl rfl ?_
      exact p_ofRowLoop hr hcap ha (by omega) hz hg k l.length 0 (by omega)
    · have := xc_f hc
      dsimp only at this
      repeat' first
        | refine xP_s rfl rfl rfl ?_
        | refine xP_ret rfl rfl rfl ?_
      unfold kL at k
      rw [if_neg (by omega)] at k
      exact k
/-- what may be an operator's name -/
def opn (l : List Nat) : Bool := (l.all isSm || l.all isSg) && !(l.isEmpty || (l == [46] || l.take 2 == [47, 42]))
set_option maxRecDepth 100000 in
theorem sgI_nI2 : ∀ c, c < 256 → sgI (nI c) = isSg c := by decide

theorem sm_nI {c : Nat} (h : c < 2 ^ 31) : iIn 97 122 (nI c) = isSm c := iIn_nI (lo := 97) (hi := 122) h
theorem p_isSmallN {sc : xSc} {d g c : Nat} {A : List xC} {b : Bool} {P : xO → xH → Prop} (hb : isSm c = b) (hc : c < 2 ^ 31) (k : P (.inl (some (.int (xb b)))) (A, g)) : xM1 sc d 201 [.int (nI c)] (A, g) P := by
  refine p_isSmall ?_
  rw [sm_nI hc, hb]
  exact k
theorem p_isSignN {sc : xSc} {d g c : Nat} {A : List xC} {b : Bool} {P : xO → xH → Prop} (hb : isSg c = b) (hc : c < 256) (k : P (.inl (some (.int (xb b)))) (A, g)) : xM1 sc d 205 [.int (nI c)] (A, g) P := by
  refine p_isSign ?_
  rw [sgI_nI2 c hc, hb]
  exact k
/-- how many of them -/
def cnt (p : Nat → Bool) : List Nat → Nat
  | [] => 0
  | c :: l => (if p c then 1 else 0) + cnt p l
theorem cnt_le (p : Nat → Bool) : ∀ l, cnt p l ≤ l.length
  | [] => Nat.le_refl _
  | c :: l => by
    have := cnt_le p l
    rw [cnt, List.length_cons]
    split <;> omega
theorem cnt_all (p : Nat → Bool) : ∀ l, (cnt p l = l.length) ↔ (l.all p = true)
  | [] => by simp [cnt]
  | c :: l => by
    have h1 := cnt_le p l
    have h2 := cnt_all p l
    rw [cnt, List.length_cons, List.all_cons]
    cases hp : p c
    · simp
      omega
    · simp only [if_true, Bool.true_and]
      rw [← h2]
      omega
theorem nI_ite (p : Bool) (n : Nat) : nI n + (if p = true then (1 : Int32) else 0) = nI (n + if p = true then 1 else 0) := by
  cases p
  · exact nI_add n 0
  · exact nI_1 n
set_option maxRecDepth 100000 in
theorem p_opnLoop {sc : xSc} {d g : Nat} {A : List xC} {s : Int64} {n : Nat} {P : xO → xH → Prop} (hn : n ≤ 8) :
    ∀ m i x y, i + m = n → x ≤ i → y ≤ i → (∀ (x' y' : Nat), x' = x + cnt isSm ((List.range' i m).map (bN s)) → y' = y + cnt isSg ((List.range' i m).map (bN s)) → xP sc (d + 1) 213 67 [(0, .long s), (2, .int (nI n)), (3, .int (nI x')), (4, .int (nI y')), (5, .int (nI n))] [] (A, g) P) →
      xP sc (d + 1) 213 13 [(0, .long s), (2, .int (nI n)), (3, .int (nI x)), (4, .int (nI y)), (5, .int (nI i))] [] (A, g) P
  | 0, i, x, y, hm, hx, hy, k => by
    have hI : (nI i).toInt = (i : Int) := nI_toInt (by omega)
    have hL : (nI n).toInt = (n : Int) := nI_toInt (by omega)
    have e : i = n := by omega
    subst e
    refine xP_s rfl rfl rfl ?_
    refine xP_s rfl rfl rfl ?_
    refine xP_s rfl rfl rfl ?_
    refine xP_if (fun hc => ?_) (fun hc => ?_)
    · exact k x y rfl rfl
    · have := xc_f hc
      dsimp only at this
      omega
  | m + 1, i, x, y, hm, hx, hy, k => by
    have hI : (nI i).toInt = (i : Int) := nI_toInt (by omega)
    have hL : (nI n).toInt = (n : Int) := nI_toInt (by omega)
    have hb := bN_lt s i
    refine xP_s rfl rfl rfl ?_
    refine xP_s rfl rfl rfl ?_
    refine xP_s rfl rfl rfl ?_
    refine xP_if (fun hc => ?_) (fun hc => ?_)
    · have := xc_t hc
      dsimp only at this
      omega
    · have go := fun hx' hy' => p_opnLoop (sc := sc) (d := d) (g := g) (A := A) (s := s) (P := P) hn m (i + 1) (x + if isSm (bN s i) = true then 1 else 0) (y + if isSg (bN s i) = true then 1 else 0) (by omega) hx' hy' (fun x' y' e1 e2 => k x' y' (by
        rw [e1, List.range'_succ, List.map_cons, cnt, Nat.add_assoc]) (by
        rw [e2, List.range'_succ, List.map_cons, cnt, Nat.add_assoc]))
      have go1 := go (by split <;> omega) (by split <;> omega)
      rw [← nI_ite, ← nI_ite, ← nI_1] at go1
      cases hs : isSm (bN s i)
      · cases hg : isSg (bN s i)
        · rw [hs, hg] at go1
          repeat' first
            | exact go1
            | refine xP_s rfl rfl rfl ?_
            | refine xP_call rfl rfl rfl (p_byteAt (by omega) ?_)
            | refine xP_call rfl rfl rfl (p_isSmallN hs (by omega) ?_)
            | refine xP_call rfl rfl rfl (p_isSignN hg hb ?_)
        · rw [hs, hg] at go1
          repeat' first
            | exact go1
            | refine xP_s rfl rfl rfl ?_
            | refine xP_call rfl rfl rfl (p_byteAt (by omega) ?_)
            | refine xP_call rfl rfl rfl (p_isSmallN hs (by omega) ?_)
            | refine xP_call rfl rfl rfl (p_isSignN hg hb ?_)
      · cases hg : isSg (bN s i)
        · rw [hs, hg] at go1
          repeat' first
            | exact go1
            | refine xP_s rfl rfl rfl ?_
            | refine xP_call rfl rfl rfl (p_byteAt (by omega) ?_)
            | refine xP_call rfl rfl rfl (p_isSmallN hs (by omega) ?_)
            | refine xP_call rfl rfl rfl (p_isSignN hg hb ?_)
        · rw [hs, hg] at go1
          repeat' first
            | exact go1
            | refine xP_s rfl rfl rfl ?_
            | refine xP_call rfl rfl rfl (p_byteAt (by omega) ?_)
            | refine xP_call rfl rfl rfl (p_isSmallN hs (by omega) ?_)
            | refine xP_call rfl rfl rfl (p_isSignN hg hb ?_)
theorem tx_map (s : Int64) : ∀ n i, tx s n i = (List.range' i (tx s n i).length).map (bN s)
  | 0, i => by simp [tx]
  | n + 1, i => by
    unfold tx
    split
    · simp
    · rw [List.length_cons, List.range'_succ, List.map_cons, ← tx_map s n (i + 1)]
theorem pn_inj : ∀ {a b : List Nat}, (∀ c ∈ a, c < 256 ∧ c ≠ 0) → (∀ c ∈ b, c < 256 ∧ c ≠ 0) → pn a = pn b → a = b
  | [], [], _, _, _ => rfl
  | [], c :: l, _, hb, h => by
    have := hb c List.mem_cons_self
    rw [pn, pn] at h
    omega
  | c :: l, [], ha, _, h => by
    have := ha c List.mem_cons_self
    rw [pn, pn] at h
    omega
  | c :: l, x :: r, ha, hb, h => by
    have h1 := ha c List.mem_cons_self
    have h2 := hb x List.mem_cons_self
    rw [pn, pn] at h
    have e1 : c = x := by omega
    have e2 : pn l = pn r := by omega
    rw [e1, pn_inj (fun y hy => ha y (List.mem_cons_of_mem _ hy)) (fun y hy => hb y (List.mem_cons_of_mem _ hy)) e2]
theorem tx_chr (s : Int64) (n i : Nat) : ∀ c ∈ tx s n i, c < 256 ∧ c ≠ 0 := by
  intro c hc
  obtain ⟨j, hj⟩ := List.mem_iff_getElem?.mp hc
  have := tx_get s n i j c hj
  exact ⟨this.1 ▸ bN_lt s _, this.2⟩
theorem pn_lt64 {l : List Nat} (h : ∀ c ∈ l, c < 256) (hl : l.length ≤ 8) : pn l < 2 ^ 64 := by
  have h1 := pn_lt h
  have h2 : 256 ^ l.length ≤ 256 ^ 8 := Nat.pow_le_pow_right (by omega) hl
  omega
theorem lN_inj {a b : Nat} (ha : a < 2 ^ 64) (hb : b < 2 ^ 64) (h : lN a = lN b) : a = b := by
  have := congrArg (fun z => z.toBitVec.toNat) h
  simpa [lN_bv ha, lN_bv hb] using this
theorem lNpn_inj {a b : List Nat} (ha : ∀ c ∈ a, c < 256 ∧ c ≠ 0) (hb : ∀ c ∈ b, c < 256 ∧ c ≠ 0) (la : a.length ≤ 8) (lb : b.length ≤ 8) (h : lN (pn a) = lN (pn b)) : a = b :=
  pn_inj ha hb (lN_inj (pn_lt64 (fun c hc => (ha c hc).1) la) (pn_lt64 (fun c hc => (hb c hc).1) lb) h)
theorem trm_eq {s : Int64} {l : List Nat} (hl : ∀ c ∈ l, c < 256 ∧ c ≠ 0) (h8 : l.length ≤ 8) : trm s = lN (pn l) ↔ txt s = l :=
  ⟨fun h => lNpn_inj (tx_chr s 8 0) hl (tx_len s 8 0) h8 h, fun h => by rw [trm, h]⟩
theorem txt_two (s : Int64) : (txt s).take 2 = [47, 42] ↔ bN s 0 = 47 ∧ bN s 1 = 42 := by
  constructor
  · intro h
    have h0 : (txt s)[0]? = some 47 := by
      have := congrArg (fun l => l[0]?) h
      simpa [List.getElem?_take] using this
    have h1 : (txt s)[1]? = some 42 := by
      have := congrArg (fun l => l[1]?) h
      simpa [List.getElem?_take] using this
    exact ⟨(tx_get s 8 0 0 47 h0).1, (tx_get s 8 0 1 42 h1).1⟩
  · intro ⟨h0, h1⟩
    show (tx s 8 0).take 2 = _
    unfold tx
    rw [if_neg (by omega)]
    unfold tx
    have h1' : bN s (0 + 1) = 42 := h1
    rw [if_neg (by omega)]
    simp [h0, h1]
set_option maxRecDepth 100000 in
theorem p_isOperatorName {sc : xSc} {d g : Nat} {A : List xC} {s : Int64} {P : xO → xH → Prop} (k : P (.inl (some (.int (xb (opn (txt s)))))) (A, g)) : xM1 sc (d + 3) 213 [.long s] (A, g) P := by
  have hl : (txt s).length ≤ 8 := tx_len s 8 0
  have hL : (nI (txt s).length).toInt = ((txt s).length : Int) := nI_toInt (by omega)
  have hB0 := bN_lt s 0
  have hB1 := bN_lt s 1
  have hb0 : (nI (bN s 0)).toInt = (bN s 0 : Int) := nI_toInt (by omega)
  have hb1 : (nI (bN s 1)).toInt = (bN s 1 : Int) := nI_toInt (by omega)
  have hD : trm s = 46 ↔ txt s = [46] := trm_eq (l := [46]) (by decide) (by decide)
  have hT := txt_two s
  unfold xM1
  refine xP_s rfl rfl rfl ?_
  refine xP_call rfl rfl rfl (p_size ?_)
  refine xP_s rfl rfl rfl ?_
  refine xP_s rfl rfl rfl ?_
  refine xP_s rfl rfl rfl ?_
  refine xP_s rfl rfl rfl ?_
  refine xP_s rfl rfl rfl ?_
  refine xP_s rfl rfl rfl ?_
  refine xP_s rfl rfl rfl ?_
  refine p_opnLoop hl (txt s).length 0 0 0 (by omega) (by omega) (by omega) (fun x y hx hy => ?_)
  rw [show (List.range' 0 (txt s).length).map (bN s) = txt s from (tx_map s 8 0).symm, Nat.zero_add] at hx hy
  have hxl := cnt_le isSm (txt s)
  have hyl := cnt_le isSg (txt s)
  have hX : (nI x).toInt = (x : Int) := nI_toInt (by omega)
  have hY : (nI y).toInt = (y : Int) := nI_toInt (by omega)
  have ax := cnt_all isSm (txt s)
  have ay := cnt_all isSg (txt s)
  rw [← hx] at ax
  rw [← hy] at ay
  have h0 : (0 : Int32).toInt = 0 := rfl
  have hlg : (lg_cmp (trm s) 46).toInt = 0 ↔ txt s = [46] := by rw [← hD, ← lg_cmp_eq, ← h0, Int32.toInt_inj]
  have h47 : (47 : Int32).toInt = 47 := rfl
  have h42 : (42 : Int32).toInt = 42 := rfl
  have e0 : (txt s).isEmpty = true ↔ (txt s).length = 0 := by simp
  obtain ⟨z, hz⟩ : ∃ z : Nat, z = 1 ↔ txt s = [46] := ⟨if txt s = [46] then 1 else 0, by split <;> simp_all⟩
  rw [← hz] at hlg
  have key : ∀ b, (b = true ↔ (txt s).length ≠ 0 ∧ (x = (txt s).length ∨ y = (txt s).length) ∧ ¬ z = 1 ∧ ¬ (bN s 0 = 47 ∧ bN s 1 = 42)) → opn (txt s) = b := by
    intro b hb
    rw [Bool.eq_iff_iff, hb]
    simp only [opn, Bool.and_eq_true, Bool.or_eq_true, Bool.not_eq_true', Bool.or_eq_false_iff, beq_eq_false_iff_ne, ne_eq]
    rw [ax, ay, hz, ← hT, ← Bool.not_eq_true, e0]
    constructor
    · intro ⟨q2, q1, q3, q4⟩
      exact ⟨q1, q2, q3, q4⟩
    · intro ⟨q1, q2, q3, q4⟩
      exact ⟨q2, q1, q3, q4⟩
  repeat' first
    | refine xP_s rfl rfl rfl ?_
    | refine xP_call rfl rfl rfl (p_trimmed ?_)
    | refine xP_call rfl rfl rfl (p_byteAt (i := 0) (by omega) ?_)
    | refine xP_call rfl rfl rfl (p_byteAt (i := 1) (by omega) ?_)
    | refine xP_if (fun hc => ?_) (fun hc => ?_)
    | refine xP_ret rfl rfl rfl ?_
  all_goals
    simp only [xc_i, decide_eq_true_eq, decide_eq_false_iff_not] at *
  all_goals first
    | (rw [key true (by simp only [true_iff]; omega)] at k; exact k)
    | (rw [key false (by simp only [Bool.false_eq_true, false_iff]; omega)] at k; exact k)
end
section
-- Operators: slots (key, priority, type)
abbrev xSl : Type := Int64 × Nat × Nat
def xOp (A : List xC) (sl : List xSl) : Prop := ∃ (fk : Nat → Int64) (fp ft : Nat → Int32), A[7]? = some (.inr (2, [.ref 8, .ref 9, .ref 10, .int (nI sl.length)])) ∧ A[8]? = some (.inl (.long, 25, .inr (.inl fk))) ∧ A[9]? = some (.inl (.int, 25, .inl fp)) ∧ A[10]? = some (.inl (.int, 25, .inl ft)) ∧ sl.length ≤ 25 ∧ ∀ i e, sl[i]? = some e → fk i = e.1 ∧ fp i = nI e.2.1 ∧ ft i = nI e.2.2 ∧ e.2.1 ≤ 1200 ∧ e.2.2 ≤ 6
theorem xOp.same {A A' : List xC} {sl : List xSl} {l : List Nat} (h : xOp A sl) (hs : xSame A A' l) (h7 : 7 ∉ l) (h8 : 8 ∉ l) (h9 : 9 ∉ l) (h10 : 10 ∉ l) : xOp A' sl := by
  obtain ⟨fk, fp, ft, q1, q2, q3, q4, q5⟩ := h
  exact ⟨fk, fp, ft, by rw [hs.2 _ h7]; exact q1, by rw [hs.2 _ h8]; exact q2, by rw [hs.2 _ h9]; exact q3, by rw [hs.2 _ h10]; exact q4, q5⟩
theorem xOp.obj {A : List xC} {sl : List xSl} (h : xOp A sl) : A[7]? = some (.inr (2, [.ref 8, .ref 9, .ref 10, .int (nI sl.length)])) := by
  obtain ⟨fk, fp, ft, q1, _⟩ := h
  exact q1
theorem xOp.len {A : List xC} {sl : List xSl} (h : xOp A sl) : sl.length ≤ 25 := by
  obtain ⟨fk, fp, ft, _, _, _, _, q, _⟩ := h
  exact q
theorem xOp.ent {A : List xC} {sl : List xSl} (h : xOp A sl) {i : Nat} {e : xSl} (he : sl[i]? = some e) : e.2.1 ≤ 1200 ∧ e.2.2 ≤ 6 := by
  obtain ⟨fk, fp, ft, _, _, _, _, _, q⟩ := h
  exact (q i e he).2.2.2
def isPre (t : Nat) : Bool := decide (t = 3) || decide (t = 4)
def isPost (t : Nat) : Bool := decide (t = 5) || decide (t = 6)
def isInf (t : Nat) : Bool := decide (t < 3)
/-- a slot's number, or -1 -/
def sI (o : Option Nat) : Int32 := match o with
  | some i => nI i
  | none => -1
def fnd (pre : Bool) (key : Int64) : List xSl → Nat → Option Nat
  | [], _ => none
  | e :: r, i => if e.1 = key ∧ isPre e.2.2 = pre then some i else fnd pre key r (i + 1)
theorem fnd_some {pre : Bool} {key : Int64} : ∀ {sl : List xSl} {i j : Nat}, fnd pre key sl i = some j → i ≤ j ∧ ∃ e, sl[j - i]? = some e ∧ e.1 = key ∧ isPre e.2.2 = pre
  | [], i, j, h => by simp [fnd] at h
  | e :: r, i, j, h => by
    unfold fnd at h
    split at h
    next hc =>
      have := Option.some.inj h
      subst this
      exact ⟨Nat.le_refl _, e, by simp, hc⟩
    next =>
      obtain ⟨h1, e', h2, h3⟩ := fnd_some h
      refine ⟨by omega, e', ?_, h3⟩
      rw [show j - i = (j - (i + 1)) + 1 by omega]
      simpa using h2
set_option maxRecDepth 100000 in
theorem p_isPrefixType {sc : xSc} {d g : Nat} {A : List xC} {x : Int32} {b : Bool} {P : xO → xH → Prop} (hb : b = true ↔ x.toInt = 3 ∨ x.toInt = 4) (k : P (.inl (some (.int (xb b)))) (A, g)) : xM1 sc d 19 [.int x] (A, g) P := by
  have h3 : (3 : Int32).toInt = 3 := rfl
  have h4 : (4 : Int32).toInt = 4 := rfl
  unfold xM1
  repeat' first
    | refine xP_s rfl rfl rfl ?_
    | refine xP_if (fun hc => ?_) (fun hc => ?_)
    | refine xP_ret rfl rfl rfl ?_
  all_goals
    (try simp only [xc_i, decide_eq_true_eq, decide_eq_false_iff_not] at *)
  all_goals first
    | (rw [show b = true from hb.mpr (by omega)] at k; exact k)
    | (rw [show b = false from Bool.not_eq_true _ ▸ fun q => absurd (hb.mp q) (by omega)] at k; exact k)
set_option maxRecDepth 100000 in
theorem p_isPostfixType {sc : xSc} {d g : Nat} {A : List xC} {x : Int32} {b : Bool} {P : xO → xH → Prop} (hb : b = true ↔ x.toInt = 5 ∨ x.toInt = 6) (k : P (.inl (some (.int (xb b)))) (A, g)) : xM1 sc d 20 [.int x] (A, g) P := by
  have h3 : (5 : Int32).toInt = 5 := rfl
  have h4 : (6 : Int32).toInt = 6 := rfl
  unfold xM1
  repeat' first
    | refine xP_s rfl rfl rfl ?_
    | refine xP_if (fun hc => ?_) (fun hc => ?_)
    | refine xP_ret rfl rfl rfl ?_
  all_goals
    (try simp only [xc_i, decide_eq_true_eq, decide_eq_false_iff_not] at *)
  all_goals first
    | (rw [show b = true from hb.mpr (by omega)] at k; exact k)
    | (rw [show b = false from Bool.not_eq_true _ ▸ fun q => absurd (hb.mp q) (by omega)] at k; exact k)
theorem isPre_nI {t : Nat} (h : t < 2 ^ 31) : isPre t = true ↔ (nI t).toInt = 3 ∨ (nI t).toInt = 4 := by
  rw [nI_toInt h]
  simp only [isPre, Bool.or_eq_true, decide_eq_true_eq]
  omega
theorem isPost_nI {t : Nat} (h : t < 2 ^ 31) : isPost t = true ↔ (nI t).toInt = 5 ∨ (nI t).toInt = 6 := by
  rw [nI_toInt h]
  simp only [isPost, Bool.or_eq_true, decide_eq_true_eq]
  omega
set_option maxRecDepth 100000 in
theorem p_told {sc : xSc} {d g : Nat} {A : List xC} {sl : List xSl} {P : xO → xH → Prop} (ho : xOp A sl) (k : P (.inl (some (.int (nI sl.length - 1)))) (A, g)) : xM1 sc d 18 [.ref 7] (A, g) P := by
  have h7 := ho.obj
  unfold xM1
  repeat' first
    | refine xP_s rfl rfl rfl ?_
    | refine xP_get rfl h7 rfl ?_
    | refine xP_ret rfl rfl rfl ?_
  exact k
set_option maxRecDepth 100000 in
theorem p_isSlot {sc : xSc} {d g : Nat} {A : List xC} {sl : List xSl} {x : Int32} {b : Bool} {P : xO → xH → Prop} (ho : xOp A sl) (hb : b = true ↔ 0 ≤ x.toInt ∧ x.toInt < sl.length) (k : P (.inl (some (.int (xb b)))) (A, g)) : xM1 sc d 21 [.ref 7, .int x] (A, g) P := by
  have h7 := ho.obj
  have hl := ho.len
  have h0 : (0 : Int32).toInt = 0 := rfl
  have h25 : (25 : Int32).toInt = 25 := rfl
  have hL : (nI sl.length).toInt = (sl.length : Int) := nI_toInt (by omega)
  unfold xM1
  repeat' first
    | refine xP_s rfl rfl rfl ?_
    | refine xP_get rfl h7 rfl ?_
    | refine xP_if (fun hc => ?_) (fun hc => ?_)
    | refine xP_ret rfl rfl rfl ?_
  all_goals
    (try simp only [xc_i, decide_eq_true_eq, decide_eq_false_iff_not] at *)
  all_goals first
    | (rw [show b = true from hb.mpr (by omega)] at k; exact k)
    | (rw [show b = false from Bool.not_eq_true _ ▸ fun q => absurd (hb.mp q) (by omega)] at k; exact k)
set_option maxRecDepth 100000 in
theorem p_findLoop {sc : xSc} {d g : Nat} {A : List xC} {sl : List xSl} {pre : Bool} {key : Int64} {P : xO → xH → Prop} (ho : xOp A sl) : ∀ (r : List xSl) (i : Nat), i + r.length = sl.length → (∀ j, r[j]? = sl[i + j]?) → P (.inl (some (.int (sI (fnd pre key r i))))) (A, g) →
    xP sc (d + 1) 22 3 [(0, .ref 7), (1, .int (xb pre)), (2, .long key), (4, .int (nI i))] [] (A, g) P
  | [], i, hm, _, k => by
    have h7 := ho.obj
    have hl := ho.len
    simp at hm
    have hI : (nI i).toInt = (i : Int) := nI_toInt (by omega)
    have hL : (nI sl.length).toInt = (sl.length : Int) := nI_toInt (by omega)
    refine xP_s rfl rfl rfl ?_
    refine xP_s rfl rfl rfl ?_
    refine xP_get rfl h7 rfl ?_
    refine xP_s rfl rfl rfl ?_
    refine xP_if (fun hc => ?_) (fun hc => ?_)
    · repeat' first
        | refine xP_s rfl rfl rfl ?_
        | refine xP_ret rfl rfl rfl ?_
      exact k
    · have := xc_f hc
      dsimp only at this
      omega
  | e :: r, i, hm, hj, k => by
    obtain ⟨fk, fp, ft, h7, h8, h9, h10, hl, hE⟩ := id ho
    simp at hm
    have h25 : (25 : Int32).toInt = 25 := rfl
    have h0 : (0 : Int32).toInt = 0 := rfl
    have hI : (nI i).toInt = (i : Int) := nI_toInt (by omega)
    have hL : (nI sl.length).toInt = (sl.length : Int) := nI_toInt (by omega)
    have he : sl[i]? = some e := by
      have := hj 0
      simpa using this.symm
    obtain ⟨q1, q2, q3, q4, q5⟩ := hE i e he
    have go := p_findLoop (sc := sc) (d := d) (g := g) (pre := pre) (key := key) (P := P) ho r (i + 1) (by omega) (fun j => by
      have := hj (j + 1)
      simp at this
      rw [this]
      congr 1
      omega)
    rw [← nI_1] at go
    unfold fnd at k
    refine xP_s rfl rfl rfl ?_
    refine xP_s rfl rfl rfl ?_
    refine xP_get rfl h7 rfl ?_
    refine xP_s rfl rfl rfl ?_
    refine xP_if (fun hc => ?_) (fun hc => ?_)
    · have := xc_t hc
      dsimp only at this
      omega
    · refine xP_s rfl rfl rfl ?_
      refine xP_s rfl rfl rfl ?_
      refine xP_s rfl rfl rfl ?_
      refine xP_if (fun hc => ?_) (fun hc => ?_)
      · have := xc_t hc
        dsimp only at this
        omega
      · refine xP_s rfl rfl rfl ?_
        refine xP_get rfl h7 rfl ?_
        refine xP_s rfl rfl rfl ?_
        refine xP_lal rfl h8 (xib_of (by omega) (by omega)) ?_
        rw [nI_clamp (by omega), q1]
        refine xP_s rfl rfl rfl ?_
        refine xP_s rfl rfl rfl ?_
        refine xP_s rfl rfl rfl ?_
        refine xP_if (fun hc => ?_) (fun hc => ?_)
        · have hne := xc_t hc
          dsimp only at hne
          have hne : ¬ e.1 = key := fun q => hne (by rw [(lg_cmp_eq _ _).mpr q])
          rw [if_neg (fun q => hne q.1)] at k
          refine xP_s rfl rfl rfl ?_
          refine xP_s rfl rfl rfl ?_
          exact go k
        · have heq := xc_f hc
          dsimp only at heq
          have heq : e.1 = key := (lg_cmp_eq _ _).mp (Int32.toInt_inj.mp heq)
          refine xP_s rfl rfl rfl ?_
          refine xP_get rfl h7 rfl ?_
          refine xP_s rfl rfl rfl ?_
          refine xP_ial rfl h10 (by decide) (xib_of (by omega) (by omega)) ?_
          rw [nI_clamp (by omega), q3]
          refine xP_call rfl rfl rfl (p_isPrefixType (isPre_nI (by omega)) ?_)
          by_cases hp : isPre e.2.2 = pre
          · rw [if_pos ⟨heq, hp⟩] at k
            rw [hp]
            refine xP_s rfl rfl rfl ?_
            refine xP_s rfl rfl rfl ?_
            refine xP_if (fun hc => ?_) (fun hc => ?_)
            · exact absurd rfl (xc_t hc)
            · repeat' first
                | refine xP_s rfl rfl rfl ?_
                | refine xP_ret rfl rfl rfl ?_
              exact k
          · rw [if_neg (fun q => hp q.2)] at k
            refine xP_s rfl rfl rfl ?_
            refine xP_s rfl rfl rfl ?_
            refine xP_if (fun hc => ?_) (fun hc => ?_)
            · refine xP_s rfl rfl rfl ?_
              refine xP_s rfl rfl rfl ?_
              exact go k
            · exfalso
              have := xc_f hc
              dsimp only at this
              have := Int32.toInt_inj.mp this
              revert this
              revert hp
              generalize isPre e.2.2 = z
              cases z <;> cases pre <;> decide
set_option maxRecDepth 100000 in
theorem p_find {sc : xSc} {d g : Nat} {A : List xC} {sl : List xSl} {pre : Bool} {key : Int64} {P : xO → xH → Prop} (ho : xOp A sl) (k : P (.inl (some (.int (sI (fnd pre key sl 0))))) (A, g)) : xM1 sc (d + 1) 22 [.ref 7, .int (xb pre), .long key] (A, g) P := by
  unfold xM1
  refine xP_s rfl rfl rfl ?_
  refine xP_s rfl rfl rfl ?_
  exact p_findLoop ho sl 0 (by omega) (by simp) k
set_option maxRecDepth 100000 in
theorem p_prefix {sc : xSc} {d g : Nat} {A : List xC} {sl : List xSl} {key : Int64} {P : xO → xH → Prop} (ho : xOp A sl) (k : P (.inl (some (.int (sI (fnd true key sl 0))))) (A, g)) : xM1 sc (d + 2) 23 [.ref 7, .long key] (A, g) P := by
  have h7 := ho.obj
  unfold xM1
  repeat' first
    | refine xP_s rfl rfl rfl ?_
    | refine xP_cv rfl rfl rfl rfl rfl h7 (p_find (pre := true) ho ?_)
    | refine xP_ret rfl rfl rfl ?_
  exact k
set_option maxRecDepth 100000 in
theorem p_behind {sc : xSc} {d g : Nat} {A : List xC} {sl : List xSl} {key : Int64} {P : xO → xH → Prop} (ho : xOp A sl) (k : P (.inl (some (.int (sI (fnd false key sl 0))))) (A, g)) : xM1 sc (d + 2) 24 [.ref 7, .long key] (A, g) P := by
  have h7 := ho.obj
  unfold xM1
  repeat' first
    | refine xP_s rfl rfl rfl ?_
    | refine xP_cv rfl rfl rfl rfl rfl h7 (p_find (pre := false) ho ?_)
    | refine xP_ret rfl rfl rfl ?_
  exact k
theorem sI_none (o : Option Nat) (h : ∀ i, o = some i → i < 2 ^ 31) : (sI o).toInt = -1 ↔ o = none := by
  cases o with
  | none => simp [sI]
  | some i =>
    simp only [sI, nI_toInt (h i rfl)]
    simp
theorem fnd_lt {A : List xC} {sl : List xSl} (ho : xOp A sl) {pre : Bool} {key : Int64} {i : Nat} (h : fnd pre key sl 0 = some i) : i < sl.length ∧ i < 2 ^ 31 := by
  obtain ⟨_, e, he, _⟩ := fnd_some h
  have h1 := (List.getElem?_eq_some_iff.mp he).1
  have h2 := ho.len
  omega
set_option maxRecDepth 100000 in
theorem p_isOperator {sc : xSc} {d g : Nat} {A : List xC} {sl : List xSl} {key : Int64} {P : xO → xH → Prop} (ho : xOp A sl) (k : P (.inl (some (.int (xb ((fnd true key sl 0).isSome || (fnd false key sl 0).isSome))))) (A, g)) : xM1 sc (d + 3) 25 [.ref 7, .long key] (A, g) P := by
  have h7 := ho.obj
  have hm : (-1 : Int32).toInt = -1 := rfl
  have e1 := sI_none _ (fun i h => (fnd_lt ho (pre := true) (key := key) h).2)
  have e2 := sI_none _ (fun i h => (fnd_lt ho (pre := false) (key := key) h).2)
  unfold xM1
  repeat' first
    | refine xP_s rfl rfl rfl ?_
    | refine xP_cv rfl rfl rfl rfl rfl h7 (p_prefix ho ?_)
    | refine xP_cv rfl rfl rfl rfl rfl h7 (p_behind ho ?_)
    | refine xP_if (fun hc => ?_) (fun hc => ?_)
    | refine xP_ret rfl rfl rfl ?_
  all_goals
    simp only [xc_i, decide_eq_true_eq, decide_eq_false_iff_not, hm, e1, e2] at *
    clear ho
    generalize fnd true key sl 0 = o1 at *
    generalize fnd false key sl 0 = o2 at *
    cases o1 <;> cases o2 <;> simp_all [xb]
/-- what stands in a slot -/
def slE (sl : List xSl) (o : Option Nat) : Option xSl := o.bind fun i => sl[i]?
def slP (e : Option xSl) : Nat := match e with
  | some e => e.2.1
  | none => 0
def slT (e : Option xSl) : Int := match e with
  | some e => e.2.2
  | none => -1
def iI (x : Int) : Int32 := Int32.ofInt x
theorem slV {A : List xC} {sl : List xSl} (ho : xOp A sl) {o : Option Nat} (hv : ∀ i, o = some i → i < sl.length) : (slE sl o).isSome = true ↔ 0 ≤ (sI o).toInt ∧ (sI o).toInt < sl.length := by
  have hl := ho.len
  cases o with
  | none => simp [slE, sI]
  | some i =>
    have := hv i rfl
    simp only [sI, slE, nI_toInt (show i < 2 ^ 31 by omega)]
    simp
set_option maxRecDepth 100000 in
theorem p_priority {sc : xSc} {d g : Nat} {A : List xC} {sl : List xSl} {o : Option Nat} {P : xO → xH → Prop} (ho : xOp A sl) (hv : ∀ i, o = some i → i < sl.length) (k : P (.inl (some (.int (nI (slP (slE sl o)))))) (A, g)) : xM1 sc (d + 1) 29 [.ref 7, .int (sI o)] (A, g) P := by
  obtain ⟨fk, fp, ft, h7, h8, h9, h10, hl, hE⟩ := id ho
  unfold xM1
  refine xP_s rfl rfl rfl ?_
  refine xP_s rfl rfl rfl ?_
  refine xP_cv rfl rfl rfl rfl rfl h7 (p_isSlot ho (slV ho hv) ?_)
  cases o with
  | none =>
    repeat' first
      | refine xP_s rfl rfl rfl ?_
      | refine xP_ret rfl rfl rfl ?_
    exact k
  | some i =>
    have hi := hv i rfl
    obtain ⟨e, he⟩ : ∃ e, sl[i]? = some e := ⟨sl[i]'hi, List.getElem?_eq_getElem hi⟩
    have hI : (nI i).toInt = (i : Int) := nI_toInt (by omega)
    have hq : slE sl (some i) = some e := he
    rw [hq] at k
    simp only [hq, Option.isSome_some]
    repeat' first
      | refine xP_s rfl rfl rfl ?_
      | refine xP_get rfl h7 rfl ?_
    refine xP_ial rfl h9 (by decide) (xib_of (by show 0 ≤ (nI i).toInt; omega) (by show (nI i).toInt < _; omega)) ?_
    repeat' first
      | refine xP_s rfl rfl rfl ?_
      | refine xP_ret rfl rfl rfl ?_
    have : fp (nI i).toNatClampNeg = nI e.2.1 := by rw [nI_clamp (by omega)]; exact (hE i e he).2.1
    show P (.inl (some (.int (fp (nI i).toNatClampNeg)))) (A, g)
    rw [this]
    exact k
set_option maxRecDepth 100000 in
theorem p_type {sc : xSc} {d g : Nat} {A : List xC} {sl : List xSl} {o : Option Nat} {P : xO → xH → Prop} (ho : xOp A sl) (hv : ∀ i, o = some i → i < sl.length) (k : ∀ x : Int32, x.toInt = slT (slE sl o) → P (.inl (some (.int x))) (A, g)) : xM1 sc (d + 1) 30 [.ref 7, .int (sI o)] (A, g) P := by
  obtain ⟨fk, fp, ft, h7, h8, h9, h10, hl, hE⟩ := id ho
  unfold xM1
  refine xP_s rfl rfl rfl ?_
  refine xP_s rfl rfl rfl ?_
  refine xP_cv rfl rfl rfl rfl rfl h7 (p_isSlot ho (slV ho hv) ?_)
  cases o with
  | none =>
    repeat' first
      | refine xP_s rfl rfl rfl ?_
      | refine xP_ret rfl rfl rfl ?_
    exact k _ rfl
  | some i =>
    have hi := hv i rfl
    obtain ⟨e, he⟩ : ∃ e, sl[i]? = some e := ⟨sl[i]'hi, List.getElem?_eq_getElem hi⟩
    have hI : (nI i).toInt = (i : Int) := nI_toInt (by omega)
    have hq : slE sl (some i) = some e := he
    rw [hq] at k
    simp only [hq, Option.isSome_some]
    repeat' first
      | refine xP_s rfl rfl rfl ?_
      | refine xP_get rfl h7 rfl ?_
    refine xP_ial rfl h10 (by decide) (xib_of (by show 0 ≤ (nI i).toInt; omega) (by show (nI i).toInt < _; omega)) ?_
    repeat' first
      | refine xP_s rfl rfl rfl ?_
      | refine xP_ret rfl rfl rfl ?_
    have : ft (nI i).toNatClampNeg = nI e.2.2 := by rw [nI_clamp (by omega)]; exact (hE i e he).2.2.1
    show P (.inl (some (.int (ft (nI i).toNatClampNeg)))) (A, g)
    rw [this]
    refine k _ ?_
    have := (hE i e he).2.2.2.2
    exact nI_toInt (by omega)
def oPre (e : Option xSl) : Bool := decide (slT e = 3) || decide (slT e = 4)
def oPost (e : Option xSl) : Bool := decide (slT e = 5) || decide (slT e = 6)
def oInf (e : Option xSl) : Bool := decide (slT e = 0) || (decide (slT e = 1) || decide (slT e = 2))
def oOpen (e : Option xSl) : Bool := decide (slT e = 1) || decide (slT e = 3)
def oLeft (e : Option xSl) : Int := if slT e = 2 ∨ slT e = 6 then slP e else slP e - 1
def oRight (e : Option xSl) : Int := if oOpen e then slP e else slP e - 1
set_option maxRecDepth 100000 in
theorem p_isPrefix {sc : xSc} {d g : Nat} {A : List xC} {sl : List xSl} {o : Option Nat} {P : xO → xH → Prop} (ho : xOp A sl) (hv : ∀ i, o = some i → i < sl.length) (k : P (.inl (some (.int (xb (oPre (slE sl o)))))) (A, g)) : xM1 sc (d + 2) 31 [.ref 7, .int (sI o)] (A, g) P := by
  have h7 := ho.obj
  unfold xM1
  refine xP_s rfl rfl rfl ?_
  refine xP_s rfl rfl rfl ?_
  refine xP_cv rfl rfl rfl rfl rfl h7 (p_type ho hv (fun x hx => ?_))
  refine xP_call rfl rfl rfl (p_isPrefixType (b := oPre (slE sl o)) (by simp only [oPre, Bool.or_eq_true, decide_eq_true_eq, hx]) ?_)
  cases hq : oPre (slE sl o)
  · rw [hq] at k
    repeat' first
      | refine xP_s rfl rfl rfl ?_
      | refine xP_ret rfl rfl rfl ?_
    exact k
  · rw [hq] at k
    repeat' first
      | refine xP_s rfl rfl rfl ?_
      | refine xP_ret rfl rfl rfl ?_
    exact k
set_option maxRecDepth 100000 in
theorem p_isPostfix {sc : xSc} {d g : Nat} {A : List xC} {sl : List xSl} {o : Option Nat} {P : xO → xH → Prop} (ho : xOp A sl) (hv : ∀ i, o = some i → i < sl.length) (k : P (.inl (some (.int (xb (oPost (slE sl o)))))) (A, g)) : xM1 sc (d + 2) 32 [.ref 7, .int (sI o)] (A, g) P := by
  have h7 := ho.obj
  unfold xM1
  refine xP_s rfl rfl rfl ?_
  refine xP_s rfl rfl rfl ?_
  refine xP_cv rfl rfl rfl rfl rfl h7 (p_type ho hv (fun x hx => ?_))
  refine xP_call rfl rfl rfl (p_isPostfixType (b := oPost (slE sl o)) (by simp only [oPost, Bool.or_eq_true, decide_eq_true_eq, hx]) ?_)
  cases hq : oPost (slE sl o)
  · rw [hq] at k
    repeat' first
      | refine xP_s rfl rfl rfl ?_
      | refine xP_ret rfl rfl rfl ?_
    exact k
  · rw [hq] at k
    repeat' first
      | refine xP_s rfl rfl rfl ?_
      | refine xP_ret rfl rfl rfl ?_
    exact k
set_option maxRecDepth 100000 in
theorem p_isInfix {sc : xSc} {d g : Nat} {A : List xC} {sl : List xSl} {o : Option Nat} {P : xO → xH → Prop} (ho : xOp A sl) (hv : ∀ i, o = some i → i < sl.length) (k : P (.inl (some (.int (xb (oInf (slE sl o)))))) (A, g)) : xM1 sc (d + 2) 33 [.ref 7, .int (sI o)] (A, g) P := by
  have h7 := ho.obj
  have h0 : (0 : Int32).toInt = 0 := rfl
  have h1 : (1 : Int32).toInt = 1 := rfl
  have h2 : (2 : Int32).toInt = 2 := rfl
  have hb : oInf (slE sl o) = true ↔ slT (slE sl o) = 0 ∨ slT (slE sl o) = 1 ∨ slT (slE sl o) = 2 := by simp only [oInf, Bool.or_eq_true, decide_eq_true_eq]
  unfold xM1
  refine xP_s rfl rfl rfl ?_
  refine xP_s rfl rfl rfl ?_
  refine xP_cv rfl rfl rfl rfl rfl h7 (p_type ho hv (fun x hx => ?_))
  repeat' first
    | refine xP_s rfl rfl rfl ?_
    | refine xP_if (fun hc => ?_) (fun hc => ?_)
    | refine xP_ret rfl rfl rfl ?_
  all_goals
    (try simp only [xc_i, decide_eq_true_eq, decide_eq_false_iff_not] at *)
  all_goals first
    | (rw [show (oInf (slE sl o)) = true from hb.mpr (by omega)] at k; exact k)
    | (rw [show (oInf (slE sl o)) = false from Bool.not_eq_true _ ▸ fun q => absurd (hb.mp q) (by omega)] at k; exact k)
set_option maxRecDepth 100000 in
theorem p_isOpenBehind {sc : xSc} {d g : Nat} {A : List xC} {sl : List xSl} {o : Option Nat} {P : xO → xH → Prop} (ho : xOp A sl) (hv : ∀ i, o = some i → i < sl.length) (k : P (.inl (some (.int (xb (oOpen (slE sl o)))))) (A, g)) : xM1 sc (d + 2) 34 [.ref 7, .int (sI o)] (A, g) P := by
  have h7 := ho.obj
  have h1 : (1 : Int32).toInt = 1 := rfl
  have h2 : (3 : Int32).toInt = 3 := rfl
  have hb : oOpen (slE sl o) = true ↔ slT (slE sl o) = 1 ∨ slT (slE sl o) = 3 := by simp only [oOpen, Bool.or_eq_true, decide_eq_true_eq]
  unfold xM1
  refine xP_s rfl rfl rfl ?_
  refine xP_s rfl rfl rfl ?_
  refine xP_cv rfl rfl rfl rfl rfl h7 (p_type ho hv (fun x hx => ?_))
  refine xP_s rfl rfl rfl ?_
  refine xP_s rfl rfl rfl ?_
  refine xP_if (fun hc => ?_) (fun hc => ?_)
  · repeat' first
      | refine xP_s rfl rfl rfl ?_
      | refine xP_ret rfl rfl rfl ?_
    all_goals
      (try simp only [xc_i, decide_eq_true_eq, decide_eq_false_iff_not] at *)
    all_goals first
      | (rw [show (oOpen (slE sl o)) = true from hb.mpr (by omega)] at k; exact k)
      | (rw [show (oOpen (slE sl o)) = false from Bool.not_eq_true _ ▸ fun q => absurd (hb.mp q) (by omega)] at k; exact k)
  · refine xP_s rfl rfl rfl ?_
    refine xP_s rfl rfl rfl ?_
    refine xP_cv rfl rfl rfl rfl rfl h7 (p_type ho hv (fun y hy => ?_))
    repeat' first
      | refine xP_s rfl rfl rfl ?_
      | refine xP_if (fun hc => ?_) (fun hc => ?_)
      | refine xP_ret rfl rfl rfl ?_
    all_goals
      (try simp only [xc_i, decide_eq_true_eq, decide_eq_false_iff_not] at *)
    all_goals first
      | (rw [show (oOpen (slE sl o)) = true from hb.mpr (by omega)] at k; exact k)
      | (rw [show (oOpen (slE sl o)) = false from Bool.not_eq_true _ ▸ fun q => absurd (hb.mp q) (by omega)] at k; exact k)
theorem slP_le {A : List xC} {sl : List xSl} (ho : xOp A sl) (o : Option Nat) : slP (slE sl o) ≤ 1200 := by
  cases o with
  | none => simp [slE, slP]
  | some i =>
    cases he : sl[i]? with
    | none => simp [slE, slP, he]
    | some e => simpa [slE, slP, he] using (ho.ent he).1
theorem nI_sub1 {n : Nat} (h : n < 2 ^ 31) : (nI n - 1).toInt = (n : Int) - 1 := by
  rw [Int32.toInt_sub, nI_toInt h]
  show Int.bmod ((n : Int) - 1) _ = _
  rw [Int.bmod_eq_of_le] <;> omega
set_option maxRecDepth 100000 in
theorem p_leftMost {sc : xSc} {d g : Nat} {A : List xC} {sl : List xSl} {o : Option Nat} {P : xO → xH → Prop} (ho : xOp A sl) (hv : ∀ i, o = some i → i < sl.length) (k : ∀ x : Int32, x.toInt = oLeft (slE sl o) → P (.inl (some (.int x))) (A, g)) : xM1 sc (d + 2) 35 [.ref 7, .int (sI o)] (A, g) P := by
  have h7 := ho.obj
  have h1 : (2 : Int32).toInt = 2 := rfl
  have h2 : (6 : Int32).toInt = 6 := rfl
  have hp := slP_le ho o
  have n1 := nI_toInt (n := slP (slE sl o)) (by omega)
  have n2 := nI_sub1 (n := slP (slE sl o)) (by omega)
  unfold oLeft at k
  unfold xM1
  refine xP_s rfl rfl rfl ?_
  refine xP_s rfl rfl rfl ?_
  refine xP_cv rfl rfl rfl rfl rfl h7 (p_type ho hv (fun x hx => ?_))
  refine xP_s rfl rfl rfl ?_
  refine xP_s rfl rfl rfl ?_
  refine xP_if (fun hc => ?_) (fun hc => ?_)
  · repeat' first
      | refine xP_s rfl rfl rfl ?_
      | refine xP_cv rfl rfl rfl rfl rfl h7 (p_priority ho hv ?_)
      | refine xP_ret rfl rfl rfl ?_
    have := xc_t hc
    dsimp only at this
    rw [if_pos (by omega)] at k
    exact k _ n1
  · refine xP_s rfl rfl rfl ?_
    refine xP_s rfl rfl rfl ?_
    refine xP_cv rfl rfl rfl rfl rfl h7 (p_type ho hv (fun y hy => ?_))
    have q1 := xc_f hc
    dsimp only at q1
    repeat' first
      | refine xP_s rfl rfl rfl ?_
      | refine xP_cv rfl rfl rfl rfl rfl h7 (p_priority ho hv ?_)
      | refine xP_if (fun hc => ?_) (fun hc => ?_)
      | refine xP_ret rfl rfl rfl ?_
    · have q2 := xc_t hc
      dsimp only at q2
      rw [if_neg (by omega)] at k
      exact k _ n2
    · have q2 := xc_f hc
      dsimp only at q2
      rw [if_pos (by omega)] at k
      exact k _ n1
set_option maxRecDepth 100000 in
theorem p_rightMost {sc : xSc} {d g : Nat} {A : List xC} {sl : List xSl} {o : Option Nat} {P : xO → xH → Prop} (ho : xOp A sl) (hv : ∀ i, o = some i → i < sl.length) (k : ∀ x : Int32, x.toInt = oRight (slE sl o) → P (.inl (some (.int x))) (A, g)) : xM1 sc (d + 3) 36 [.ref 7, .int (sI o)] (A, g) P := by
  have h7 := ho.obj
  have hp := slP_le ho o
  have n1 := nI_toInt (n := slP (slE sl o)) (by omega)
  have n2 := nI_sub1 (n := slP (slE sl o)) (by omega)
  unfold oRight at k
  unfold xM1
  refine xP_s rfl rfl rfl ?_
  refine xP_s rfl rfl rfl ?_
  refine xP_cv rfl rfl rfl rfl rfl h7 (p_isOpenBehind ho hv ?_)
  cases hq : oOpen (slE sl o)
  · rw [hq] at k
    repeat' first
      | refine xP_s rfl rfl rfl ?_
      | refine xP_cv rfl rfl rfl rfl rfl h7 (p_priority ho hv ?_)
      | refine xP_ret rfl rfl rfl ?_
    exact k _ n2
  · rw [hq] at k
    repeat' first
      | refine xP_s rfl rfl rfl ?_
      | refine xP_cv rfl rfl rfl rfl rfl h7 (p_priority ho hv ?_)
      | refine xP_ret rfl rfl rfl ?_
    exact k _ n1
theorem xset_n7 {A : List xC} {k : Nat} {e c : xC} {j : Nat} (hj : k ≠ j) (h : A[j]? = some c) : (A.set k e)[j]? = some c := (xset_ne hj).trans h
/-- what telling does to the slots -/
def tellS (sl : List xSl) (p ty : Nat) (key : Int64) : List xSl := match fnd (isPre ty) key sl 0 with
  | some i => sl.set i (key, p, ty)
  | none => if sl.length < 25 then sl ++ [(key, p, ty)] else sl
def canS (sl : List xSl) (ty : Nat) (key : Int64) : Bool := match fnd (isPre ty) key sl 0 with
  | some i => match sl[i]? with
    | some e => isPost e.2.2 == isPost ty
    | none => false
  | none => decide (sl.length < 25)
def takeS (sl : List xSl) (ty : Nat) (key : Int64) : List xSl := match fnd (isPre ty) key sl 0 with
  | some i => match sl[sl.length - 1]? with
    | some e => (sl.set i e).dropLast
    | none => sl
  | none => sl
theorem xb_cmp (a b : Bool) : xcmp .ne (xb a) (xb b) = !(a == b) := by cases a <;> cases b <;> rfl
set_option maxRecDepth 100000 in
theorem p_canTell {sc : xSc} {d g ty : Nat} {A : List xC} {sl : List xSl} {key : Int64} {P : xO → xH → Prop} (ho : xOp A sl) (hty : ty ≤ 6) (k : P (.inl (some (.int (xb (canS sl ty key))))) (A, g)) : xM1 sc (d + 2) 26 [.ref 7, .int (nI ty), .long key] (A, g) P := by
  obtain ⟨fk, fp, ft, h7, h8, h9, h10, hl, hE⟩ := id ho
  have hv := fun i h => (fnd_lt ho (pre := isPre ty) (key := key) (i := i) h).1
  have h25 : (25 : Int32).toInt = 25 := rfl
  have hL : (nI sl.length).toInt = (sl.length : Int) := nI_toInt (by omega)
  unfold xM1
  refine xP_s rfl rfl rfl ?_
  refine xP_s rfl rfl rfl ?_
  refine xP_call rfl rfl rfl (p_isPrefixType (isPre_nI (by omega)) ?_)
  refine xP_s rfl rfl rfl ?_
  refine xP_cv rfl rfl rfl rfl rfl h7 (p_find ho ?_)
  refine xP_s rfl rfl rfl ?_
  refine xP_s rfl rfl rfl ?_
  refine xP_s rfl rfl rfl ?_
  refine xP_cv rfl rfl rfl rfl rfl h7 (p_isSlot ho (slV ho hv) ?_)
  unfold canS at k
  cases hf : fnd (isPre ty) key sl 0 with
  | none =>
    rw [hf] at k
    repeat' first
      | refine xP_s rfl rfl rfl ?_
      | refine xP_get rfl h7 rfl ?_
      | refine xP_if (fun hc => ?_) (fun hc => ?_)
      | refine xP_ret rfl rfl rfl ?_
    · have := xc_t hc
      dsimp only at this
      rw [decide_eq_false (by omega)] at k
      exact k
    · have := xc_f hc
      dsimp only at this
      rw [decide_eq_true (by omega)] at k
      exact k
  | some i =>
    have hi := hv i hf
    obtain ⟨e, he⟩ : ∃ e, sl[i]? = some e := ⟨sl[i]'hi, List.getElem?_eq_getElem hi⟩
    have hI : (nI i).toInt = (i : Int) := nI_toInt (by omega)
    have hq : slE sl (some i) = some e := he
    rw [hf] at k
    dsimp only at k
    rw [he] at k
    obtain ⟨_, _, q3, _, q5⟩ := hE i e he
    simp only [hq, Option.isSome_some]
    repeat' first
      | refine xP_s rfl rfl rfl ?_
      | refine xP_get rfl h7 rfl ?_
    refine xP_ial rfl h10 (by decide) (xib_of (by show 0 ≤ (nI i).toInt; omega) (by show (nI i).toInt < _; omega)) ?_
    rw [show ft (Int32.toNatClampNeg (sI (some i))) = nI e.2.2 by show ft (nI i).toNatClampNeg = _; rw [nI_clamp (by omega)]; exact q3]
    repeat' first
      | refine xP_s rfl rfl rfl ?_
      | refine xP_call rfl rfl rfl (p_isPostfixType (isPost_nI (show e.2.2 < 2 ^ 31 by omega)) ?_)
      | refine xP_call rfl rfl rfl (p_isPostfixType (isPost_nI (show ty < 2 ^ 31 by omega)) ?_)
      | refine xP_if (fun hc => ?_) (fun hc => ?_)
      | refine xP_ret rfl rfl rfl ?_
    · rw [xb_cmp] at hc
      dsimp only at k
      rw [show (isPost e.2.2 == isPost ty) = false by simpa using hc] at k
      exact k
    · rw [xb_cmp] at hc
      dsimp only at k
      rw [show (isPost e.2.2 == isPost ty) = true by simpa using hc] at k
      exact k
theorem pk_lu {f : Nat → Int64} {k : Nat} {x : Int64} : vp_updL f k x k = x := if_pos rfl
theorem pk_ln {f : Nat → Int64} {k j : Nat} {x : Int64} (h : j ≠ k) : vp_updL f k x j = f j := if_neg h
set_option maxRecDepth 100000 in
theorem p_tell {sc : xSc} {d g p ty : Nat} {A : List xC} {sl : List xSl} {key : Int64} {P : xO → xH → Prop} (ho : xOp A sl) (hp : p ≤ 1200) (hty : ty ≤ 6) (k : ∀ A', xOp A' (tellS sl p ty key) → xSame A A' [7, 8, 9, 10] → P (.inl none) (A', g)) : xM1 sc (d + 2) 27 [.ref 7, .int (nI p), .int (nI ty), .long key] (A, g) P := by
  obtain ⟨fk, fp, ft, h7, h8, h9, h10, hl, hE⟩ := id ho
  have hv := fun i h => (fnd_lt ho (pre := isPre ty) (key := key) (i := i) h).1
  have h25 : (25 : Int32).toInt = 25 := rfl
  have h0 : (0 : Int32).toInt = 0 := rfl
  have hL : (nI sl.length).toInt = (sl.length : Int) := nI_toInt (by omega)
  have store : ∀ i, i < 25 → (tellS sl p ty key = sl.set i (key, p, ty) ∧ i < sl.length ∨ tellS sl p ty key = sl ++ [(key, p, ty)] ∧ i = sl.length) → ∀ x, xP sc (d + 2) 27 41 [(0, .ref 7), (1, .int (nI p)), (2, .int (nI ty)), (3, .long key), (5, .int x), (6, .int (nI i))] [] (A, g) P := by
    intro i hi hor x
    have hI : (nI i).toInt = (i : Int) := nI_toInt (by omega)
    refine xP_s rfl rfl rfl ?_
    refine xP_get rfl h7 rfl ?_
    refine xP_s rfl rfl rfl ?_
    refine xP_s rfl rfl rfl ?_
    refine xP_las rfl h8 (xib_of (by omega) (by omega)) ?_
    have h7' := xset_n7 (k := 8) (e := .inl (.long, 25, .inr (.inl (vp_updL fk (nI i).toNatClampNeg key)))) (by decide) h7
    refine xP_s rfl rfl rfl ?_
    refine xP_get rfl h7' rfl ?_
    refine xP_s rfl rfl rfl ?_
    refine xP_s rfl rfl rfl ?_
    refine xP_ias rfl (xset_n7 (by decide) h9) (xib_of (by omega) (by omega)) ?_
    have h7'' := xset_n7 (k := 9) (e := .inl (.int, 25, .inl (upd fp (nI i).toNatClampNeg (nI p)))) (by decide) h7'
    refine xP_s rfl rfl rfl ?_
    refine xP_get rfl h7'' rfl ?_
    refine xP_s rfl rfl rfl ?_
    refine xP_s rfl rfl rfl ?_
    refine xP_ias rfl (xset_n7 (by decide) (xset_n7 (by decide) h10)) (xib_of (by omega) (by omega)) ?_
    have h73 := xset_n7 (k := 10) (e := .inl (.int, 25, .inl (upd ft (nI i).toNatClampNeg (nI ty)))) (by decide) h7''
    refine xP_s rfl rfl rfl ?_
    refine xP_s rfl rfl rfl ?_
    refine xP_get rfl h73 rfl ?_
    have hcl : (nI i).toNatClampNeg = i := nI_clamp (by omega)
    rw [hcl] at h73 ⊢
    have hupd : ∀ j e, j ≠ i → sl[j]? = some e → vp_updL fk i key j = e.1 ∧ upd fp i (nI p) j = nI e.2.1 ∧ upd ft i (nI ty) j = nI e.2.2 ∧ e.2.1 ≤ 1200 ∧ e.2.2 ≤ 6 := by
      intro j e hj he
      rw [pk_ln hj, pk_un hj, pk_un hj]
      exact hE j e he
    have hself : vp_updL fk i key i = key ∧ upd fp i (nI p) i = nI p ∧ upd ft i (nI ty) i = nI ty ∧ p ≤ 1200 ∧ ty ≤ 6 := ⟨pk_lu, pk_us, pk_us, hp, hty⟩
    have h8' := xset_eq (e := .inl (.long, 25, .inr (.inl (vp_updL fk i key)))) h8
    have h9' := xset_eq (e := .inl (.int, 25, .inl (upd fp i (nI p)))) (xset_n7 (k := 8) (e := .inl (.long, 25, .inr (.inl (vp_updL fk i key)))) (by decide) h9)
    have h10' := xset_eq (e := .inl (.int, 25, .inl (upd ft i (nI ty)))) (xset_n7 (k := 9) (e := .inl (.int, 25, .inl (upd fp i (nI p)))) (by decide) (xset_n7 (k := 8) (e := .inl (.long, 25, .inr (.inl (vp_updL fk i key)))) (by decide) h10))
    refine xP_s rfl rfl rfl ?_
    refine xP_if (fun hc => ?_) (fun hc => ?_)
    · have hne := xc_t hc
      dsimp only at hne
      rcases hor with ⟨et, hlt⟩ | ⟨et, heq⟩
      · repeat' first
          | refine xP_s rfl rfl rfl ?_
          | refine xP_ret rfl rfl rfl ?_
        refine k _ ⟨vp_updL fk i key, upd fp i (nI p), upd ft i (nI ty), ?_, xset_n7 (by decide) (xset_n7 (by decide) h8'), xset_n7 (by decide) h9', h10', ?_, ?_⟩ ((((xSame.set _ _).trans (xSame.set _ _)).trans (xSame.set _ _)).wider (by decide))
        · rw [et, List.length_set]
          exact h73
        · rw [et, List.length_set]
          exact hl
        · intro j e he
          rw [et] at he
          by_cases hj : j = i
          · subst hj
            rw [List.getElem?_set_self hlt] at he
            cases he
            exact hself
          · rw [List.getElem?_set_ne (Ne.symm hj)] at he
            exact hupd j e hj he
      · omega
    · have heq := xc_f hc
      dsimp only at heq
      rcases hor with ⟨et, hlt⟩ | ⟨et, hii⟩
      · omega
      · repeat' first
          | refine xP_s rfl rfl rfl ?_
          | refine xP_get rfl h73 rfl ?_
          | refine xP_put rfl h73 (Nat.le_of_ble_eq_true rfl) rfl ?_
          | refine xP_ret rfl rfl rfl ?_
        refine k _ ⟨vp_updL fk i key, upd fp i (nI p), upd ft i (nI ty), ?_, xset_n7 (by decide) (xset_n7 (by decide) (xset_n7 (by decide) h8')), xset_n7 (by decide) (xset_n7 (by decide) h9'), xset_n7 (by decide) h10', ?_, ?_⟩ (((((xSame.set _ _).trans (xSame.set _ _)).trans (xSame.set _ _)).trans (xSame.set _ _)).wider (by decide))
        · rw [xset_eq h73, et, List.length_append, List.length_singleton, ← nI_1]
          rfl
        · rw [et]
          simp
          omega
        · intro j e he
          rw [et] at he
          by_cases hj : j = i
          · subst hj
            rw [hii] at he
            simp at he
            subst he
            exact hself
          · rw [List.getElem?_append] at he
            split at he
            · exact hupd j e hj he
            · exfalso
              have := (List.getElem?_eq_some_iff.mp he).1
              simp at this
              omega
  unfold xM1
  refine xP_s rfl rfl rfl ?_
  refine xP_s rfl rfl rfl ?_
  refine xP_call rfl rfl rfl (p_isPrefixType (isPre_nI (by omega)) ?_)
  refine xP_s rfl rfl rfl ?_
  refine xP_cv rfl rfl rfl rfl rfl h7 (p_find ho ?_)
  cases hf : fnd (isPre ty) key sl 0 with
  | none =>
    refine xP_s rfl rfl rfl ?_
    refine xP_s rfl rfl rfl ?_
    refine xP_s rfl rfl rfl ?_
    refine xP_s rfl rfl rfl ?_
    refine xP_if (fun hc => ?_) (fun hc => ?_)
    · exact absurd rfl (xc_t hc)
    · refine xP_s rfl rfl rfl ?_
      refine xP_get rfl h7 rfl ?_
      refine xP_s rfl rfl rfl ?_
      refine xP_s rfl rfl rfl ?_
      refine xP_s rfl rfl rfl ?_
      refine xP_s rfl rfl rfl ?_
      refine xP_if (fun hc => ?_) (fun hc => ?_)
      · have := xc_t hc
        dsimp only at this
        omega
      · refine xP_s rfl rfl rfl ?_
        refine xP_s rfl rfl rfl ?_
        refine xP_s rfl rfl rfl ?_
        refine xP_if (fun hc => ?_) (fun hc => ?_)
        · have := xc_t hc
          dsimp only at this
          exact store sl.length (by omega) (Or.inr ⟨by unfold tellS; rw [hf]; dsimp only; rw [if_pos (by omega)], rfl⟩) _
        · have := xc_f hc
          dsimp only at this
          repeat' first
            | refine xP_s rfl rfl rfl ?_
            | refine xP_ret rfl rfl rfl ?_
          refine k A ?_ (xSame.refl _ _)
          unfold tellS
          rw [hf]
          dsimp only
          rw [if_neg (by omega)]
          exact ho
  | some i =>
    have hi := hv i hf
    have hI : (nI i).toInt = (i : Int) := nI_toInt (by omega)
    refine xP_s rfl rfl rfl ?_
    refine xP_s rfl rfl rfl ?_
    refine xP_s rfl rfl rfl ?_
    refine xP_s rfl rfl rfl ?_
    refine xP_if (fun hc => ?_) (fun hc => ?_)
    · refine xP_s rfl rfl rfl ?_
      refine xP_s rfl rfl rfl ?_
      refine xP_s rfl rfl rfl ?_
      refine xP_s rfl rfl rfl ?_
      refine xP_if (fun hc => ?_) (fun hc => ?_)
      · have := xc_t hc
        dsimp only [sI] at this
        omega
      · refine xP_s rfl rfl rfl ?_
        refine xP_s rfl rfl rfl ?_
        refine xP_s rfl rfl rfl ?_
        refine xP_if (fun hc => ?_) (fun hc => ?_)
        · exact store i (by omega) (Or.inl ⟨by unfold tellS; rw [hf], hi⟩) _
        · have := xc_f hc
          dsimp only [sI] at this
          omega
    · have := xc_f hc
      dsimp only [sI] at this
      have hm : (-1 : Int32).toInt = -1 := rfl
      omega
set_option maxRecDepth 100000 in
theorem p_takeBack {sc : xSc} {d g ty : Nat} {A : List xC} {sl : List xSl} {key : Int64} {P : xO → xH → Prop} (ho : xOp A sl) (hty : ty ≤ 6) (k : ∀ A', xOp A' (takeS sl ty key) → xSame A A' [7, 8, 9, 10] → P (.inl none) (A', g)) : xM1 sc (d + 2) 28 [.ref 7, .int (nI ty), .long key] (A, g) P := by
  obtain ⟨fk, fp, ft, h7, h8, h9, h10, hl, hE⟩ := id ho
  have hv := fun i h => (fnd_lt ho (pre := isPre ty) (key := key) (i := i) h).1
  have hL : (nI sl.length).toInt = (sl.length : Int) := nI_toInt (by omega)
  unfold xM1
  refine xP_s rfl rfl rfl ?_
  refine xP_s rfl rfl rfl ?_
  refine xP_call rfl rfl rfl (p_isPrefixType (isPre_nI (by omega)) ?_)
  refine xP_s rfl rfl rfl ?_
  refine xP_cv rfl rfl rfl rfl rfl h7 (p_find ho ?_)
  refine xP_s rfl rfl rfl ?_
  refine xP_s rfl rfl rfl ?_
  refine xP_get rfl h7 rfl ?_
  refine xP_s rfl rfl rfl ?_
  refine xP_s rfl rfl rfl ?_
  refine xP_s rfl rfl rfl ?_
  refine xP_s rfl rfl rfl ?_
  refine xP_s rfl rfl rfl ?_
  refine xP_cv rfl rfl rfl rfl rfl h7 (p_isSlot ho (slV ho hv) ?_)
  unfold takeS at k
  cases hf : fnd (isPre ty) key sl 0 with
  | none =>
    rw [hf] at k
    repeat' first
      | refine xP_s rfl rfl rfl ?_
      | refine xP_ret rfl rfl rfl ?_
    exact k A ho (xSame.refl _ _)
  | some i =>
    have hi := hv i hf
    obtain ⟨j, hj⟩ : ∃ j, sl.length = j + 1 := ⟨sl.length - 1, by omega⟩
    obtain ⟨e, he⟩ : ∃ e, sl[j]? = some e := ⟨sl[j]'(by omega), List.getElem?_eq_getElem (by omega)⟩
    have hI : (nI i).toInt = (i : Int) := nI_toInt (by omega)
    have hJ : (nI j).toInt = (j : Int) := nI_toInt (by omega)
    have hci : (nI i).toNatClampNeg = i := nI_clamp (by omega)
    have hcj : (nI j).toNatClampNeg = j := nI_clamp (by omega)
    have hq : (slE sl (some i)).isSome = true := by
      show (sl[i]?).isSome = true
      rw [List.getElem?_eq_getElem hi]
      rfl
    have hlast : nI sl.length - 1 = nI j := by
      apply Int32.toInt_inj.mp
      rw [nI_sub1 (by omega), hJ]
      omega
    have hlj : sl.length - 1 = j := by omega
    rw [hf, hlj] at k
    dsimp only at k
    rw [he] at k
    dsimp only at k
    rw [hq, hlast]
    refine xP_s rfl rfl rfl ?_
    refine xP_s rfl rfl rfl ?_
    refine xP_s rfl rfl rfl ?_
    refine xP_cv rfl rfl rfl rfl rfl h7 (p_isSlot ho (b := true) (by simp only [true_iff]; omega) ?_)
    obtain ⟨q1, q2, q3, q4⟩ := hE j e he
    refine xP_s rfl rfl rfl ?_
    refine xP_s rfl rfl rfl ?_
    refine xP_get rfl h7 rfl ?_
    refine xP_s rfl rfl rfl ?_
    refine xP_s rfl rfl rfl ?_
    refine xP_get rfl h7 rfl ?_
    refine xP_s rfl rfl rfl ?_
    refine xP_lal rfl h8 (xib_of (by omega) (by omega)) ?_
    refine xP_las rfl h8 (xib_of (by show 0 ≤ (nI i).toInt; omega) (by show (nI i).toInt < _; omega)) ?_
    rw [show Int32.toNatClampNeg (sI (some i)) = i from hci, hcj, q1]
    have a7 := xset_n7 (k := 8) (e := .inl (.long, 25, .inr (.inl (vp_updL fk i e.1)))) (by decide) h7
    have a9 := xset_n7 (k := 8) (e := .inl (.long, 25, .inr (.inl (vp_updL fk i e.1)))) (by decide) h9
    have a10 := xset_n7 (k := 8) (e := .inl (.long, 25, .inr (.inl (vp_updL fk i e.1)))) (by decide) h10
    have a8 := xset_eq (e := .inl (.long, 25, .inr (.inl (vp_updL fk i e.1)))) h8
    refine xP_s rfl rfl rfl ?_
    refine xP_get rfl a7 rfl ?_
    refine xP_s rfl rfl rfl ?_
    refine xP_s rfl rfl rfl ?_
    refine xP_get rfl a7 rfl ?_
    refine xP_s rfl rfl rfl ?_
    refine xP_ial rfl a9 (by decide) (xib_of (by omega) (by omega)) ?_
    refine xP_ias rfl a9 (xib_of (by show 0 ≤ (nI i).toInt; omega) (by show (nI i).toInt < _; omega)) ?_
    rw [show Int32.toNatClampNeg (sI (some i)) = i from hci, hcj, q2]
    have b7 := xset_n7 (k := 9) (e := .inl (.int, 25, .inl (upd fp i (nI e.2.1)))) (by decide) a7
    have b8 := xset_n7 (k := 9) (e := .inl (.int, 25, .inl (upd fp i (nI e.2.1)))) (by decide) a8
    have b10 := xset_n7 (k := 9) (e := .inl (.int, 25, .inl (upd fp i (nI e.2.1)))) (by decide) a10
    have b9 := xset_eq (e := .inl (.int, 25, .inl (upd fp i (nI e.2.1)))) a9
    refine xP_s rfl rfl rfl ?_
    refine xP_get rfl b7 rfl ?_
    refine xP_s rfl rfl rfl ?_
    refine xP_s rfl rfl rfl ?_
    refine xP_get rfl b7 rfl ?_
    refine xP_s rfl rfl rfl ?_
    refine xP_ial rfl b10 (by decide) (xib_of (by omega) (by omega)) ?_
    refine xP_ias rfl b10 (xib_of (by show 0 ≤ (nI i).toInt; omega) (by show (nI i).toInt < _; omega)) ?_
    rw [show Int32.toNatClampNeg (sI (some i)) = i from hci, hcj, q3]
    have c7 := xset_n7 (k := 10) (e := .inl (.int, 25, .inl (upd ft i (nI e.2.2)))) (by decide) b7
    have c8 := xset_n7 (k := 10) (e := .inl (.int, 25, .inl (upd ft i (nI e.2.2)))) (by decide) b8
    have c9 := xset_n7 (k := 10) (e := .inl (.int, 25, .inl (upd ft i (nI e.2.2)))) (by decide) b9
    have c10 := xset_eq (e := .inl (.int, 25, .inl (upd ft i (nI e.2.2)))) b10
    repeat' first
      | refine xP_s rfl rfl rfl ?_
      | refine xP_get rfl c7 rfl ?_
      | refine xP_put rfl c7 (Nat.le_of_ble_eq_true rfl) rfl ?_
      | refine xP_ret rfl rfl rfl ?_
    refine k _ ⟨vp_updL fk i e.1, upd fp i (nI e.2.1), upd ft i (nI e.2.2), ?_, xset_n7 (by decide) c8, xset_n7 (by decide) c9, xset_n7 (by decide) c10, ?_, ?_⟩ (((((xSame.set _ _).trans (xSame.set _ _)).trans (xSame.set _ _)).trans (xSame.set _ _)).wider (by decide))
    · rw [xset_eq c7, List.length_dropLast, List.length_set, hlj]
      rfl
    · rw [List.length_dropLast, List.length_set]
      omega
    · intro z e' hz
      have hzl := (List.getElem?_eq_some_iff.mp hz).1
      rw [List.length_dropLast, List.length_set] at hzl
      rw [List.getElem?_dropLast, List.length_set, if_pos (by omega)] at hz
      by_cases hzi : z = i
      · subst hzi
        rw [List.getElem?_set_self hi] at hz
        cases hz
        rw [pk_lu, pk_us, pk_us]
        exact ⟨rfl, rfl, rfl, q4⟩
      · rw [List.getElem?_set_ne (Ne.symm hzi)] at hz
        rw [pk_ln hzi, pk_un hzi, pk_un hzi]
        exact hE z e' hz
end
section
-- Parts: rows of kinds, values, sizes of names, firsts, nexts, depths
abbrev xF : Type := (Nat → Int32) × (Nat → Int32) × (Nat → Int32) × (Nat → Int32) × (Nat → Int32) × (Nat → Int32)
def xPt (A : List xC) (n : Nat) (F : xF) : Prop := n ≤ 840 ∧ A[11]? = some (.inr (4, [.ref 5, .ref 12, .ref 13, .ref 14, .ref 15, .ref 16, .ref 17, .int (nI n)])) ∧ A[12]? = some (.inl (.int, 840, .inl F.1)) ∧ A[13]? = some (.inl (.int, 840, .inl F.2.1)) ∧ A[14]? = some (.inl (.int, 840, .inl F.2.2.1)) ∧ A[15]? = some (.inl (.int, 840, .inl F.2.2.2.1)) ∧ A[16]? = some (.inl (.int, 840, .inl F.2.2.2.2.1)) ∧ A[17]? = some (.inl (.int, 840, .inl F.2.2.2.2.2))
theorem xPt.same {A A' : List xC} {n : Nat} {F : xF} {l : List Nat} (h : xPt A n F) (hs : xSame A A' l) (h11 : 11 ∉ l) (h12 : 12 ∉ l) (h13 : 13 ∉ l) (h14 : 14 ∉ l) (h15 : 15 ∉ l) (h16 : 16 ∉ l) (h17 : 17 ∉ l) : xPt A' n F :=
  ⟨h.1, (hs.2 _ h11).trans h.2.1, (hs.2 _ h12).trans h.2.2.1, (hs.2 _ h13).trans h.2.2.2.1, (hs.2 _ h14).trans h.2.2.2.2.1, (hs.2 _ h15).trans h.2.2.2.2.2.1, (hs.2 _ h16).trans h.2.2.2.2.2.2.1, (hs.2 _ h17).trans h.2.2.2.2.2.2.2⟩
theorem xPt.setK {A : List xC} {n : Nat} {F : xF} (h : xPt A n F) (f : Nat → Int32) : xPt (A.set 12 (.inl (.int, 840, .inl f))) n (f, F.2.1, F.2.2.1, F.2.2.2.1, F.2.2.2.2.1, F.2.2.2.2.2) :=
  ⟨h.1, xset_n7 (by decide) h.2.1, xset_eq h.2.2.1, xset_n7 (by decide) h.2.2.2.1, xset_n7 (by decide) h.2.2.2.2.1, xset_n7 (by decide) h.2.2.2.2.2.1, xset_n7 (by decide) h.2.2.2.2.2.2.1, xset_n7 (by decide) h.2.2.2.2.2.2.2⟩
theorem xPt.setV {A : List xC} {n : Nat} {F : xF} (h : xPt A n F) (f : Nat → Int32) : xPt (A.set 13 (.inl (.int, 840, .inl f))) n (F.1, f, F.2.2.1, F.2.2.2.1, F.2.2.2.2.1, F.2.2.2.2.2) :=
  ⟨h.1, xset_n7 (by decide) h.2.1, xset_n7 (by decide) h.2.2.1, xset_eq h.2.2.2.1, xset_n7 (by decide) h.2.2.2.2.1, xset_n7 (by decide) h.2.2.2.2.2.1, xset_n7 (by decide) h.2.2.2.2.2.2.1, xset_n7 (by decide) h.2.2.2.2.2.2.2⟩
theorem xPt.setS {A : List xC} {n : Nat} {F : xF} (h : xPt A n F) (f : Nat → Int32) : xPt (A.set 14 (.inl (.int, 840, .inl f))) n (F.1, F.2.1, f, F.2.2.2.1, F.2.2.2.2.1, F.2.2.2.2.2) :=
  ⟨h.1, xset_n7 (by decide) h.2.1, xset_n7 (by decide) h.2.2.1, xset_n7 (by decide) h.2.2.2.1, xset_eq h.2.2.2.2.1, xset_n7 (by decide) h.2.2.2.2.2.1, xset_n7 (by decide) h.2.2.2.2.2.2.1, xset_n7 (by decide) h.2.2.2.2.2.2.2⟩
theorem xPt.setF {A : List xC} {n : Nat} {F : xF} (h : xPt A n F) (f : Nat → Int32) : xPt (A.set 15 (.inl (.int, 840, .inl f))) n (F.1, F.2.1, F.2.2.1, f, F.2.2.2.2.1, F.2.2.2.2.2) :=
  ⟨h.1, xset_n7 (by decide) h.2.1, xset_n7 (by decide) h.2.2.1, xset_n7 (by decide) h.2.2.2.1, xset_n7 (by decide) h.2.2.2.2.1, xset_eq h.2.2.2.2.2.1, xset_n7 (by decide) h.2.2.2.2.2.2.1, xset_n7 (by decide) h.2.2.2.2.2.2.2⟩
theorem xPt.setX {A : List xC} {n : Nat} {F : xF} (h : xPt A n F) (f : Nat → Int32) : xPt (A.set 16 (.inl (.int, 840, .inl f))) n (F.1, F.2.1, F.2.2.1, F.2.2.2.1, f, F.2.2.2.2.2) :=
  ⟨h.1, xset_n7 (by decide) h.2.1, xset_n7 (by decide) h.2.2.1, xset_n7 (by decide) h.2.2.2.1, xset_n7 (by decide) h.2.2.2.2.1, xset_n7 (by decide) h.2.2.2.2.2.1, xset_eq h.2.2.2.2.2.2.1, xset_n7 (by decide) h.2.2.2.2.2.2.2⟩
theorem xPt.setD {A : List xC} {n : Nat} {F : xF} (h : xPt A n F) (f : Nat → Int32) : xPt (A.set 17 (.inl (.int, 840, .inl f))) n (F.1, F.2.1, F.2.2.1, F.2.2.2.1, F.2.2.2.2.1, f) :=
  ⟨h.1, xset_n7 (by decide) h.2.1, xset_n7 (by decide) h.2.2.1, xset_n7 (by decide) h.2.2.2.1, xset_n7 (by decide) h.2.2.2.2.1, xset_n7 (by decide) h.2.2.2.2.2.1, xset_n7 (by decide) h.2.2.2.2.2.2.1, xset_eq h.2.2.2.2.2.2.2⟩
theorem xPt.setN {A : List xC} {n m : Nat} {F : xF} (h : xPt A n F) (hm : m ≤ 840) : xPt (A.set 11 (.inr (4, [.ref 5, .ref 12, .ref 13, .ref 14, .ref 15, .ref 16, .ref 17, .int (nI m)]))) m F :=
  ⟨hm, xset_eq h.2.1, xset_n7 (by decide) h.2.2.1, xset_n7 (by decide) h.2.2.2.1, xset_n7 (by decide) h.2.2.2.2.1, xset_n7 (by decide) h.2.2.2.2.2.1, xset_n7 (by decide) h.2.2.2.2.2.2.1, xset_n7 (by decide) h.2.2.2.2.2.2.2⟩
set_option maxRecDepth 100000 in
theorem p_partsUsed {sc : xSc} {d g n : Nat} {A : List xC} {F : xF} {P : xO → xH → Prop} (hp : xPt A n F) (k : P (.inl (some (.int (nI n)))) (A, g)) : xM1 sc d 57 [.ref 11] (A, g) P := by
  have h11 := hp.2.1
  unfold xM1
  repeat' first
    | refine xP_s rfl rfl rfl ?_
    | refine xP_get rfl h11 rfl ?_
    | refine xP_ret rfl rfl rfl ?_
  exact k
set_option maxRecDepth 100000 in
theorem p_partsCut {sc : xSc} {d g n m : Nat} {A : List xC} {F : xF} {P : xO → xH → Prop} (hp : xPt A n F) (hm : m ≤ n) (k : ∀ A', xPt A' m F → xSame A A' [11] → P (.inl none) (A', g)) : xM1 sc d 58 [.ref 11, .int (nI m)] (A, g) P := by
  have h11 := hp.2.1
  have hn := hp.1
  have h0 : (0 : Int32).toInt = 0 := rfl
  have hN : (nI n).toInt = (n : Int) := nI_toInt (by omega)
  have hM : (nI m).toInt = (m : Int) := nI_toInt (by omega)
  unfold xM1
  repeat' first
    | refine xP_s rfl rfl rfl ?_
    | refine xP_get rfl h11 rfl ?_
    | refine xP_put rfl h11 (Nat.le_of_ble_eq_true rfl) rfl ?_
    | refine xP_if (fun hc => ?_) (fun hc => ?_)
    | refine xP_ret rfl rfl rfl ?_
  · have := xc_t hc
    dsimp only at this
    omega
  · have := xc_t hc
    dsimp only at this
    have e : m = n := by omega
    subst e
    exact k A hp (xSame.refl _ _)
  · exact k _ (hp.setN (by omega)) (xSame.set _ _)
set_option maxRecDepth 100000 in
theorem p_isPart {sc : xSc} {d g n : Nat} {A : List xC} {F : xF} {x : Int32} {b : Bool} {P : xO → xH → Prop} (hp : xPt A n F) (hb : b = true ↔ 0 ≤ x.toInt ∧ x.toInt < n) (k : P (.inl (some (.int (xb b)))) (A, g)) : xM1 sc d 59 [.ref 11, .int x] (A, g) P := by
  have h11 := hp.2.1
  have hn := hp.1
  have h0 : (0 : Int32).toInt = 0 := rfl
  have h840 : (840 : Int32).toInt = 840 := rfl
  have hN : (nI n).toInt = (n : Int) := nI_toInt (by omega)
  unfold xM1
  repeat' first
    | refine xP_s rfl rfl rfl ?_
    | refine xP_get rfl h11 rfl ?_
    | refine xP_if (fun hc => ?_) (fun hc => ?_)
    | refine xP_ret rfl rfl rfl ?_
  all_goals
    (try simp only [xc_i, decide_eq_true_eq, decide_eq_false_iff_not] at *)
  all_goals first
    | (rw [show b = true from hb.mpr (by omega)] at k; exact k)
    | (rw [show b = false from Bool.not_eq_true _ ▸ fun q => absurd (hb.mp q) (by omega)] at k; exact k)
/-- of a part, or of none -/
def ptG (f : Nat → Int32) (df : Int32) (o : Option Nat) : Int32 := match o with
  | some j => f j
  | none => df
theorem sI_in {n : Nat} {o : Option Nat} (hn : n < 2 ^ 31) (hv : ∀ i, o = some i → i < n) : o.isSome = true ↔ 0 ≤ (sI o).toInt ∧ (sI o).toInt < n := by
  cases o with
  | none => simp [sI]
  | some i =>
    have := hv i rfl
    simp only [sI, nI_toInt (show i < 2 ^ 31 by omega)]
    simp
    omega
set_option maxRecDepth 100000 in
theorem p_kind {sc : xSc} {d g n : Nat} {A : List xC} {F : xF} {o : Option Nat} {P : xO → xH → Prop} (hp : xPt A n F) (hv : ∀ i, o = some i → i < n) (k : P (.inl (some (.int (ptG F.1 (-1) o)))) (A, g)) : xM1 sc (d + 1) 60 [.ref 11, .int (sI o)] (A, g) P := by
  have h11 := hp.2.1
  have hn := hp.1
  unfold xM1
  refine xP_s rfl rfl rfl ?_
  refine xP_s rfl rfl rfl ?_
  refine xP_cv rfl rfl rfl rfl rfl h11 (p_isPart hp (sI_in (by omega) hv) ?_)
  cases o with
  | none =>
    repeat' first
      | refine xP_s rfl rfl rfl ?_
      | refine xP_ret rfl rfl rfl ?_
    exact k
  | some i =>
    have hi := hv i rfl
    have hI : (nI i).toInt = (i : Int) := nI_toInt (by omega)
    repeat' first
      | refine xP_s rfl rfl rfl ?_
      | refine xP_get rfl h11 rfl ?_
    refine xP_ial rfl hp.2.2.1 (by decide) (xib_of (by show 0 ≤ (nI i).toInt; omega) (by show (nI i).toInt < _; omega)) ?_
    rw [show Int32.toNatClampNeg (sI (some i)) = i from nI_clamp (by omega)]
    repeat' first
      | refine xP_s rfl rfl rfl ?_
      | refine xP_ret rfl rfl rfl ?_
    exact k
set_option maxRecDepth 100000 in
theorem p_value {sc : xSc} {d g n : Nat} {A : List xC} {F : xF} {o : Option Nat} {P : xO → xH → Prop} (hp : xPt A n F) (hv : ∀ i, o = some i → i < n) (k : P (.inl (some (.int (ptG F.2.1 0 o)))) (A, g)) : xM1 sc (d + 1) 61 [.ref 11, .int (sI o)] (A, g) P := by
  have h11 := hp.2.1
  have hn := hp.1
  unfold xM1
  refine xP_s rfl rfl rfl ?_
  refine xP_s rfl rfl rfl ?_
  refine xP_cv rfl rfl rfl rfl rfl h11 (p_isPart hp (sI_in (by omega) hv) ?_)
  cases o with
  | none =>
    repeat' first
      | refine xP_s rfl rfl rfl ?_
      | refine xP_ret rfl rfl rfl ?_
    exact k
  | some i =>
    have hi := hv i rfl
    have hI : (nI i).toInt = (i : Int) := nI_toInt (by omega)
    repeat' first
      | refine xP_s rfl rfl rfl ?_
      | refine xP_get rfl h11 rfl ?_
    refine xP_ial rfl hp.2.2.2.1 (by decide) (xib_of (by show 0 ≤ (nI i).toInt; omega) (by show (nI i).toInt < _; omega)) ?_
    rw [show Int32.toNatClampNeg (sI (some i)) = i from nI_clamp (by omega)]
    repeat' first
      | refine xP_s rfl rfl rfl ?_
      | refine xP_ret rfl rfl rfl ?_
    exact k
set_option maxRecDepth 100000 in
theorem p_nameSize {sc : xSc} {d g n : Nat} {A : List xC} {F : xF} {o : Option Nat} {P : xO → xH → Prop} (hp : xPt A n F) (hv : ∀ i, o = some i → i < n) (k : P (.inl (some (.int (ptG F.2.2.1 0 o)))) (A, g)) : xM1 sc (d + 1) 62 [.ref 11, .int (sI o)] (A, g) P := by
  have h11 := hp.2.1
  have hn := hp.1
  unfold xM1
  refine xP_s rfl rfl rfl ?_
  refine xP_s rfl rfl rfl ?_
  refine xP_cv rfl rfl rfl rfl rfl h11 (p_isPart hp (sI_in (by omega) hv) ?_)
  cases o with
  | none =>
    repeat' first
      | refine xP_s rfl rfl rfl ?_
      | refine xP_ret rfl rfl rfl ?_
    exact k
  | some i =>
    have hi := hv i rfl
    have hI : (nI i).toInt = (i : Int) := nI_toInt (by omega)
    repeat' first
      | refine xP_s rfl rfl rfl ?_
      | refine xP_get rfl h11 rfl ?_
    refine xP_ial rfl hp.2.2.2.2.1 (by decide) (xib_of (by show 0 ≤ (nI i).toInt; omega) (by show (nI i).toInt < _; omega)) ?_
    rw [show Int32.toNatClampNeg (sI (some i)) = i from nI_clamp (by omega)]
    repeat' first
      | refine xP_s rfl rfl rfl ?_
      | refine xP_ret rfl rfl rfl ?_
    exact k
set_option maxRecDepth 100000 in
theorem p_first {sc : xSc} {d g n : Nat} {A : List xC} {F : xF} {o : Option Nat} {P : xO → xH → Prop} (hp : xPt A n F) (hv : ∀ i, o = some i → i < n) (k : P (.inl (some (.int (ptG F.2.2.2.1 (-1) o)))) (A, g)) : xM1 sc (d + 1) 63 [.ref 11, .int (sI o)] (A, g) P := by
  have h11 := hp.2.1
  have hn := hp.1
  unfold xM1
  refine xP_s rfl rfl rfl ?_
  refine xP_s rfl rfl rfl ?_
  refine xP_cv rfl rfl rfl rfl rfl h11 (p_isPart hp (sI_in (by omega) hv) ?_)
  cases o with
  | none =>
    repeat' first
      | refine xP_s rfl rfl rfl ?_
      | refine xP_ret rfl rfl rfl ?_
    exact k
  | some i =>
    have hi := hv i rfl
    have hI : (nI i).toInt = (i : Int) := nI_toInt (by omega)
    repeat' first
      | refine xP_s rfl rfl rfl ?_
      | refine xP_get rfl h11 rfl ?_
    refine xP_ial rfl hp.2.2.2.2.2.1 (by decide) (xib_of (by show 0 ≤ (nI i).toInt; omega) (by show (nI i).toInt < _; omega)) ?_
    rw [show Int32.toNatClampNeg (sI (some i)) = i from nI_clamp (by omega)]
    repeat' first
      | refine xP_s rfl rfl rfl ?_
      | refine xP_ret rfl rfl rfl ?_
    exact k
set_option maxRecDepth 100000 in
theorem p_next {sc : xSc} {d g n : Nat} {A : List xC} {F : xF} {o : Option Nat} {P : xO → xH → Prop} (hp : xPt A n F) (hv : ∀ i, o = some i → i < n) (k : P (.inl (some (.int (ptG F.2.2.2.2.1 (-1) o)))) (A, g)) : xM1 sc (d + 1) 64 [.ref 11, .int (sI o)] (A, g) P := by
  have h11 := hp.2.1
  have hn := hp.1
  unfold xM1
  refine xP_s rfl rfl rfl ?_
  refine xP_s rfl rfl rfl ?_
  refine xP_cv rfl rfl rfl rfl rfl h11 (p_isPart hp (sI_in (by omega) hv) ?_)
  cases o with
  | none =>
    repeat' first
      | refine xP_s rfl rfl rfl ?_
      | refine xP_ret rfl rfl rfl ?_
    exact k
  | some i =>
    have hi := hv i rfl
    have hI : (nI i).toInt = (i : Int) := nI_toInt (by omega)
    repeat' first
      | refine xP_s rfl rfl rfl ?_
      | refine xP_get rfl h11 rfl ?_
    refine xP_ial rfl hp.2.2.2.2.2.2.1 (by decide) (xib_of (by show 0 ≤ (nI i).toInt; omega) (by show (nI i).toInt < _; omega)) ?_
    rw [show Int32.toNatClampNeg (sI (some i)) = i from nI_clamp (by omega)]
    repeat' first
      | refine xP_s rfl rfl rfl ?_
      | refine xP_ret rfl rfl rfl ?_
    exact k
set_option maxRecDepth 100000 in
theorem p_depth {sc : xSc} {d g n : Nat} {A : List xC} {F : xF} {o : Option Nat} {P : xO → xH → Prop} (hp : xPt A n F) (hv : ∀ i, o = some i → i < n) (k : P (.inl (some (.int (ptG F.2.2.2.2.2 0 o)))) (A, g)) : xM1 sc (d + 1) 66 [.ref 11, .int (sI o)] (A, g) P := by
  have h11 := hp.2.1
  have hn := hp.1
  unfold xM1
  refine xP_s rfl rfl rfl ?_
  refine xP_s rfl rfl rfl ?_
  refine xP_cv rfl rfl rfl rfl rfl h11 (p_isPart hp (sI_in (by omega) hv) ?_)
  cases o with
  | none =>
    repeat' first
      | refine xP_s rfl rfl rfl ?_
      | refine xP_ret rfl rfl rfl ?_
    exact k
  | some i =>
    have hi := hv i rfl
    have hI : (nI i).toInt = (i : Int) := nI_toInt (by omega)
    repeat' first
      | refine xP_s rfl rfl rfl ?_
      | refine xP_get rfl h11 rfl ?_
    refine xP_ial rfl hp.2.2.2.2.2.2.2 (by decide) (xib_of (by show 0 ≤ (nI i).toInt; omega) (by show (nI i).toInt < _; omega)) ?_
    rw [show Int32.toNatClampNeg (sI (some i)) = i from nI_clamp (by omega)]
    repeat' first
      | refine xP_s rfl rfl rfl ?_
      | refine xP_ret rfl rfl rfl ?_
    exact k
set_option maxRecDepth 100000 in
theorem p_link {sc : xSc} {d g n : Nat} {A : List xC} {F : xF} {o : Option Nat} {x : Int32} {P : xO → xH → Prop} (hp : xPt A n F) (hv : ∀ i, o = some i → i < n) (k : ∀ A', xPt A' n (F.1, F.2.1, F.2.2.1, F.2.2.2.1, (match o with | some j => upd F.2.2.2.2.1 j x | none => F.2.2.2.2.1), F.2.2.2.2.2) → xSame A A' [16] → P (.inl none) (A', g)) : xM1 sc (d + 1) 67 [.ref 11, .int (sI o), .int x] (A, g) P := by
  have h11 := hp.2.1
  have hn := hp.1
  unfold xM1
  refine xP_s rfl rfl rfl ?_
  refine xP_s rfl rfl rfl ?_
  refine xP_cv rfl rfl rfl rfl rfl h11 (p_isPart hp (sI_in (by omega) hv) ?_)
  cases o with
  | none =>
    repeat' first
      | refine xP_s rfl rfl rfl ?_
      | refine xP_ret rfl rfl rfl ?_
    exact k A hp (xSame.refl _ _)
  | some i =>
    have hi := hv i rfl
    have hI : (nI i).toInt = (i : Int) := nI_toInt (by omega)
    repeat' first
      | refine xP_s rfl rfl rfl ?_
      | refine xP_get rfl h11 rfl ?_
    refine xP_ias rfl hp.2.2.2.2.2.2.1 (xib_of (by show 0 ≤ (nI i).toInt; omega) (by show (nI i).toInt < _; omega)) ?_
    rw [show Int32.toNatClampNeg (sI (some i)) = i from nI_clamp (by omega)]
    repeat' first
      | refine xP_s rfl rfl rfl ?_
      | refine xP_ret rfl rfl rfl ?_
    exact k _ (hp.setX _) (xSame.set _ _)
set_option maxRecDepth 100000 in
theorem p_isNamed {sc : xSc} {d g n : Nat} {A : List xC} {F : xF} {o : Option Nat} {b : Bool} {P : xO → xH → Prop} (hp : xPt A n F) (hv : ∀ i, o = some i → i < n) (hb : b = true ↔ (ptG F.1 (-1) o).toInt = 2 ∨ (ptG F.1 (-1) o).toInt = 3) (k : P (.inl (some (.int (xb b)))) (A, g)) : xM1 sc (d + 2) 68 [.ref 11, .int (sI o)] (A, g) P := by
  have h11 := hp.2.1
  have h2 : (2 : Int32).toInt = 2 := rfl
  have h3 : (3 : Int32).toInt = 3 := rfl
  unfold xM1
  repeat' first
    | refine xP_s rfl rfl rfl ?_
    | refine xP_cv rfl rfl rfl rfl rfl h11 (p_kind hp hv ?_)
    | refine xP_if (fun hc => ?_) (fun hc => ?_)
    | refine xP_ret rfl rfl rfl ?_
  all_goals
    (try simp only [xc_i, decide_eq_true_eq, decide_eq_false_iff_not] at *)
  all_goals first
    | (rw [show b = true from hb.mpr (by omega)] at k; exact k)
    | (rw [show b = false from Bool.not_eq_true _ ▸ fun q => absurd (hb.mp q) (by omega)] at k; exact k)
set_option maxRecDepth 100000 in
theorem p_partsAdd {sc : xSc} {d g n : Nat} {A : List xC} {F : xF} {x1 x2 x3 x4 x5 : Int32} {P : xO → xH → Prop} (hp : xPt A n F)
    (k0 : n = 840 → P (.inl (some (.int (-1)))) (A, g))
    (k : n < 840 → ∀ A', xPt A' (n + 1) (upd F.1 n x1, upd F.2.1 n x2, upd F.2.2.1 n x3, upd F.2.2.2.1 n x4, upd F.2.2.2.2.1 n (-1), upd F.2.2.2.2.2 n x5) → xSame A A' [11, 12, 13, 14, 15, 16, 17] → P (.inl (some (.int (nI n)))) (A', g)) : xM1 sc d 74 [.ref 11, .int x1, .int x2, .int x3, .int x4, .int x5] (A, g) P := by
  have h11 := hp.2.1
  have hn := hp.1
  have h0 : (0 : Int32).toInt = 0 := rfl
  have h840 : (840 : Int32).toInt = 840 := rfl
  have hN : (nI n).toInt = (n : Int) := nI_toInt (by omega)
  have hcl : (nI n).toNatClampNeg = n := nI_clamp (by omega)
  unfold xM1
  refine xP_s rfl rfl rfl ?_
  refine xP_get rfl h11 rfl ?_
  refine xP_s rfl rfl rfl ?_
  refine xP_if (fun hc => ?_) (fun hc => ?_)
  · have := xc_t hc
    dsimp only at this
    omega
  · refine xP_s rfl rfl rfl ?_
    refine xP_get rfl h11 rfl ?_
    refine xP_s rfl rfl rfl ?_
    refine xP_s rfl rfl rfl ?_
    refine xP_if (fun hc => ?_) (fun hc => ?_)
    · have hlt := xc_t hc
      dsimp only at hlt
      have hi : xib (nI n) 840 = true := xib_of (by omega) (by omega)
      repeat' first
        | refine xP_s rfl rfl rfl ?_
        | refine xP_get rfl h11 rfl ?_
      refine xP_ias rfl hp.2.2.1 hi ?_
      rw [hcl]
      have p1 := hp.setK (upd F.1 n x1)
      repeat' first
        | refine xP_s rfl rfl rfl ?_
        | refine xP_get rfl p1.2.1 rfl ?_
      refine xP_ias rfl p1.2.2.2.1 hi ?_
      rw [hcl]
      have p2 := p1.setV (upd F.2.1 n x2)
      repeat' first
        | refine xP_s rfl rfl rfl ?_
        | refine xP_get rfl p2.2.1 rfl ?_
      refine xP_ias rfl p2.2.2.2.2.1 hi ?_
      rw [hcl]
      have p3 := p2.setS (upd F.2.2.1 n x3)
      repeat' first
        | refine xP_s rfl rfl rfl ?_
        | refine xP_get rfl p3.2.1 rfl ?_
      refine xP_ias rfl p3.2.2.2.2.2.1 hi ?_
      rw [hcl]
      have p4 := p3.setF (upd F.2.2.2.1 n x4)
      repeat' first
        | refine xP_s rfl rfl rfl ?_
        | refine xP_get rfl p4.2.1 rfl ?_
      refine xP_ias rfl p4.2.2.2.2.2.2.1 hi ?_
      rw [hcl]
      have p5 := p4.setX (upd F.2.2.2.2.1 n (-1))
      repeat' first
        | refine xP_s rfl rfl rfl ?_
        | refine xP_get rfl p5.2.1 rfl ?_
      refine xP_ias rfl p5.2.2.2.2.2.2.2 hi ?_
      rw [hcl]
      have p6 := p5.setD (upd F.2.2.2.2.2 n x5)
      refine xP_s rfl rfl rfl ?_
      refine xP_s rfl rfl rfl ?_
      refine xP_get rfl p6.2.1 rfl ?_
      refine xP_s rfl rfl rfl ?_
      refine xP_s rfl rfl rfl ?_
      refine xP_put rfl p6.2.1 (Nat.le_of_ble_eq_true rfl) rfl ?_
      rw [show nI n + 1 = nI (n + 1) from nI_1 n]
      have p7 := p6.setN (m := n + 1) (by omega)
      refine xP_s rfl rfl rfl ?_
      refine xP_get rfl p7.2.1 rfl ?_
      repeat' first
        | refine xP_s rfl rfl rfl ?_
        | refine xP_ret rfl rfl rfl ?_
      rw [show nI (n + 1) - 1 = nI n by rw [← nI_1]; exact Int32.add_sub_cancel _ _]
      exact k (by omega) _ p7 ((((((((xSame.set _ _).trans (xSame.set _ _)).trans (xSame.set _ _)).trans (xSame.set _ _)).trans (xSame.set _ _)).trans (xSame.set _ _)).trans (xSame.set _ _)).wider (by decide))
    · have hge := xc_f hc
      dsimp only at hge
      repeat' first
        | refine xP_s rfl rfl rfl ?_
        | refine xP_ret rfl rfl rfl ?_
      exact k0 (by omega)
end
section
-- Parts: chains, names, what is added
/-- kind, value, name, number of arguments -/
abbrev xIt : Type := Nat × Int × List Nat × Nat
def nmAt (nm : List Nat) (z : Nat) (l : List Nat) : Prop := z + l.length ≤ nm.length ∧ ∀ i c, l[i]? = some c → nm[z + i]? = some c
theorem nmAt.more {nm r l : List Nat} {z : Nat} (h : nmAt nm z l) : nmAt (nm ++ r) z l := by
  refine ⟨by simp; have := h.1; omega, fun i c hi => ?_⟩
  have h1 := h.2 i c hi
  rw [List.getElem?_append_left (List.getElem?_eq_some_iff.mp h1).1]
  exact h1
/-- a chain of k parts below n -/
def xCn (F : xF) (n : Nat) : Int32 → Nat → Prop
  | x, 0 => x = -1
  | x, k + 1 => ∃ j, j < n ∧ x = nI j ∧ xCn F n (F.2.2.2.2.1 j) k
/-- with their greatest depth -/
def xCd (F : xF) (n : Nat) : Int32 → Nat → Nat → Prop
  | x, 0, m => x = -1 ∧ m = 0
  | x, k + 1, m => ∃ j D m', j < n ∧ x = nI j ∧ F.2.2.2.2.2 j = nI D ∧ D ≤ 14 ∧ m = max D m' ∧ xCd F n (F.2.2.2.2.1 j) k m'
theorem xCd.le {F : xF} {n : Nat} : ∀ {k : Nat} {x : Int32} {m : Nat}, xCd F n x k m → m ≤ 14
  | 0, x, m, h => by have := h.2; omega
  | k + 1, x, m, h => by
    obtain ⟨j, D, m', _, _, _, h4, h5, h6⟩ := h
    have := xCd.le h6
    omega
theorem nI_neg1 {j : Nat} (h : j < 2 ^ 31) : ¬ (nI j).toInt = (-1 : Int32).toInt := by
  rw [nI_toInt h]
  show ¬ (j : Int) = -1
  omega
set_option maxRecDepth 100000 in
theorem p_arityLoop {sc : xSc} {d g n : Nat} {A : List xC} {F : xF} {P : xO → xH → Prop} (hp : xPt A n F) {y : Int32} : ∀ (k i : Nat) (x : Int32), i + k ≤ 6 → xCn F n x k → P (.inl (some (.int (nI (i + k))))) (A, g) →
    xP sc (d + 2) 70 11 [(0, .ref 11), (1, .int y), (2, .int (nI i)), (3, .int x), (4, .int (nI i))] [] (A, g) P
  | 0, i, x, hi, hx, k => by
    have h6 : (6 : Int32).toInt = 6 := rfl
    have hI : (nI i).toInt = (i : Int) := nI_toInt (by omega)
    have hx : x = -1 := hx
    subst hx
    refine xP_s rfl rfl rfl ?_
    refine xP_s rfl rfl rfl ?_
    refine xP_s rfl rfl rfl ?_
    refine xP_if (fun hc => ?_) (fun hc => ?_)
    · repeat' first
        | refine xP_s rfl rfl rfl ?_
        | refine xP_ret rfl rfl rfl ?_
      exact k
    · refine xP_s rfl rfl rfl ?_
      refine xP_s rfl rfl rfl ?_
      refine xP_s rfl rfl rfl ?_
      refine xP_if (fun hc => ?_) (fun hc => ?_)
      · repeat' first
          | refine xP_s rfl rfl rfl ?_
          | refine xP_ret rfl rfl rfl ?_
        exact k
      · exact absurd rfl (xc_f hc)
  | m + 1, i, x, hi, hx, k => by
    obtain ⟨j, hj, hxj, hch⟩ := hx
    have h11 := hp.2.1
    have hn := hp.1
    have h6 : (6 : Int32).toInt = 6 := rfl
    have hI : (nI i).toInt = (i : Int) := nI_toInt (by omega)
    have go := p_arityLoop (sc := sc) (d := d) (g := g) (P := P) hp (y := y) m (i + 1) _ (by omega) hch (by rw [show i + 1 + m = i + (m + 1) by omega]; exact k)
    rw [← nI_1] at go
    subst hxj
    refine xP_s rfl rfl rfl ?_
    refine xP_s rfl rfl rfl ?_
    refine xP_s rfl rfl rfl ?_
    refine xP_if (fun hc => ?_) (fun hc => ?_)
    · have := xc_t hc
      dsimp only at this
      omega
    · refine xP_s rfl rfl rfl ?_
      refine xP_s rfl rfl rfl ?_
      refine xP_s rfl rfl rfl ?_
      refine xP_if (fun hc => ?_) (fun hc => ?_)
      · exact absurd (xc_t hc) (nI_neg1 (by omega))
      · repeat' first
          | exact go
          | refine xP_s rfl rfl rfl ?_
          | refine xP_cv rfl rfl rfl rfl rfl h11 (p_next hp (o := some j) (fun i h => Option.some.inj h ▸ hj) ?_)
set_option maxRecDepth 100000 in
theorem p_arity {sc : xSc} {d g n j k : Nat} {A : List xC} {F : xF} {P : xO → xH → Prop} (hp : xPt A n F) (hj : j < n) (hk : k ≤ 6) (hc : xCn F n (F.2.2.2.1 j) k) (kk : P (.inl (some (.int (nI k)))) (A, g)) : xM1 sc (d + 2) 70 [.ref 11, .int (nI j)] (A, g) P := by
  have h11 := hp.2.1
  have loop := p_arityLoop (sc := sc) (d := d) (g := g) (P := P) hp (y := nI j) k 0 _ (by omega) hc (by rw [Nat.zero_add]; exact kk)
  unfold xM1
  repeat' first
    | exact loop
    | refine xP_s rfl rfl rfl ?_
    | refine xP_cv rfl rfl rfl rfl rfl h11 (p_first hp (o := some j) (fun i h => Option.some.inj h ▸ hj) ?_)
/-- the node of a part -/
def ndK (F : xF) (nm : List Nat) (j : Nat) (p : xIt) : Prop := F.1 j = nI p.1 ∧ p.1 ≤ 3 ∧ (p.1 < 2 → (F.2.1 j).toInt = p.2.1) ∧ (2 ≤ p.1 → ∃ z, F.2.1 j = nI z ∧ F.2.2.1 j = nI p.2.2.1.length ∧ nmAt nm z p.2.2.1)
/-- the key of a part -/
def kP (p : xIt) : Int64 := if p.1 < 2 then 0 else kL p.2.2.1
set_option maxRecDepth 100000 in
theorem p_key {sc : xSc} {d g n j : Nat} {A : List xC} {F : xF} {nm : List Nat} {p : xIt} {P : xO → xH → Prop} (hp : xPt A n F) (hn : xRw A 5 4926 nm) (hj : j < n) (hd : ndK F nm j p) (k : P (.inl (some (.long (kP p)))) (A, g)) : xM1 sc (d + 2) 69 [.ref 11, .int (nI j)] (A, g) P := by
  have h11 := hp.2.1
  have h2 : (2 : Int32).toInt = 2 := rfl
  have h3 : (3 : Int32).toInt = 3 := rfl
  obtain ⟨q1, q2, q3, q4⟩ := hd
  have hK : (nI p.1).toInt = (p.1 : Int) := nI_toInt (by omega)
  have hv : ∀ i, (some j) = some i → i < n := fun i h => by cases h; exact hj
  unfold kP at k
  by_cases hlt : p.1 < 2
  · rw [if_pos hlt] at k
    unfold xM1
    refine xP_s rfl rfl rfl ?_
    refine xP_s rfl rfl rfl ?_
    refine xP_cv rfl rfl rfl rfl rfl h11 (p_kind (o := some j) hp hv ?_)
    rw [show ptG F.1 (-1) (some j) = nI p.1 from q1]
    refine xP_s rfl rfl rfl ?_
    refine xP_s rfl rfl rfl ?_
    refine xP_s rfl rfl rfl ?_
    refine xP_s rfl rfl rfl ?_
    refine xP_if (fun hc => ?_) (fun hc => ?_)
    · have := xc_t hc
      dsimp only at this
      omega
    · refine xP_s rfl rfl rfl ?_
      refine xP_s rfl rfl rfl ?_
      refine xP_s rfl rfl rfl ?_
      refine xP_if (fun hc => ?_) (fun hc => ?_)
      · repeat' first
          | refine xP_s rfl rfl rfl ?_
          | refine xP_ret rfl rfl rfl ?_
        exact k
      · have := xc_f hc
        dsimp only at this
        omega
  · rw [if_neg hlt] at k
    obtain ⟨z, z1, z2, z3⟩ := q4 (by omega)
    have tail : ∀ x, xP sc (d + 2) 69 16 [(0, .ref 11), (1, .int (nI j)), (2, .int x)] [] (A, g) P := by
      intro x
      refine xP_s rfl rfl rfl ?_
      refine xP_get rfl h11 rfl ?_
      refine xP_s rfl rfl rfl ?_
      refine xP_s rfl rfl rfl ?_
      refine xP_cv rfl rfl rfl rfl rfl h11 (p_value (o := some j) hp hv ?_)
      rw [show ptG F.2.1 0 (some j) = nI z from z1]
      refine xP_s rfl rfl rfl ?_
      refine xP_s rfl rfl rfl ?_
      refine xP_cv rfl rfl rfl rfl rfl h11 (p_nameSize (o := some j) hp hv ?_)
      rw [show ptG F.2.2.1 0 (some j) = nI p.2.2.1.length from z2]
      refine xP_call rfl rfl rfl (p_ofRow hn (by decide) (by decide) rfl z3.1 z3.2 ?_)
      repeat' first
        | refine xP_s rfl rfl rfl ?_
        | refine xP_ret rfl rfl rfl ?_
      exact k
    unfold xM1
    refine xP_s rfl rfl rfl ?_
    refine xP_s rfl rfl rfl ?_
    refine xP_cv rfl rfl rfl rfl rfl h11 (p_kind (o := some j) hp hv ?_)
    rw [show ptG F.1 (-1) (some j) = nI p.1 from q1]
    refine xP_s rfl rfl rfl ?_
    refine xP_s rfl rfl rfl ?_
    refine xP_s rfl rfl rfl ?_
    refine xP_s rfl rfl rfl ?_
    refine xP_if (fun hc => ?_) (fun hc => ?_)
    · exact tail _
    · have t1 := xc_f hc
      dsimp only at t1
      refine xP_s rfl rfl rfl ?_
      refine xP_s rfl rfl rfl ?_
      refine xP_s rfl rfl rfl ?_
      refine xP_if (fun hc => ?_) (fun hc => ?_)
      · have t2 := xc_t hc
        dsimp only at t2
        omega
      · exact tail _
theorem lgc0 (x y : Int64) : (lg_cmp x y).toInt = 0 ↔ x = y := by
  rw [← lg_cmp_eq, show (0 : Int) = (0 : Int32).toInt from rfl, Int32.toInt_inj]
def isNilP (p : xIt) : Bool := decide (p.1 = 2) && decide (kP p = 23899)
def isDotP (p : xIt) : Bool := decide (p.1 = 3) && (decide (kP p = 46) && decide (p.2.2.2 = 2))
def isBrcP (p : xIt) : Bool := decide (p.1 = 3) && (decide (kP p = 32123) && decide (p.2.2.2 = 1))
set_option maxRecDepth 100000 in
theorem p_isNil {sc : xSc} {d g n j : Nat} {A : List xC} {F : xF} {nm : List Nat} {p : xIt} {P : xO → xH → Prop} (hp : xPt A n F) (hn : xRw A 5 4926 nm) (hj : j < n) (hd : ndK F nm j p) (k : P (.inl (some (.int (xb (isNilP p))))) (A, g)) : xM1 sc (d + 3) 71 [.ref 11, .int (nI j)] (A, g) P := by
  have h11 := hp.2.1
  have h2 : (2 : Int32).toInt = 2 := rfl
  have h0 : (0 : Int32).toInt = 0 := rfl
  have q1 := hd.1
  have q2 := hd.2.1
  have hK : (nI p.1).toInt = (p.1 : Int) := nI_toInt (by omega)
  have hv : ∀ i, (some j) = some i → i < n := fun i h => by cases h; exact hj
  obtain ⟨z, hz⟩ : ∃ z : Nat, z = 1 ↔ kP p = 23899 := ⟨if kP p = 23899 then 1 else 0, by split <;> simp_all⟩
  have hlg := lgc0 (kP p) 23899
  rw [← hz] at hlg
  have hb : isNilP p = true ↔ p.1 = 2 ∧ z = 1 := by simp only [isNilP, Bool.and_eq_true, decide_eq_true_eq, hz]
  unfold xM1
  refine xP_s rfl rfl rfl ?_
  refine xP_s rfl rfl rfl ?_
  refine xP_cv rfl rfl rfl rfl rfl h11 (p_kind (o := some j) hp hv ?_)
  rw [show ptG F.1 (-1) (some j) = nI p.1 from q1]
  repeat' first
    | refine xP_s rfl rfl rfl ?_
    | refine xP_cv rfl rfl rfl rfl rfl h11 (p_key hp hn hj hd ?_)
    | refine xP_if (fun hc => ?_) (fun hc => ?_)
    | refine xP_ret rfl rfl rfl ?_
  all_goals
    (try simp only [xc_i, decide_eq_true_eq, decide_eq_false_iff_not] at *)
  all_goals first
    | (rw [show (isNilP p) = true from hb.mpr (by omega)] at k; exact k)
    | (rw [show (isNilP p) = false from Bool.not_eq_true _ ▸ fun q => absurd (hb.mp q) (by omega)] at k; exact k)
set_option maxRecDepth 100000 in
theorem p_isList {sc : xSc} {d g n j : Nat} {A : List xC} {F : xF} {nm : List Nat} {p : xIt} {P : xO → xH → Prop} (hp : xPt A n F) (hn : xRw A 5 4926 nm) (hj : j < n) (hd : ndK F nm j p) (ha : p.2.2.2 ≤ 6) (hc : xCn F n (F.2.2.2.1 j) p.2.2.2) (k : P (.inl (some (.int (xb (isDotP p))))) (A, g)) : xM1 sc (d + 3) 72 [.ref 11, .int (nI j)] (A, g) P := by
  have h11 := hp.2.1
  have h2 : (2 : Int32).toInt = 2 := rfl
  have h3 : (3 : Int32).toInt = 3 := rfl
  have h0 : (0 : Int32).toInt = 0 := rfl
  have q1 := hd.1
  have q2 := hd.2.1
  have hK : (nI p.1).toInt = (p.1 : Int) := nI_toInt (by omega)
  have hR : (nI p.2.2.2).toInt = (p.2.2.2 : Int) := nI_toInt (by omega)
  have hv : ∀ i, (some j) = some i → i < n := fun i h => by cases h; exact hj
  obtain ⟨z, hz⟩ : ∃ z : Nat, z = 1 ↔ kP p = 46 := ⟨if kP p = 46 then 1 else 0, by split <;> simp_all⟩
  have hlg := lgc0 (kP p) 46
  rw [← hz] at hlg
  have hb : isDotP p = true ↔ p.1 = 3 ∧ z = 1 ∧ p.2.2.2 = 2 := by simp only [isDotP, Bool.and_eq_true, decide_eq_true_eq, hz]
  have ar := fun {P' : xO → xH → Prop} (kk : P' (.inl (some (.int (nI p.2.2.2)))) (A, g)) => p_arity (sc := sc) (d := d) hp hj ha hc kk
  clear hc
  unfold xM1
  refine xP_s rfl rfl rfl ?_
  refine xP_s rfl rfl rfl ?_
  refine xP_cv rfl rfl rfl rfl rfl h11 (p_kind (o := some j) hp hv ?_)
  rw [show ptG F.1 (-1) (some j) = nI p.1 from q1]
  repeat' first
    | refine xP_s rfl rfl rfl ?_
    | refine xP_cv rfl rfl rfl rfl rfl h11 (p_key hp hn hj hd ?_)
    | refine xP_cv rfl rfl rfl rfl rfl h11 (ar ?_)
    | refine xP_if (fun hc => ?_) (fun hc => ?_)
    | refine xP_ret rfl rfl rfl ?_
  all_goals
    (try simp only [xc_i, decide_eq_true_eq, decide_eq_false_iff_not] at *)
  all_goals first
    | (rw [show (isDotP p) = true from hb.mpr (by omega)] at k; exact k)
    | (rw [show (isDotP p) = false from Bool.not_eq_true _ ▸ fun q => absurd (hb.mp q) (by omega)] at k; exact k)
set_option maxRecDepth 100000 in
theorem p_isBraces {sc : xSc} {d g n j : Nat} {A : List xC} {F : xF} {nm : List Nat} {p : xIt} {P : xO → xH → Prop} (hp : xPt A n F) (hn : xRw A 5 4926 nm) (hj : j < n) (hd : ndK F nm j p) (ha : p.2.2.2 ≤ 6) (hc : xCn F n (F.2.2.2.1 j) p.2.2.2) (k : P (.inl (some (.int (xb (isBrcP p))))) (A, g)) : xM1 sc (d + 3) 73 [.ref 11, .int (nI j)] (A, g) P := by
  have h11 := hp.2.1
  have h1 : (1 : Int32).toInt = 1 := rfl
  have h3 : (3 : Int32).toInt = 3 := rfl
  have h0 : (0 : Int32).toInt = 0 := rfl
  have q1 := hd.1
  have q2 := hd.2.1
  have hK : (nI p.1).toInt = (p.1 : Int) := nI_toInt (by omega)
  have hR : (nI p.2.2.2).toInt = (p.2.2.2 : Int) := nI_toInt (by omega)
  have hv : ∀ i, (some j) = some i → i < n := fun i h => by cases h; exact hj
  obtain ⟨z, hz⟩ : ∃ z : Nat, z = 1 ↔ kP p = 32123 := ⟨if kP p = 32123 then 1 else 0, by split <;> simp_all⟩
  have hlg := lgc0 (kP p) 32123
  rw [← hz] at hlg
  have hb : isBrcP p = true ↔ p.1 = 3 ∧ z = 1 ∧ p.2.2.2 = 1 := by simp only [isBrcP, Bool.and_eq_true, decide_eq_true_eq, hz]
  have ar := fun {P' : xO → xH → Prop} (kk : P' (.inl (some (.int (nI p.2.2.2)))) (A, g)) => p_arity (sc := sc) (d := d) hp hj ha hc kk
  clear hc
  unfold xM1
  refine xP_s rfl rfl rfl ?_
  refine xP_s rfl rfl rfl ?_
  refine xP_cv rfl rfl rfl rfl rfl h11 (p_kind (o := some j) hp hv ?_)
  rw [show ptG F.1 (-1) (some j) = nI p.1 from q1]
  repeat' first
    | refine xP_s rfl rfl rfl ?_
    | refine xP_cv rfl rfl rfl rfl rfl h11 (p_key hp hn hj hd ?_)
    | refine xP_cv rfl rfl rfl rfl rfl h11 (ar ?_)
    | refine xP_if (fun hc => ?_) (fun hc => ?_)
    | refine xP_ret rfl rfl rfl ?_
  all_goals
    (try simp only [xc_i, decide_eq_true_eq, decide_eq_false_iff_not] at *)
  all_goals first
    | (rw [show (isBrcP p) = true from hb.mpr (by omega)] at k; exact k)
    | (rw [show (isBrcP p) = false from Bool.not_eq_true _ ▸ fun q => absurd (hb.mp q) (by omega)] at k; exact k)
abbrev xAdd (F : xF) (n : Nat) (x1 x2 x3 x4 x5 : Int32) : xF := (upd F.1 n x1, upd F.2.1 n x2, upd F.2.2.1 n x3, upd F.2.2.2.1 n x4, upd F.2.2.2.2.1 n (-1), upd F.2.2.2.2.2 n x5)
set_option maxRecDepth 100000 in
theorem p_addVariable {sc : xSc} {d g n : Nat} {A : List xC} {F : xF} {x : Int32} {P : xO → xH → Prop} (hp : xPt A n F) (k0 : n = 840 → P (.inl (some (.int (-1)))) (A, g))
    (k : n < 840 → ∀ A', xPt A' (n + 1) (xAdd F n 0 x 0 (-1) 1) → xSame A A' [11, 12, 13, 14, 15, 16, 17] → P (.inl (some (.int (nI n)))) (A', g)) : xM1 sc (d + 1) 75 [.ref 11, .int x] (A, g) P := by
  have h11 := hp.2.1
  unfold xM1
  refine xP_s rfl rfl rfl ?_
  refine xP_s rfl rfl rfl ?_
  refine xP_s rfl rfl rfl ?_
  refine xP_s rfl rfl rfl ?_
  refine xP_s rfl rfl rfl ?_
  refine xP_s rfl rfl rfl ?_
  refine xP_cv rfl rfl rfl rfl rfl h11 (p_partsAdd hp (fun hz => ?_) (fun hz A' h1 h2 => ?_))
  · repeat' first
      | refine xP_s rfl rfl rfl ?_
      | refine xP_ret rfl rfl rfl ?_
    exact k0 hz
  · repeat' first
      | refine xP_s rfl rfl rfl ?_
      | refine xP_ret rfl rfl rfl ?_
    exact k hz A' h1 h2
set_option maxRecDepth 100000 in
theorem p_addInteger {sc : xSc} {d g n : Nat} {A : List xC} {F : xF} {x : Int32} {P : xO → xH → Prop} (hp : xPt A n F) (k0 : n = 840 → P (.inl (some (.int (-1)))) (A, g))
    (k : n < 840 → ∀ A', xPt A' (n + 1) (xAdd F n 1 x 0 (-1) 1) → xSame A A' [11, 12, 13, 14, 15, 16, 17] → P (.inl (some (.int (nI n)))) (A', g)) : xM1 sc (d + 1) 76 [.ref 11, .int x] (A, g) P := by
  have h11 := hp.2.1
  unfold xM1
  refine xP_s rfl rfl rfl ?_
  refine xP_s rfl rfl rfl ?_
  refine xP_s rfl rfl rfl ?_
  refine xP_s rfl rfl rfl ?_
  refine xP_s rfl rfl rfl ?_
  refine xP_s rfl rfl rfl ?_
  refine xP_cv rfl rfl rfl rfl rfl h11 (p_partsAdd hp (fun hz => ?_) (fun hz A' h1 h2 => ?_))
  · repeat' first
      | refine xP_s rfl rfl rfl ?_
      | refine xP_ret rfl rfl rfl ?_
    exact k0 hz
  · repeat' first
      | refine xP_s rfl rfl rfl ?_
      | refine xP_ret rfl rfl rfl ?_
    exact k hz A' h1 h2
set_option maxRecDepth 100000 in
theorem p_addAtom {sc : xSc} {d g n : Nat} {A : List xC} {F : xF} {x y : Int32} {P : xO → xH → Prop} (hp : xPt A n F) (k0 : n = 840 → P (.inl (some (.int (-1)))) (A, g))
    (k : n < 840 → ∀ A', xPt A' (n + 1) (xAdd F n 2 x y (-1) 1) → xSame A A' [11, 12, 13, 14, 15, 16, 17] → P (.inl (some (.int (nI n)))) (A', g)) : xM1 sc (d + 1) 77 [.ref 11, .int x, .int y] (A, g) P := by
  have h11 := hp.2.1
  unfold xM1
  refine xP_s rfl rfl rfl ?_
  refine xP_s rfl rfl rfl ?_
  refine xP_s rfl rfl rfl ?_
  refine xP_s rfl rfl rfl ?_
  refine xP_s rfl rfl rfl ?_
  refine xP_s rfl rfl rfl ?_
  refine xP_cv rfl rfl rfl rfl rfl h11 (p_partsAdd hp (fun hz => ?_) (fun hz A' h1 h2 => ?_))
  · repeat' first
      | refine xP_s rfl rfl rfl ?_
      | refine xP_ret rfl rfl rfl ?_
    exact k0 hz
  · repeat' first
      | refine xP_s rfl rfl rfl ?_
      | refine xP_ret rfl rfl rfl ?_
    exact k hz A' h1 h2
set_option maxRecDepth 100000 in
theorem p_addCompoundLoop {sc : xSc} {d g n : Nat} {A : List xC} {F : xF} {y z w : Int32} {P : xO → xH → Prop} (hp : xPt A n F) : ∀ (k i : Nat) (x : Int32) (m0 m : Nat), i + k ≤ 6 → m0 ≤ 14 → xCd F n x k m → (∀ x' i', xP sc (d + 2) 78 49 [(0, .ref 11), (1, .int y), (2, .int z), (3, .int w), (4, .int (nI (max m0 m))), (5, .int x'), (6, .int i')] [] (A, g) P) →
    xP sc (d + 2) 78 9 [(0, .ref 11), (1, .int y), (2, .int z), (3, .int w), (4, .int (nI m0)), (5, .int x), (6, .int (nI i))] [] (A, g) P
  | 0, i, x, m0, m, hi, hm0, hx, k => by
    have h6 : (6 : Int32).toInt = 6 := rfl
    have hI : (nI i).toInt = (i : Int) := nI_toInt (by omega)
    obtain ⟨hx, hm⟩ := hx
    subst hx
    subst hm
    rw [Nat.max_eq_left (Nat.zero_le _)] at k
    refine xP_s rfl rfl rfl ?_
    refine xP_s rfl rfl rfl ?_
    refine xP_s rfl rfl rfl ?_
    refine xP_if (fun hc => ?_) (fun hc => ?_)
    · exact k _ _
    · refine xP_s rfl rfl rfl ?_
      refine xP_s rfl rfl rfl ?_
      refine xP_s rfl rfl rfl ?_
      refine xP_if (fun hc => ?_) (fun hc => ?_)
      · exact k _ _
      · exact absurd rfl (xc_f hc)
  | kk + 1, i, x, m0, m, hi, hm0, hx, k => by
    obtain ⟨j, D, m', hj, hxj, hD, hD2, hm, hch⟩ := hx
    have h11 := hp.2.1
    have hn := hp.1
    have h6 : (6 : Int32).toInt = 6 := rfl
    have hI : (nI i).toInt = (i : Int) := nI_toInt (by omega)
    have hm' := hch.le
    have go := p_addCompoundLoop (sc := sc) (d := d) (g := g) (P := P) (y := y) (z := z) (w := w) hp kk (i + 1) _ (max m0 D) m' (by omega) (by omega) hch (by rw [show max (max m0 D) m' = max m0 m by rw [hm]; omega]; exact k)
    have hmx : (if nI m0 < nI D then nI D else nI m0) = nI (max m0 D) := by
      by_cases hlt : m0 < D
      · rw [if_pos ((nI_ltI (by omega) (by omega)).mpr hlt), Nat.max_eq_right (by omega)]
      · rw [if_neg (fun q => hlt ((nI_ltI (by omega) (by omega)).mp q)), Nat.max_eq_left (by omega)]
    rw [← nI_1, ← hmx] at go
    subst hxj
    refine xP_s rfl rfl rfl ?_
    refine xP_s rfl rfl rfl ?_
    refine xP_s rfl rfl rfl ?_
    refine xP_if (fun hc => ?_) (fun hc => ?_)
    · have := xc_t hc
      dsimp only at this
      omega
    · refine xP_s rfl rfl rfl ?_
      refine xP_s rfl rfl rfl ?_
      refine xP_s rfl rfl rfl ?_
      refine xP_if (fun hc => ?_) (fun hc => ?_)
      · exact absurd (xc_t hc) (nI_neg1 (by omega))
      · refine xP_s rfl rfl rfl ?_
        refine xP_s rfl rfl rfl ?_
        refine xP_s rfl rfl rfl ?_
        refine xP_cv rfl rfl rfl rfl rfl h11 (p_depth hp (o := some j) (fun i h => Option.some.inj h ▸ hj) ?_)
        rw [show ptG F.2.2.2.2.2 0 (some j) = nI D from hD]
        repeat' first
          | exact go
          | refine xP_s rfl rfl rfl ?_
          | refine xP_cv rfl rfl rfl rfl rfl h11 (p_next hp (o := some j) (fun i h => Option.some.inj h ▸ hj) ?_)
set_option maxRecDepth 100000 in
theorem p_addCompound {sc : xSc} {d g n c m : Nat} {A : List xC} {F : xF} {x y w : Int32} {P : xO → xH → Prop} (hp : xPt A n F) (hc6 : c ≤ 6) (hc : xCd F n w c m) (k0 : n = 840 ∨ ¬ (0 < m ∧ m < 14) → P (.inl (some (.int (-1)))) (A, g))
    (k : n < 840 → 0 < m → m < 14 → ∀ A', xPt A' (n + 1) (xAdd F n 3 x y w (nI (m + 1))) → xSame A A' [11, 12, 13, 14, 15, 16, 17] → P (.inl (some (.int (nI n)))) (A', g)) : xM1 sc (d + 2) 78 [.ref 11, .int x, .int y, .int w] (A, g) P := by
  have h11 := hp.2.1
  have hm := hc.le
  have h0 : (0 : Int32).toInt = 0 := rfl
  have h14 : (14 : Int32).toInt = 14 := rfl
  have hM : (nI m).toInt = (m : Int) := nI_toInt (by omega)
  have loop := p_addCompoundLoop (sc := sc) (d := d) (g := g) (P := P) (y := x) (z := y) (w := w) hp c 0 w 0 m (by omega) (by omega) hc (fun x' i' => by
    rw [Nat.max_eq_right (Nat.zero_le _)]
    refine xP_s rfl rfl rfl ?_
    refine xP_s rfl rfl rfl ?_
    refine xP_if (fun hc => ?_) (fun hc => ?_)
    · have := xc_t hc
      dsimp only at this
      repeat' first
        | refine xP_s rfl rfl rfl ?_
        | refine xP_ret rfl rfl rfl ?_
      exact k0 (Or.inr (by omega))
    · have t1 := xc_f hc
      dsimp only at t1
      refine xP_s rfl rfl rfl ?_
      refine xP_s rfl rfl rfl ?_
      refine xP_s rfl rfl rfl ?_
      refine xP_if (fun hc => ?_) (fun hc => ?_)
      · have := xc_t hc
        dsimp only at this
        repeat' first
          | refine xP_s rfl rfl rfl ?_
          | refine xP_ret rfl rfl rfl ?_
        exact k0 (Or.inr (by omega))
      · have t2 := xc_f hc
        dsimp only at t2
        refine xP_s rfl rfl rfl ?_
        refine xP_s rfl rfl rfl ?_
        refine xP_s rfl rfl rfl ?_
        refine xP_s rfl rfl rfl ?_
        refine xP_s rfl rfl rfl ?_
        refine xP_s rfl rfl rfl ?_
        refine xP_s rfl rfl rfl ?_
        refine xP_s rfl rfl rfl ?_
        refine xP_s rfl rfl rfl ?_
        refine xP_s rfl rfl rfl ?_
        refine xP_s rfl rfl rfl ?_
        refine xP_s rfl rfl rfl ?_
        refine xP_s rfl rfl rfl ?_
        rw [nI_1]
        refine xP_cv rfl rfl rfl rfl rfl h11 (p_partsAdd hp (fun hz => ?_) (fun hz A' h1 h2 => ?_))
        · repeat' first
            | refine xP_s rfl rfl rfl ?_
            | refine xP_ret rfl rfl rfl ?_
          exact k0 (Or.inl hz)
        · repeat' first
            | refine xP_s rfl rfl rfl ?_
            | refine xP_ret rfl rfl rfl ?_
          exact k hz (by omega) (by omega) A' h1 h2)
  unfold xM1
  repeat' first
    | exact loop
    | refine xP_s rfl rfl rfl ?_
theorem xSame.wide {A B : List xC} {l m : List Nat} (h : xSame A B l) (hs : (l.all fun k => m.contains k) = true) : xSame A B m := h.wider (fun k hk => by
  have := List.all_eq_true.mp hs k hk
  simpa using this)
abbrev xLk (F : xF) (l r : Nat) : xF := (F.1, F.2.1, F.2.2.1, F.2.2.2.1, upd (upd F.2.2.2.2.1 l (nI r)) r (-1), F.2.2.2.2.2)
set_option maxRecDepth 100000 in
theorem p_addPair {sc : xSc} {d g n l r Dl Dr : Nat} {A : List xC} {F : xF} {x y : Int32} {P : xO → xH → Prop} (hp : xPt A n F) (hl : l < n) (hr : r < n) (hne : l ≠ r) (hDl : F.2.2.2.2.2 l = nI Dl) (hDl2 : 0 < Dl ∧ Dl ≤ 14) (hDr : F.2.2.2.2.2 r = nI Dr) (hDr2 : 0 < Dr ∧ Dr ≤ 14)
    (k0 : n = 840 ∨ ¬ (max Dl Dr < 14) → ∀ A', xPt A' n (xLk F l r) → xSame A A' [11, 12, 13, 14, 15, 16, 17] → P (.inl (some (.int (-1)))) (A', g))
    (k : n < 840 → max Dl Dr < 14 → ∀ A', xPt A' (n + 1) (xAdd (xLk F l r) n 3 x y (nI l) (nI (max Dl Dr + 1))) → xSame A A' [11, 12, 13, 14, 15, 16, 17] → P (.inl (some (.int (nI n)))) (A', g)) : xM1 sc (d + 3) 79 [.ref 11, .int x, .int y, .int (nI l), .int (nI r)] (A, g) P := by
  have h11 := hp.2.1
  have hn := hp.1
  unfold xM1
  refine xP_s rfl rfl rfl ?_
  refine xP_s rfl rfl rfl ?_
  refine xP_s rfl rfl rfl ?_
  refine xP_if (fun hc => ?_) (fun hc => ?_)
  · exact absurd (xc_t hc) (nI_neg1 (by omega))
  · refine xP_s rfl rfl rfl ?_
    refine xP_s rfl rfl rfl ?_
    refine xP_s rfl rfl rfl ?_
    refine xP_if (fun hc => ?_) (fun hc => ?_)
    · refine xP_s rfl rfl rfl ?_
      refine xP_s rfl rfl rfl ?_
      refine xP_s rfl rfl rfl ?_
      refine xP_cv rfl rfl rfl rfl rfl h11 (p_link (o := some l) hp (fun i h => Option.some.inj h ▸ hl) (fun A1 h1 s1 => ?_))
      refine xP_s rfl rfl rfl ?_
      refine xP_s rfl rfl rfl ?_
      refine xP_s rfl rfl rfl ?_
      refine xP_cv rfl rfl rfl rfl rfl h1.2.1 (p_link (o := some r) h1 (fun i h => Option.some.inj h ▸ hr) (fun A2 h2 s2 => ?_))
      refine xP_s rfl rfl rfl ?_
      refine xP_s rfl rfl rfl ?_
      refine xP_s rfl rfl rfl ?_
      refine xP_s rfl rfl rfl ?_
      have hch : xCd (xLk F l r) n (nI l) 2 (max Dl Dr) := by
        refine ⟨l, Dl, Dr, hl, rfl, hDl, hDl2.2, rfl, r, Dr, 0, hr, ?_, hDr, hDr2.2, by omega, ?_, rfl⟩
        · show upd (upd F.2.2.2.2.1 l (nI r)) r (-1) l = nI r
          rw [pk_un hne, pk_us]
        · show upd (upd F.2.2.2.2.1 l (nI r)) r (-1) r = -1
          rw [pk_us]
      refine xP_cv rfl rfl rfl rfl rfl h2.2.1 (p_addCompound h2 (by decide) hch (fun hz => ?_) (fun hz z1 z2 A' h3 s3 => ?_))
      · repeat' first
          | refine xP_s rfl rfl rfl ?_
          | refine xP_ret rfl rfl rfl ?_
        refine k0 ?_ _ h2 ((s1.trans s2).wide (by decide))
        rcases hz with hz | hz
        · exact Or.inl hz
        · exact Or.inr (by omega)
      · repeat' first
          | refine xP_s rfl rfl rfl ?_
          | refine xP_ret rfl rfl rfl ?_
        exact k hz z2 A' h3 (((s1.trans s2).trans s3).wide (by decide))
    · exact absurd (xc_f hc) (nI_neg1 (by omega))
set_option maxRecDepth 100000 in
theorem p_addPair0 {sc : xSc} {d g n : Nat} {A : List xC} {F : xF} {x y : Int32} {ol or : Option Nat} {P : xO → xH → Prop} (hp : xPt A n F) (hl : ∀ i, ol = some i → i < n) (hno : ol = none ∨ or = none)
    (k : P (.inl (some (.int (-1)))) (A, g)) : xM1 sc (d + 3) 79 [.ref 11, .int x, .int y, .int (sI ol), .int (sI or)] (A, g) P := by
  have hn := hp.1
  unfold xM1
  cases ol with
  | none =>
    repeat' first
      | refine xP_s rfl rfl rfl ?_
      | refine xP_ret rfl rfl rfl ?_
    exact k
  | some i =>
    have := hl i rfl
    rcases hno with h | h
    · cases h
    · subst h
      refine xP_s rfl rfl rfl ?_
      refine xP_s rfl rfl rfl ?_
      refine xP_s rfl rfl rfl ?_
      refine xP_if (fun hc => ?_) (fun hc => ?_)
      · exact absurd (xc_t hc) (nI_neg1 (by omega))
      · repeat' first
          | refine xP_s rfl rfl rfl ?_
          | refine xP_ret rfl rfl rfl ?_
        exact k
/-- children, in a row of numbers -/
def xCh (F : xF) (T : Nat → Nat → List xIt → Prop) : Nat → Int32 → Nat → Nat → List xIt → Prop
  | 0, x, _, _, L => x = -1 ∧ L = []
  | k + 1, x, lo, hi, L => ∃ a b L1 L2, lo ≤ a ∧ a < b ∧ b ≤ hi ∧ x = nI (b - 1) ∧ T a b L1 ∧ L = L1 ++ L2 ∧ xCh F T k (F.2.2.2.2.1 (b - 1)) lo hi L2
def okIt (p : xIt) : Prop := (p.1 < 3 → p.2.2.2 = 0) ∧ (p.1 = 3 → 1 ≤ p.2.2.2 ∧ p.2.2.2 ≤ 6) ∧ (p.1 < 2 → p.2.2.1 = []) ∧ (2 ≤ p.1 → p.2.1 = 0)
/-- the parts from lo to hi are the term L, its root the last of them -/
def xTr (F : xF) (nm : List Nat) : Nat → Nat → Nat → List xIt → Prop
  | 0, _, _, _ => False
  | e + 1, lo, hi, L => lo < hi ∧ ∃ p L1, L = p :: L1 ∧ okIt p ∧ ndK F nm (hi - 1) p ∧ xCh F (fun a b l => xTr F nm e a b l) p.2.2.2 (F.2.2.2.1 (hi - 1)) lo (hi - 1) L1
/-- rows that are the same from lo to hi, but for the next of the last -/
def xAg (F F' : xF) (lo hi : Nat) : Prop := ∀ j, lo ≤ j → j < hi → F'.1 j = F.1 j ∧ F'.2.1 j = F.2.1 j ∧ F'.2.2.1 j = F.2.2.1 j ∧ F'.2.2.2.1 j = F.2.2.2.1 j ∧ (j + 1 < hi → F'.2.2.2.2.1 j = F.2.2.2.2.1 j)
theorem xCh_map {F F' : xF} {T T' : Nat → Nat → List xIt → Prop} {lo hi : Nat} (hx : ∀ j, lo ≤ j → j < hi → F'.2.2.2.2.1 j = F.2.2.2.2.1 j) (hT : ∀ a b l, lo ≤ a → b ≤ hi → T a b l → T' a b l) : ∀ {k : Nat} {x : Int32} {L : List xIt}, xCh F T k x lo hi L → xCh F' T' k x lo hi L
  | 0, x, L, h => h
  | k + 1, x, L, h => by
    obtain ⟨a, b, L1, L2, h1, h2, h3, h4, h5, h6, h7⟩ := h
    refine ⟨a, b, L1, L2, h1, h2, h3, h4, hT a b L1 h1 h3 h5, h6, ?_⟩
    rw [hx (b - 1) (by omega) (by omega)]
    exact xCh_map hx hT h7
theorem xCh_wide {F : xF} {T : Nat → Nat → List xIt → Prop} {lo hi lo' hi' : Nat} (h1 : lo' ≤ lo) (h2 : hi ≤ hi') : ∀ {k : Nat} {x : Int32} {L : List xIt}, xCh F T k x lo hi L → xCh F T k x lo' hi' L
  | 0, x, L, h => h
  | k + 1, x, L, h => by
    obtain ⟨a, b, L1, L2, q1, q2, q3, q4, q5, q6, q7⟩ := h
    exact ⟨a, b, L1, L2, by omega, q2, by omega, q4, q5, q6, xCh_wide h1 h2 q7⟩
theorem ndK.frame {F F' : xF} {nm r : List Nat} {j : Nat} {p : xIt} (h : ndK F nm j p) (h1 : F'.1 j = F.1 j) (h2 : F'.2.1 j = F.2.1 j) (h3 : F'.2.2.1 j = F.2.2.1 j) : ndK F' (nm ++ r) j p := by
  unfold ndK
  rw [h1, h2, h3]
  obtain ⟨q1, q2, q3, q4⟩ := h
  exact ⟨q1, q2, q3, fun hh => by
    obtain ⟨z, z1, z2, z3⟩ := q4 hh
    exact ⟨z, z1, z2, z3.more⟩⟩
theorem xTr.frame {F F' : xF} {nm r : List Nat} : ∀ {e lo hi : Nat} {L : List xIt}, xTr F nm e lo hi L → xAg F F' lo hi → xTr F' (nm ++ r) e lo hi L
  | 0, _, _, _, h, _ => h.elim
  | e + 1, lo, hi, L, h, hg => by
    obtain ⟨h0, p, L1, h1, h2, h3, h4⟩ := h
    obtain ⟨g1, g2, g3, g4, _⟩ := hg (hi - 1) (by omega) (by omega)
    refine ⟨h0, p, L1, h1, h2, h3.frame g1 g2 g3, ?_⟩
    rw [g4]
    refine xCh_map (fun j hj1 hj2 => (hg j hj1 (by omega)).2.2.2.2 (by omega)) (fun a b l ha hb ht => ht.frame (fun j hj1 hj2 => ?_)) h4
    obtain ⟨z1, z2, z3, z4, z5⟩ := hg j (by omega) (by omega)
    exact ⟨z1, z2, z3, z4, fun _ => z5 (by omega)⟩
theorem xTr.up {F : xF} {nm : List Nat} : ∀ {e lo hi : Nat} {L : List xIt}, xTr F nm e lo hi L → xTr F nm (e + 1) lo hi L
  | 0, _, _, _, h => h.elim
  | e + 1, lo, hi, L, h => by
    obtain ⟨h0, p, L1, h1, h2, h3, h4⟩ := h
    exact ⟨h0, p, L1, h1, h2, h3, xCh_map (fun _ _ _ => rfl) (fun a b l _ _ ht => ht.up) h4⟩
theorem xTr.le {F : xF} {nm : List Nat} {e e' lo hi : Nat} {L : List xIt} (h : xTr F nm e lo hi L) (he : e ≤ e') : xTr F nm e' lo hi L := by
  induction he with
  | refl => exact h
  | step _ ih => exact ih.up
theorem xCh.cn {F : xF} {T : Nat → Nat → List xIt → Prop} {n : Nat} : ∀ {k : Nat} {x : Int32} {lo hi : Nat} {L : List xIt}, xCh F T k x lo hi L → hi ≤ n → xCn F n x k
  | 0, x, lo, hi, L, h, _ => h.1
  | k + 1, x, lo, hi, L, h, hn => by
    obtain ⟨a, b, L1, L2, q1, q2, q3, q4, q5, q6, q7⟩ := h
    exact ⟨b - 1, by omega, q4, q7.cn hn⟩
end
section
-- terms as lists of parts: where one ends; terms that are the same
/-- what is left behind n terms -/
def sk : List xIt → Nat → List xIt
  | [], _ => []
  | p :: L, 0 => p :: L
  | p :: L, n + 1 => sk L (n + p.2.2.2)
theorem sk_0 (L : List xIt) : sk L 0 = L := by cases L <;> rfl
/-- one term -/
def isTm (L : List xIt) : Prop := ∀ n R, sk (L ++ R) (n + 1) = sk R n
theorem xCh.tm {F : xF} {T : Nat → Nat → List xIt → Prop} (hT : ∀ a b l, T a b l → isTm l) : ∀ {k : Nat} {x : Int32} {lo hi : Nat} {L : List xIt}, xCh F T k x lo hi L → ∀ n R, sk (L ++ R) (n + k) = sk R n
  | 0, x, lo, hi, L, h, n, R => by
    rw [h.2]
    rfl
  | k + 1, x, lo, hi, L, h, n, R => by
    obtain ⟨a, b, L1, L2, _, _, _, _, q5, q6, q7⟩ := h
    rw [q6, List.append_assoc, show n + (k + 1) = (n + k) + 1 by omega, hT _ _ _ q5]
    exact q7.tm hT n R
theorem xTr.tm {F : xF} {nm : List Nat} : ∀ {e lo hi : Nat} {L : List xIt}, xTr F nm e lo hi L → isTm L
  | 0, _, _, _, h => h.elim
  | e + 1, lo, hi, L, h => by
    obtain ⟨_, p, L1, h1, _, _, h4⟩ := h
    intro n R
    rw [h1, List.cons_append, sk]
    exact h4.tm (fun a b l ht => ht.tm) n R
theorem isTm.cancel {L M R S : List xIt} (hL : isTm L) (hM : isTm M) (h : L ++ R = M ++ S) : L = M ∧ R = S := by
  have h1 := hL 0 R
  have h2 := hM 0 S
  rw [h, h2, sk_0, sk_0] at h1
  subst h1
  exact ⟨List.append_cancel_right h, rfl⟩
set_option maxRecDepth 100000 in
theorem p_sameNameLoop {sc : xSc} {d g n j1 j2 z1 z2 : Nat} {A : List xC} {F : xF} {nm l r : List Nat} {P : xO → xH → Prop} (hp : xPt A n F) (hn : xRw A 5 4926 nm) (hj1 : j1 < n) (hj2 : j2 < n) (hv1 : F.2.1 j1 = nI z1) (hv2 : F.2.1 j2 = nI z2) (ha1 : nmAt nm z1 l) (ha2 : nmAt nm z2 r) (hl : l.length = r.length) (k : P (.inl (some (.int (xb (decide (l = r)))))) (A, g)) : ∀ m i, i + m = l.length → l.take i = r.take i →
    xP sc (d + 2) 81 20 [(0, .ref 11), (1, .int (nI j1)), (2, .int (nI j2)), (3, .int (nI l.length)), (4, .int (nI i))] [] (A, g) P
  | 0, i, hm, ht => by
    have hlen := hn.len
    have hb1 := ha1.1
    have hI : (nI i).toInt = (i : Int) := nI_toInt (by omega)
    have hL : (nI l.length).toInt = (l.length : Int) := nI_toInt (by omega)
    have e : l = r := by
      rw [List.take_of_length_le (by omega), List.take_of_length_le (by omega)] at ht
      exact ht
    rw [decide_eq_true e] at k
    refine xP_s rfl rfl rfl ?_
    refine xP_s rfl rfl rfl ?_
    refine xP_s rfl rfl rfl ?_
    refine xP_if (fun hc => ?_) (fun hc => ?_)
    · repeat' first
        | refine xP_s rfl rfl rfl ?_
        | refine xP_ret rfl rfl rfl ?_
      exact k
    · have := xc_f hc
      dsimp only at this
      omega
  | m + 1, i, hm, ht => by
    have h11 := hp.2.1
    have hlen := hn.len
    have hb1 := ha1.1
    have hb2 := ha2.1
    have hI : (nI i).toInt = (i : Int) := nI_toInt (by omega)
    have hL : (nI l.length).toInt = (l.length : Int) := nI_toInt (by omega)
    obtain ⟨c1, hc1⟩ : ∃ c, l[i]? = some c := ⟨l[i]'(by omega), List.getElem?_eq_getElem (by omega)⟩
    obtain ⟨c2, hc2⟩ : ∃ c, r[i]? = some c := ⟨r[i]'(by omega), List.getElem?_eq_getElem (by omega)⟩
    have hk1 := hn.chr c1 (List.mem_of_getElem? (ha1.2 i c1 hc1))
    have hk2 := hn.chr c2 (List.mem_of_getElem? (ha2.2 i c2 hc2))
    refine xP_s rfl rfl rfl ?_
    refine xP_s rfl rfl rfl ?_
    refine xP_s rfl rfl rfl ?_
    refine xP_if (fun hc => ?_) (fun hc => ?_)
    · have := xc_t hc
      dsimp only at this
      omega
    · refine xP_s rfl rfl rfl ?_
      refine xP_get rfl h11 rfl ?_
      refine xP_s rfl rfl rfl ?_
      refine xP_s rfl rfl rfl ?_
      refine xP_cv rfl rfl rfl rfl rfl h11 (p_value (o := some j1) hp (fun i h => Option.some.inj h ▸ hj1) ?_)
      rw [show ptG F.2.1 0 (some j1) = nI z1 from hv1]
      refine xP_s rfl rfl rfl ?_
      refine xP_s rfl rfl rfl ?_
      refine xP_cv rfl rfl rfl rfl rfl hn.obj (p_at hn (by decide) (by decide) ?_)
      rw [show nI z1 + nI i = nI (z1 + i) from nI_add z1 i, cAt_get (by omega) (ha1.2 i c1 hc1)]
      refine xP_s rfl rfl rfl ?_
      refine xP_get rfl h11 rfl ?_
      refine xP_s rfl rfl rfl ?_
      refine xP_s rfl rfl rfl ?_
      refine xP_cv rfl rfl rfl rfl rfl h11 (p_value (o := some j2) hp (fun i h => Option.some.inj h ▸ hj2) ?_)
      rw [show ptG F.2.1 0 (some j2) = nI z2 from hv2]
      refine xP_s rfl rfl rfl ?_
      refine xP_s rfl rfl rfl ?_
      refine xP_cv rfl rfl rfl rfl rfl hn.obj (p_at hn (by decide) (by decide) ?_)
      rw [show nI z2 + nI i = nI (z2 + i) from nI_add z2 i, cAt_get (by omega) (ha2.2 i c2 hc2)]
      refine xP_s rfl rfl rfl ?_
      refine xP_if (fun hc => ?_) (fun hc => ?_)
      · have he := xc_t hc
        dsimp only at he
        rw [nI_toInt (by omega), nI_toInt (by omega)] at he
        have e : c1 = c2 := by omega
        have go := p_sameNameLoop (sc := sc) (d := d) (g := g) (P := P) hp hn hj1 hj2 hv1 hv2 ha1 ha2 hl k m (i + 1) (by omega) (by
          rw [List.take_add_one, List.take_add_one, ht, hc1, hc2, e])
        rw [← nI_1] at go
        repeat' first
          | exact go
          | refine xP_s rfl rfl rfl ?_
      · have he := xc_f hc
        dsimp only at he
        rw [nI_toInt (by omega), nI_toInt (by omega)] at he
        have e : ¬ l = r := fun q => by
          subst q
          rw [hc1] at hc2
          cases hc2
          omega
        rw [decide_eq_false e] at k
        repeat' first
          | refine xP_s rfl rfl rfl ?_
          | refine xP_ret rfl rfl rfl ?_
        exact k
set_option maxRecDepth 100000 in
theorem p_isSameName {sc : xSc} {d g n j1 j2 : Nat} {A : List xC} {F : xF} {nm : List Nat} {p q : xIt} {P : xO → xH → Prop} (hp : xPt A n F) (hn : xRw A 5 4926 nm) (hj1 : j1 < n) (hj2 : j2 < n) (hd1 : ndK F nm j1 p) (hd2 : ndK F nm j2 q) (hk1 : 2 ≤ p.1) (hk2 : 2 ≤ q.1) (k : P (.inl (some (.int (xb (decide (p.2.2.1 = q.2.2.1)))))) (A, g)) : xM1 sc (d + 2) 81 [.ref 11, .int (nI j1), .int (nI j2)] (A, g) P := by
  have h11 := hp.2.1
  have hlen := hn.len
  obtain ⟨z1, v1, s1, a1⟩ := hd1.2.2.2 hk1
  obtain ⟨z2, v2, s2, a2⟩ := hd2.2.2.2 hk2
  have hb1 := a1.1
  have hb2 := a2.1
  have hL1 : (nI p.2.2.1.length).toInt = (p.2.2.1.length : Int) := nI_toInt (by omega)
  have hL2 : (nI q.2.2.1.length).toInt = (q.2.2.1.length : Int) := nI_toInt (by omega)
  unfold xM1
  refine xP_s rfl rfl rfl ?_
  refine xP_s rfl rfl rfl ?_
  refine xP_cv rfl rfl rfl rfl rfl h11 (p_nameSize (o := some j1) hp (fun i h => Option.some.inj h ▸ hj1) ?_)
  rw [show ptG F.2.2.1 0 (some j1) = nI p.2.2.1.length from s1]
  refine xP_s rfl rfl rfl ?_
  refine xP_s rfl rfl rfl ?_
  refine xP_s rfl rfl rfl ?_
  refine xP_s rfl rfl rfl ?_
  refine xP_cv rfl rfl rfl rfl rfl h11 (p_nameSize (o := some j2) hp (fun i h => Option.some.inj h ▸ hj2) ?_)
  rw [show ptG F.2.2.1 0 (some j2) = nI q.2.2.1.length from s2]
  refine xP_s rfl rfl rfl ?_
  refine xP_if (fun hc => ?_) (fun hc => ?_)
  · have he := xc_t hc
    dsimp only at he
    have loop := p_sameNameLoop (sc := sc) (d := d) (g := g) (P := P) hp hn hj1 hj2 v1 v2 a1 a2 (by omega) k p.2.2.1.length 0 (by omega) rfl
    repeat' first
      | exact loop
      | refine xP_s rfl rfl rfl ?_
  · have he := xc_f hc
    dsimp only at he
    rw [decide_eq_false (fun e => by rw [e] at he; omega)] at k
    repeat' first
      | refine xP_s rfl rfl rfl ?_
      | refine xP_ret rfl rfl rfl ?_
    exact k
theorem xTr.root {F : xF} {nm : List Nat} {e lo hi : Nat} {L : List xIt} (h : xTr F nm e lo hi L) : lo < hi := by
  cases e with
  | zero => exact h.elim
  | succ e => exact h.1
set_option maxRecDepth 100000 in
theorem p_sameLoop {sc : xSc} {d g n lv ha hb : Nat} {A : List xC} {F : xF} {T : Nat → Nat → List xIt → Prop} {P : xO → xH → Prop} {y1 y2 : Int32} (hp : xPt A n F) (hlv : lv ≤ 14) (hT : ∀ a b l, T a b l → isTm l) (hna : ha ≤ n) (hnb : hb ≤ n)
    (ih : ∀ (a b a' b' : Nat) (L M : List xIt) (P' : xO → xH → Prop), a < b → b ≤ n → a' < b' → b' ≤ n → T a b L → T a' b' M → P' (.inl (some (.int (xb (decide (L = M)))))) (A, g) → xM1 sc (d + 2) 80 [.ref 11, .int (nI (b - 1)), .int (nI (b' - 1)), .int (nI (lv + 1))] (A, g) P') :
    ∀ (k1 k2 i : Nat) (x y : Int32) (la lb : Nat) (L M : List xIt) (b : Bool), i + k1 ≤ 6 → i + k2 ≤ 6 → xCh F T k1 x la ha L → xCh F T k2 y lb hb M → (b = true ↔ k1 = k2 ∧ L = M) → P (.inl (some (.int (xb b)))) (A, g) →
    xP sc (d + 3) 80 76 [(0, .ref 11), (1, .int y1), (2, .int y2), (3, .int (nI lv)), (4, .int x), (5, .int y), (6, .int (nI i))] [] (A, g) P
  | 0, k2, i, x, y, la, lb, L, M, b, h1, h2, hx, hy, hb', k => by
    have h6 : (6 : Int32).toInt = 6 := rfl
    have hn := hp.1
    have hI : (nI i).toInt = (i : Int) := nI_toInt (by omega)
    obtain ⟨hx, hL⟩ := hx
    subst hx
    have fin : xP sc (d + 3) 80 133 [(0, .ref 11), (1, .int y1), (2, .int y2), (3, .int (nI lv)), (4, .int (-1)), (5, .int y), (6, .int (nI i))] [] (A, g) P := by
      cases k2 with
      | zero =>
        obtain ⟨hy, hM⟩ := hy
        subst hy
        rw [show b = true from hb'.mpr ⟨rfl, by rw [hL, hM]⟩] at k
        repeat' first
          | refine xP_s rfl rfl rfl ?_
          | refine xP_ret rfl rfl rfl ?_
        exact k
      | succ k2 =>
        obtain ⟨a', b', L1, L2, _, z2, z3, z4, _, _, _⟩ := hy
        rw [show b = false from Bool.not_eq_true _ ▸ fun q => absurd (hb'.mp q).1 (by omega)] at k
        subst z4
        refine xP_s rfl rfl rfl ?_
        refine xP_s rfl rfl rfl ?_
        refine xP_s rfl rfl rfl ?_
        refine xP_s rfl rfl rfl ?_
        refine xP_s rfl rfl rfl ?_
        refine xP_s rfl rfl rfl ?_
        refine xP_if (fun hc => ?_) (fun hc => ?_)
        · repeat' first
            | refine xP_s rfl rfl rfl ?_
            | refine xP_ret rfl rfl rfl ?_
          exact k
        · exact absurd (xc_f hc) (nI_neg1 (by omega))
    refine xP_s rfl rfl rfl ?_
    refine xP_s rfl rfl rfl ?_
    refine xP_s rfl rfl rfl ?_
    refine xP_if (fun hc => ?_) (fun hc => ?_)
    · exact fin
    · refine xP_s rfl rfl rfl ?_
      refine xP_s rfl rfl rfl ?_
      refine xP_s rfl rfl rfl ?_
      refine xP_if (fun hc => ?_) (fun hc => ?_)
      · exact fin
      · exact absurd rfl (xc_f hc)
  | k1 + 1, 0, i, x, y, la, lb, L, M, b, h1, h2, hx, hy, hb', k => by
    have h6 : (6 : Int32).toInt = 6 := rfl
    have hn := hp.1
    have hI : (nI i).toInt = (i : Int) := nI_toInt (by omega)
    obtain ⟨hy, hM⟩ := hy
    subst hy
    obtain ⟨a', b', L1, L2, _, z2, z3, z4, _, _, _⟩ := hx
    subst z4
    rw [show b = false from Bool.not_eq_true _ ▸ fun q => absurd (hb'.mp q).1 (by omega)] at k
    refine xP_s rfl rfl rfl ?_
    refine xP_s rfl rfl rfl ?_
    refine xP_s rfl rfl rfl ?_
    refine xP_if (fun hc => ?_) (fun hc => ?_)
    · have := xc_t hc
      dsimp only at this
      omega
    · refine xP_s rfl rfl rfl ?_
      refine xP_s rfl rfl rfl ?_
      refine xP_s rfl rfl rfl ?_
      refine xP_if (fun hc => ?_) (fun hc => ?_)
      · exact absurd (xc_t hc) (nI_neg1 (by omega))
      · refine xP_s rfl rfl rfl ?_
        refine xP_s rfl rfl rfl ?_
        refine xP_s rfl rfl rfl ?_
        refine xP_s rfl rfl rfl ?_
        refine xP_s rfl rfl rfl ?_
        refine xP_s rfl rfl rfl ?_
        refine xP_if (fun hc => ?_) (fun hc => ?_)
        · repeat' first
            | refine xP_s rfl rfl rfl ?_
            | refine xP_ret rfl rfl rfl ?_
          exact k
        · exact absurd (xc_f hc) (nI_neg1 (by omega))
  | k1 + 1, k2 + 1, i, x, y, la, lb, L, M, b, h1, h2, hx, hy, hb', k => by
    have h6 : (6 : Int32).toInt = 6 := rfl
    have hn := hp.1
    have h11 := hp.2.1
    have hI : (nI i).toInt = (i : Int) := nI_toInt (by omega)
    obtain ⟨a, c, L1, L2, q1, q2, q3, q4, q5, q6, q7⟩ := hx
    obtain ⟨a', c', M1, M2, w1, w2, w3, w4, w5, w6, w7⟩ := hy
    subst q4
    subst w4
    refine xP_s rfl rfl rfl ?_
    refine xP_s rfl rfl rfl ?_
    refine xP_s rfl rfl rfl ?_
    refine xP_if (fun hc => ?_) (fun hc => ?_)
    · have := xc_t hc
      dsimp only at this
      omega
    · refine xP_s rfl rfl rfl ?_
      refine xP_s rfl rfl rfl ?_
      refine xP_s rfl rfl rfl ?_
      refine xP_if (fun hc => ?_) (fun hc => ?_)
      · exact absurd (xc_t hc) (nI_neg1 (by omega))
      · refine xP_s rfl rfl rfl ?_
        refine xP_s rfl rfl rfl ?_
        refine xP_s rfl rfl rfl ?_
        refine xP_if (fun hc => ?_) (fun hc => ?_)
        · exact absurd (xc_t hc) (nI_neg1 (by omega))
        · refine xP_s rfl rfl rfl ?_
          refine xP_s rfl rfl rfl ?_
          refine xP_s rfl rfl rfl ?_
          refine xP_s rfl rfl rfl ?_
          refine xP_s rfl rfl rfl ?_
          refine xP_s rfl rfl rfl ?_
          rw [nI_1]
          refine xP_cv rfl rfl rfl rfl rfl h11 (ih a c a' c' L1 M1 _ q2 (by omega) w2 (by omega) q5 w5 ?_)
          by_cases he : L1 = M1
          · rw [decide_eq_true he]
            have go := p_sameLoop (sc := sc) (d := d) (g := g) (P := P) (y1 := y1) (y2 := y2) hp hlv hT hna hnb ih k1 k2 (i + 1) _ _ la lb L2 M2 b (by omega) (by omega) q7 w7 (by
              rw [hb', q6, w6, he]
              constructor
              · intro ⟨t1, t2⟩
                exact ⟨by omega, List.append_cancel_left t2⟩
              · intro ⟨t1, t2⟩
                exact ⟨by omega, by rw [t2]⟩) k
            rw [← nI_1] at go
            repeat' first
              | exact go
              | refine xP_s rfl rfl rfl ?_
              | refine xP_cv rfl rfl rfl rfl rfl h11 (p_next hp (o := some (c - 1)) (fun i h => by have := Option.some.inj h; omega) ?_)
              | refine xP_cv rfl rfl rfl rfl rfl h11 (p_next hp (o := some (c' - 1)) (fun i h => by have := Option.some.inj h; omega) ?_)
          · rw [decide_eq_false he]
            rw [show b = false from Bool.not_eq_true _ ▸ fun q => he (by
              have := (hb'.mp q).2
              rw [q6, w6] at this
              exact ((hT _ _ _ q5).cancel (hT _ _ _ w5) this).1)] at k
            repeat' first
              | refine xP_s rfl rfl rfl ?_
              | refine xP_ret rfl rfl rfl ?_
            exact k
set_option maxRecDepth 100000 in
theorem p_same {sc : xSc} {d g n : Nat} {A : List xC} {F : xF} {nm : List Nat} (hp : xPt A n F) (hn : xRw A 5 4926 nm) : ∀ (e lv a b a' b' : Nat) (L M : List xIt) (P : xO → xH → Prop), lv + e ≤ 15 → b ≤ n → b' ≤ n → xTr F nm e a b L → xTr F nm e a' b' M → P (.inl (some (.int (xb (decide (L = M)))))) (A, g) → xM1 sc (d + e + 3) 80 [.ref 11, .int (nI (b - 1)), .int (nI (b' - 1)), .int (nI lv)] (A, g) P
  | 0, lv, a, b, a', b', L, M, P, _, _, _, h, _, _ => h.elim
  | e + 1, lv, a, b, a', b', L, M, P, hlv, hb, hb', hL, hM, k => by
    have h11 := hp.2.1
    have hn840 := hp.1
    have h14 : (14 : Int32).toInt = 14 := rfl
    have hLV : (nI lv).toInt = (lv : Int) := nI_toInt (by omega)
    obtain ⟨h0, p, L1, eL, op, dp, cp⟩ := hL
    obtain ⟨w0, q, M1, eM, oq, dq, cq⟩ := hM
    have j1 : b - 1 < n := by omega
    have j2 : b' - 1 < n := by omega
    have v1 : ∀ i, some (b - 1) = some i → i < n := fun i h => Option.some.inj h ▸ j1
    have v2 : ∀ i, some (b' - 1) = some i → i < n := fun i h => Option.some.inj h ▸ j2
    have kp := dp.2.1
    have kq := dq.2.1
    have hKp : (nI p.1).toInt = (p.1 : Int) := nI_toInt (by omega)
    have hKq : (nI q.1).toInt = (q.1 : Int) := nI_toInt (by omega)
    subst eL
    subst eM
    unfold xM1
    refine xP_s rfl rfl rfl ?_
    refine xP_s rfl rfl rfl ?_
    refine xP_s rfl rfl rfl ?_
    refine xP_if (fun hc => ?_) (fun hc => ?_)
    · have := xc_t hc
      dsimp only at this
      omega
    · refine xP_s rfl rfl rfl ?_
      refine xP_s rfl rfl rfl ?_
      refine xP_cv rfl rfl rfl rfl rfl h11 (p_kind (o := some (b - 1)) hp v1 ?_)
      rw [show ptG F.1 (-1) (some (b - 1)) = nI p.1 from dp.1]
      refine xP_s rfl rfl rfl ?_
      refine xP_s rfl rfl rfl ?_
      refine xP_cv rfl rfl rfl rfl rfl h11 (p_kind (o := some (b' - 1)) hp v2 ?_)
      rw [show ptG F.1 (-1) (some (b' - 1)) = nI q.1 from dq.1]
      refine xP_s rfl rfl rfl ?_
      refine xP_if (fun hc => ?_) (fun hc => ?_)
      · have hkk := xc_t hc
        dsimp only at hkk
        have ek : p.1 = q.1 := by omega
        refine xP_s rfl rfl rfl ?_
        refine xP_s rfl rfl rfl ?_
        refine xP_cv rfl rfl rfl rfl rfl h11 (p_isNamed (o := some (b - 1)) (b := decide (2 ≤ p.1)) hp v1 (by
          rw [show ptG F.1 (-1) (some (b - 1)) = nI p.1 from dp.1, hKp, decide_eq_true_eq]
          omega) ?_)
        by_cases hnm : 2 ≤ p.1
        · rw [decide_eq_true hnm]
          refine xP_s rfl rfl rfl ?_
          refine xP_s rfl rfl rfl ?_
          refine xP_s rfl rfl rfl ?_
          refine xP_s rfl rfl rfl ?_
          refine xP_cv rfl rfl rfl rfl rfl h11 (p_isSameName hp hn j1 j2 dp dq hnm (by omega) ?_)
          by_cases hne : p.2.2.1 = q.2.2.1
          · rw [decide_eq_true hne]
            have ar1 : p.2.2.2 ≤ 6 := by
              rcases Nat.lt_or_ge p.1 3 with z | z
              · have := op.1 z
                omega
              · exact (op.2.1 (by omega)).2
            have ar2 : q.2.2.2 ≤ 6 := by
              rcases Nat.lt_or_ge q.1 3 with z | z
              · have := oq.1 z
                omega
              · exact (oq.2.1 (by omega)).2
            have loop := p_sameLoop (sc := sc) (d := d + e + 1) (g := g) (P := P) (lv := lv) (T := fun a b l => xTr F nm e a b l) (y1 := nI (b - 1)) (y2 := nI (b' - 1)) hp (by omega) (fun a b l ht => ht.tm) (ha := b - 1) (hb := b' - 1) (by omega) (by omega) (fun a0 b0 a1 b1 L0 M0 P' _ q2 _ q4 q5 q6 q7 => p_same hp hn e (lv + 1) a0 b0 a1 b1 L0 M0 P' (by omega) q2 q4 q5 q6 q7) p.2.2.2 q.2.2.2 0 _ _ a a' L1 M1 (decide (p :: L1 = q :: M1)) (by omega) (by omega) cp cq (by
              rw [decide_eq_true_eq]
              constructor
              · intro h
                injection h with t1 t2
                exact ⟨by rw [t1], t2⟩
              · intro ⟨t1, t2⟩
                have ev : p.2.1 = q.2.1 := by rw [op.2.2.2 hnm, oq.2.2.2 (by omega)]
                have ep : p = q := Prod.ext ek (Prod.ext ev (Prod.ext hne t1))
                rw [ep, t2]) k
            repeat' first
              | exact loop
              | refine xP_s rfl rfl rfl ?_
              | refine xP_cv rfl rfl rfl rfl rfl h11 (p_first hp (o := some (b - 1)) v1 ?_)
              | refine xP_cv rfl rfl rfl rfl rfl h11 (p_first hp (o := some (b' - 1)) v2 ?_)
          · rw [decide_eq_false hne]
            rw [decide_eq_false (fun z => hne (by injection z with t1 t2; rw [t1]))] at k
            repeat' first
              | refine xP_s rfl rfl rfl ?_
              | refine xP_ret rfl rfl rfl ?_
            exact k
        · rw [decide_eq_false hnm]
          have e1 := dp.2.2.1 (by omega)
          have e2 := dq.2.2.1 (by omega)
          have z1 := op.1 (by omega)
          have z2 := oq.1 (by omega)
          have n1 := op.2.2.1 (by omega)
          have n2 := oq.2.2.1 (by omega)
          rw [z1] at cp
          rw [z2] at cq
          refine xP_s rfl rfl rfl ?_
          refine xP_s rfl rfl rfl ?_
          refine xP_s rfl rfl rfl ?_
          refine xP_cv rfl rfl rfl rfl rfl h11 (p_value (o := some (b - 1)) hp v1 ?_)
          refine xP_s rfl rfl rfl ?_
          refine xP_s rfl rfl rfl ?_
          refine xP_cv rfl rfl rfl rfl rfl h11 (p_value (o := some (b' - 1)) hp v2 ?_)
          repeat' first
            | refine xP_s rfl rfl rfl ?_
            | refine xP_if (fun hc => ?_) (fun hc => ?_)
            | refine xP_ret rfl rfl rfl ?_
          · have hne := xc_t hc
            dsimp only [ptG] at hne
            rw [e1, e2] at hne
            rw [decide_eq_false (fun z => hne (by injection z with t1 t2; rw [t1]))] at k
            exact k
          · have hne := xc_f hc
            dsimp only [ptG] at hne
            rw [e1, e2] at hne
            have ep : p = q := Prod.ext ek (Prod.ext hne (Prod.ext (by rw [n1, n2]) (by rw [z1, z2])))
            rw [decide_eq_true (by rw [ep, cp.2, cq.2])] at k
            exact k
      · have hkk := xc_f hc
        dsimp only at hkk
        rw [decide_eq_false (fun z => hkk (by injection z with t1 t2; rw [t1]))] at k
        repeat' first
          | refine xP_s rfl rfl rfl ?_
          | refine xP_ret rfl rfl rfl ?_
        exact k
end
section
-- Tokens: rows of kinds, starts, ends, values, sizes, keys
abbrev xG : Type := (Nat → Int32) × (Nat → Int32) × (Nat → Int32) × (Nat → Int32) × (Nat → Int32) × (Nat → Int64)
def xTk (A : List xC) (u p v : Nat) (G : xG) : Prop := u ≤ 120 ∧ A[18]? = some (.inr (5, [.ref 1, .ref 5, .ref 19, .ref 20, .ref 21, .ref 22, .ref 23, .ref 24, .int (nI u), .int (nI p), .int (nI v)])) ∧ A[19]? = some (.inl (.int, 120, .inl G.1)) ∧ A[20]? = some (.inl (.int, 120, .inl G.2.1)) ∧ A[21]? = some (.inl (.int, 120, .inl G.2.2.1)) ∧ A[22]? = some (.inl (.int, 120, .inl G.2.2.2.1)) ∧ A[23]? = some (.inl (.int, 120, .inl G.2.2.2.2.1)) ∧ A[24]? = some (.inl (.long, 120, .inr (.inl G.2.2.2.2.2)))
theorem xTk.same {A A' : List xC} {u p v : Nat} {G : xG} {l : List Nat} (h : xTk A u p v G) (hs : xSame A A' l) (hl : (l.all fun k => decide (k < 18) || decide (24 < k)) = true) : xTk A' u p v G := by
  have q : ∀ k, 18 ≤ k → k ≤ 24 → k ∉ l := fun k h1 h2 hk => by
    have := List.all_eq_true.mp hl k hk
    simp at this
    omega
  exact ⟨h.1, (hs.2 _ (q 18 (by omega) (by omega))).trans h.2.1, (hs.2 _ (q 19 (by omega) (by omega))).trans h.2.2.1, (hs.2 _ (q 20 (by omega) (by omega))).trans h.2.2.2.1, (hs.2 _ (q 21 (by omega) (by omega))).trans h.2.2.2.2.1, (hs.2 _ (q 22 (by omega) (by omega))).trans h.2.2.2.2.2.1, (hs.2 _ (q 23 (by omega) (by omega))).trans h.2.2.2.2.2.2.1, (hs.2 _ (q 24 (by omega) (by omega))).trans h.2.2.2.2.2.2.2⟩
theorem xTk.setK {A : List xC} {u p v : Nat} {G : xG} (h : xTk A u p v G) (f : Nat → Int32) : xTk (A.set 19 (.inl (.int, 120, .inl f))) u p v (f, G.2.1, G.2.2.1, G.2.2.2.1, G.2.2.2.2.1, G.2.2.2.2.2) :=
  ⟨h.1, xset_n7 (by decide) h.2.1, xset_eq h.2.2.1, xset_n7 (by decide) h.2.2.2.1, xset_n7 (by decide) h.2.2.2.2.1, xset_n7 (by decide) h.2.2.2.2.2.1, xset_n7 (by decide) h.2.2.2.2.2.2.1, xset_n7 (by decide) h.2.2.2.2.2.2.2⟩
theorem xTk.setB {A : List xC} {u p v : Nat} {G : xG} (h : xTk A u p v G) (f : Nat → Int32) : xTk (A.set 20 (.inl (.int, 120, .inl f))) u p v (G.1, f, G.2.2.1, G.2.2.2.1, G.2.2.2.2.1, G.2.2.2.2.2) :=
  ⟨h.1, xset_n7 (by decide) h.2.1, xset_n7 (by decide) h.2.2.1, xset_eq h.2.2.2.1, xset_n7 (by decide) h.2.2.2.2.1, xset_n7 (by decide) h.2.2.2.2.2.1, xset_n7 (by decide) h.2.2.2.2.2.2.1, xset_n7 (by decide) h.2.2.2.2.2.2.2⟩
theorem xTk.setE {A : List xC} {u p v : Nat} {G : xG} (h : xTk A u p v G) (f : Nat → Int32) : xTk (A.set 21 (.inl (.int, 120, .inl f))) u p v (G.1, G.2.1, f, G.2.2.2.1, G.2.2.2.2.1, G.2.2.2.2.2) :=
  ⟨h.1, xset_n7 (by decide) h.2.1, xset_n7 (by decide) h.2.2.1, xset_n7 (by decide) h.2.2.2.1, xset_eq h.2.2.2.2.1, xset_n7 (by decide) h.2.2.2.2.2.1, xset_n7 (by decide) h.2.2.2.2.2.2.1, xset_n7 (by decide) h.2.2.2.2.2.2.2⟩
theorem xTk.setV {A : List xC} {u p v : Nat} {G : xG} (h : xTk A u p v G) (f : Nat → Int32) : xTk (A.set 22 (.inl (.int, 120, .inl f))) u p v (G.1, G.2.1, G.2.2.1, f, G.2.2.2.2.1, G.2.2.2.2.2) :=
  ⟨h.1, xset_n7 (by decide) h.2.1, xset_n7 (by decide) h.2.2.1, xset_n7 (by decide) h.2.2.2.1, xset_n7 (by decide) h.2.2.2.2.1, xset_eq h.2.2.2.2.2.1, xset_n7 (by decide) h.2.2.2.2.2.2.1, xset_n7 (by decide) h.2.2.2.2.2.2.2⟩
theorem xTk.setS {A : List xC} {u p v : Nat} {G : xG} (h : xTk A u p v G) (f : Nat → Int32) : xTk (A.set 23 (.inl (.int, 120, .inl f))) u p v (G.1, G.2.1, G.2.2.1, G.2.2.2.1, f, G.2.2.2.2.2) :=
  ⟨h.1, xset_n7 (by decide) h.2.1, xset_n7 (by decide) h.2.2.1, xset_n7 (by decide) h.2.2.2.1, xset_n7 (by decide) h.2.2.2.2.1, xset_n7 (by decide) h.2.2.2.2.2.1, xset_eq h.2.2.2.2.2.2.1, xset_n7 (by decide) h.2.2.2.2.2.2.2⟩
theorem xTk.setY {A : List xC} {u p v : Nat} {G : xG} (h : xTk A u p v G) (f : Nat → Int64) : xTk (A.set 24 (.inl (.long, 120, .inr (.inl f)))) u p v (G.1, G.2.1, G.2.2.1, G.2.2.2.1, G.2.2.2.2.1, f) :=
  ⟨h.1, xset_n7 (by decide) h.2.1, xset_n7 (by decide) h.2.2.1, xset_n7 (by decide) h.2.2.2.1, xset_n7 (by decide) h.2.2.2.2.1, xset_n7 (by decide) h.2.2.2.2.2.1, xset_n7 (by decide) h.2.2.2.2.2.2.1, xset_eq h.2.2.2.2.2.2.2⟩
theorem xTk.setO {A : List xC} {u p v u' p' v' : Nat} {G : xG} (h : xTk A u p v G) (hu : u' ≤ 120) : xTk (A.set 18 (.inr (5, [.ref 1, .ref 5, .ref 19, .ref 20, .ref 21, .ref 22, .ref 23, .ref 24, .int (nI u'), .int (nI p'), .int (nI v')]))) u' p' v' G :=
  ⟨hu, xset_eq h.2.1, xset_n7 (by decide) h.2.2.1, xset_n7 (by decide) h.2.2.2.1, xset_n7 (by decide) h.2.2.2.2.1, xset_n7 (by decide) h.2.2.2.2.2.1, xset_n7 (by decide) h.2.2.2.2.2.2.1, xset_n7 (by decide) h.2.2.2.2.2.2.2⟩
set_option maxRecDepth 100000 in
theorem p_isToken {sc : xSc} {d g u p v i : Nat} {A : List xC} {G : xG} {P : xO → xH → Prop} (ht : xTk A u p v G) (hi : i < 2 ^ 31) (k : P (.inl (some (.int (xb (decide (i < u)))))) (A, g)) : xM1 sc d 84 [.ref 18, .int (nI i)] (A, g) P := by
  have h18 := ht.2.1
  have hu := ht.1
  have h0 : (0 : Int32).toInt = 0 := rfl
  have h120 : (120 : Int32).toInt = 120 := rfl
  have hU : (nI u).toInt = (u : Int) := nI_toInt (by omega)
  have hI : (nI i).toInt = (i : Int) := nI_toInt hi
  obtain ⟨b, hb, hbe⟩ : ∃ b, (b = true ↔ i < u) ∧ decide (i < u) = b := ⟨decide (i < u), decide_eq_true_iff, rfl⟩
  rw [hbe] at k
  clear hbe
  unfold xM1
  repeat' first
    | refine xP_s rfl rfl rfl ?_
    | refine xP_get rfl h18 rfl ?_
    | refine xP_if (fun hc => ?_) (fun hc => ?_)
    | refine xP_ret rfl rfl rfl ?_
  all_goals
    (try simp only [xc_i, decide_eq_true_eq, decide_eq_false_iff_not] at *)
  all_goals first
    | (rw [show b = true from hb.mpr (by omega)] at k; exact k)
    | (rw [show b = false from Bool.not_eq_true _ ▸ fun q => absurd (hb.mp q) (by omega)] at k; exact k)
set_option maxRecDepth 100000 in
theorem p_tkind {sc : xSc} {d g u p v i : Nat} {A : List xC} {G : xG} {P : xO → xH → Prop} (ht : xTk A u p v G) (hi : i < 2 ^ 31) (k : P (.inl (some (.int (if i < u then G.1 i else 0)))) (A, g)) : xM1 sc (d + 1) 85 [.ref 18, .int (nI i)] (A, g) P := by
  have h18 := ht.2.1
  have hu := ht.1
  have hI : (nI i).toInt = (i : Int) := nI_toInt hi
  unfold xM1
  refine xP_s rfl rfl rfl ?_
  refine xP_s rfl rfl rfl ?_
  refine xP_cv rfl rfl rfl rfl rfl h18 (p_isToken ht hi ?_)
  by_cases hlt : i < u
  · rw [decide_eq_true hlt]
    rw [if_pos hlt] at k
    repeat' first
      | refine xP_s rfl rfl rfl ?_
      | refine xP_get rfl h18 rfl ?_
    refine xP_ial rfl ht.2.2.1 (by decide) (xib_of (by omega) (by omega)) ?_
    rw [nI_clamp hi]
    repeat' first
      | refine xP_s rfl rfl rfl ?_
      | refine xP_ret rfl rfl rfl ?_
    exact k
  · rw [decide_eq_false hlt]
    rw [if_neg hlt] at k
    repeat' first
      | refine xP_s rfl rfl rfl ?_
      | refine xP_ret rfl rfl rfl ?_
    exact k
set_option maxRecDepth 100000 in
theorem p_tvalue {sc : xSc} {d g u p v i : Nat} {A : List xC} {G : xG} {P : xO → xH → Prop} (ht : xTk A u p v G) (hi : i < 2 ^ 31) (k : P (.inl (some (.int (if i < u then G.2.2.2.1 i else 0)))) (A, g)) : xM1 sc (d + 1) 87 [.ref 18, .int (nI i)] (A, g) P := by
  have h18 := ht.2.1
  have hu := ht.1
  have hI : (nI i).toInt = (i : Int) := nI_toInt hi
  unfold xM1
  refine xP_s rfl rfl rfl ?_
  refine xP_s rfl rfl rfl ?_
  refine xP_cv rfl rfl rfl rfl rfl h18 (p_isToken ht hi ?_)
  by_cases hlt : i < u
  · rw [decide_eq_true hlt]
    rw [if_pos hlt] at k
    repeat' first
      | refine xP_s rfl rfl rfl ?_
      | refine xP_get rfl h18 rfl ?_
    refine xP_ial rfl ht.2.2.2.2.2.1 (by decide) (xib_of (by omega) (by omega)) ?_
    rw [nI_clamp hi]
    repeat' first
      | refine xP_s rfl rfl rfl ?_
      | refine xP_ret rfl rfl rfl ?_
    exact k
  · rw [decide_eq_false hlt]
    rw [if_neg hlt] at k
    repeat' first
      | refine xP_s rfl rfl rfl ?_
      | refine xP_ret rfl rfl rfl ?_
    exact k
set_option maxRecDepth 100000 in
theorem p_tsize {sc : xSc} {d g u p v i : Nat} {A : List xC} {G : xG} {P : xO → xH → Prop} (ht : xTk A u p v G) (hi : i < 2 ^ 31) (k : P (.inl (some (.int (if i < u then G.2.2.2.2.1 i else 0)))) (A, g)) : xM1 sc (d + 1) 88 [.ref 18, .int (nI i)] (A, g) P := by
  have h18 := ht.2.1
  have hu := ht.1
  have hI : (nI i).toInt = (i : Int) := nI_toInt hi
  unfold xM1
  refine xP_s rfl rfl rfl ?_
  refine xP_s rfl rfl rfl ?_
  refine xP_cv rfl rfl rfl rfl rfl h18 (p_isToken ht hi ?_)
  by_cases hlt : i < u
  · rw [decide_eq_true hlt]
    rw [if_pos hlt] at k
    repeat' first
      | refine xP_s rfl rfl rfl ?_
      | refine xP_get rfl h18 rfl ?_
    refine xP_ial rfl ht.2.2.2.2.2.2.1 (by decide) (xib_of (by omega) (by omega)) ?_
    rw [nI_clamp hi]
    repeat' first
      | refine xP_s rfl rfl rfl ?_
      | refine xP_ret rfl rfl rfl ?_
    exact k
  · rw [decide_eq_false hlt]
    rw [if_neg hlt] at k
    repeat' first
      | refine xP_s rfl rfl rfl ?_
      | refine xP_ret rfl rfl rfl ?_
    exact k
set_option maxRecDepth 100000 in
theorem p_tkey {sc : xSc} {d g u p v i : Nat} {A : List xC} {G : xG} {P : xO → xH → Prop} (ht : xTk A u p v G) (hi : i < 2 ^ 31) (k : P (.inl (some (.long (if i < u then G.2.2.2.2.2 i else 0)))) (A, g)) : xM1 sc (d + 1) 89 [.ref 18, .int (nI i)] (A, g) P := by
  have h18 := ht.2.1
  have hu := ht.1
  have hI : (nI i).toInt = (i : Int) := nI_toInt hi
  unfold xM1
  refine xP_s rfl rfl rfl ?_
  refine xP_s rfl rfl rfl ?_
  refine xP_cv rfl rfl rfl rfl rfl h18 (p_isToken ht hi ?_)
  by_cases hlt : i < u
  · rw [decide_eq_true hlt]
    rw [if_pos hlt] at k
    repeat' first
      | refine xP_s rfl rfl rfl ?_
      | refine xP_get rfl h18 rfl ?_
    refine xP_lal rfl ht.2.2.2.2.2.2.2 (xib_of (by omega) (by omega)) ?_
    rw [nI_clamp hi]
    repeat' first
      | refine xP_s rfl rfl rfl ?_
      | refine xP_ret rfl rfl rfl ?_
    exact k
  · rw [decide_eq_false hlt]
    rw [if_neg hlt] at k
    repeat' first
      | refine xP_s rfl rfl rfl ?_
      | refine xP_ret rfl rfl rfl ?_
    exact k
set_option maxRecDepth 100000 in
theorem p_tend {sc : xSc} {d g u p v i : Nat} {A : List xC} {G : xG} {P : xO → xH → Prop} (ht : xTk A u p v G) (hi : i < u) (k : P (.inl (some (.int (G.2.2.1 i)))) (A, g)) : xM1 sc (d + 1) 86 [.ref 18, .int (nI i)] (A, g) P := by
  have h18 := ht.2.1
  have hu := ht.1
  have hI : (nI i).toInt = (i : Int) := nI_toInt (by omega)
  unfold xM1
  refine xP_s rfl rfl rfl ?_
  refine xP_s rfl rfl rfl ?_
  refine xP_cv rfl rfl rfl rfl rfl h18 (p_isToken ht (by omega) ?_)
  rw [decide_eq_true hi]
  repeat' first
    | refine xP_s rfl rfl rfl ?_
    | refine xP_get rfl h18 rfl ?_
  refine xP_ial rfl ht.2.2.2.2.1 (by decide) (xib_of (by omega) (by omega)) ?_
  rw [nI_clamp (by omega)]
  repeat' first
    | refine xP_s rfl rfl rfl ?_
    | refine xP_ret rfl rfl rfl ?_
  exact k
set_option maxRecDepth 100000 in
theorem p_isMark {sc : xSc} {d g u p v i : Nat} {A : List xC} {G : xG} {c : Int32} {b : Bool} {P : xO → xH → Prop} (ht : xTk A u p v G) (hi : i < 2 ^ 31) (hb : b = true ↔ i < u ∧ (G.1 i).toInt = 5 ∧ (G.2.2.2.1 i).toInt = c.toInt) (k : P (.inl (some (.int (xb b)))) (A, g)) : xM1 sc (d + 2) 91 [.ref 18, .int (nI i), .int c] (A, g) P := by
  have h18 := ht.2.1
  have h0 : (0 : Int32).toInt = 0 := rfl
  have h5 : (5 : Int32).toInt = 5 := rfl
  unfold xM1
  by_cases hlt : i < u
  · refine xP_s rfl rfl rfl ?_
    refine xP_s rfl rfl rfl ?_
    refine xP_cv rfl rfl rfl rfl rfl h18 (p_tkind ht hi ?_)
    rw [if_pos hlt]
    refine xP_s rfl rfl rfl ?_
    refine xP_s rfl rfl rfl ?_
    refine xP_if (fun hc => ?_) (fun hc => ?_)
    · repeat' first
        | refine xP_s rfl rfl rfl ?_
        | refine xP_ret rfl rfl rfl ?_
      all_goals
        (try simp only [xc_i, decide_eq_true_eq, decide_eq_false_iff_not] at *)
      all_goals first
        | (rw [show b = true from hb.mpr (by omega)] at k; exact k)
        | (rw [show b = false from Bool.not_eq_true _ ▸ fun q => absurd (hb.mp q) (by omega)] at k; exact k)
    · refine xP_s rfl rfl rfl ?_
      refine xP_s rfl rfl rfl ?_
      refine xP_cv rfl rfl rfl rfl rfl h18 (p_tvalue ht hi ?_)
      rw [if_pos hlt]
      repeat' first
        | refine xP_s rfl rfl rfl ?_
        | refine xP_if (fun hc => ?_) (fun hc => ?_)
        | refine xP_ret rfl rfl rfl ?_
      all_goals
        (try simp only [xc_i, decide_eq_true_eq, decide_eq_false_iff_not] at *)
      all_goals first
        | (rw [show b = true from hb.mpr (by omega)] at k; exact k)
        | (rw [show b = false from Bool.not_eq_true _ ▸ fun q => absurd (hb.mp q) (by omega)] at k; exact k)
  · rw [show b = false from Bool.not_eq_true _ ▸ fun q => absurd (hb.mp q).1 hlt] at k
    refine xP_s rfl rfl rfl ?_
    refine xP_s rfl rfl rfl ?_
    refine xP_cv rfl rfl rfl rfl rfl h18 (p_tkind ht hi ?_)
    rw [if_neg hlt]
    repeat' first
      | refine xP_s rfl rfl rfl ?_
      | refine xP_ret rfl rfl rfl ?_
    exact k
set_option maxRecDepth 100000 in
theorem p_isNextTo {sc : xSc} {d g u p v i : Nat} {A : List xC} {G : xG} {b : Bool} {P : xO → xH → Prop} (ht : xTk A u p v G) (hi : i + 1 < 2 ^ 31) (hb : b = true ↔ i + 1 < u ∧ (G.2.2.1 i).toInt = (G.2.1 (i + 1)).toInt) (k : P (.inl (some (.int (xb b)))) (A, g)) : xM1 sc (d + 1) 92 [.ref 18, .int (nI i)] (A, g) P := by
  have h18 := ht.2.1
  have hu := ht.1
  have hI : (nI i).toInt = (i : Int) := nI_toInt (by omega)
  have hJ : (nI (i + 1)).toInt = ((i + 1 : Nat) : Int) := nI_toInt (by omega)
  unfold xM1
  refine xP_s rfl rfl rfl ?_
  refine xP_s rfl rfl rfl ?_
  refine xP_cv rfl rfl rfl rfl rfl h18 (p_isToken ht (by omega) ?_)
  by_cases hlt : i + 1 < u
  · rw [decide_eq_true (show i < u by omega)]
    refine xP_s rfl rfl rfl ?_
    refine xP_s rfl rfl rfl ?_
    refine xP_s rfl rfl rfl ?_
    refine xP_s rfl rfl rfl ?_
    refine xP_s rfl rfl rfl ?_
    rw [nI_1]
    refine xP_cv rfl rfl rfl rfl rfl h18 (p_isToken ht (by omega) ?_)
    rw [decide_eq_true hlt]
    repeat' first
      | refine xP_s rfl rfl rfl ?_
      | refine xP_get rfl h18 rfl ?_
    refine xP_ial rfl ht.2.2.2.2.1 (by decide) (xib_of (by omega) (by omega)) ?_
    rw [nI_clamp (by omega)]
    repeat' first
      | refine xP_s rfl rfl rfl ?_
      | refine xP_get rfl h18 rfl ?_
    rw [nI_1]
    refine xP_ial rfl ht.2.2.2.1 (by decide) (xib_of (by omega) (by omega)) ?_
    rw [nI_clamp (by omega)]
    repeat' first
      | refine xP_s rfl rfl rfl ?_
      | refine xP_if (fun hc => ?_) (fun hc => ?_)
      | refine xP_ret rfl rfl rfl ?_
    all_goals
      (try simp only [xc_i, decide_eq_true_eq, decide_eq_false_iff_not] at *)
    all_goals first
      | (rw [show b = true from hb.mpr (by omega)] at k; exact k)
      | (rw [show b = false from Bool.not_eq_true _ ▸ fun q => absurd (hb.mp q) (by omega)] at k; exact k)
  · rw [show b = false from Bool.not_eq_true _ ▸ fun q => absurd (hb.mp q).1 hlt] at k
    by_cases hl2 : i < u
    · rw [decide_eq_true hl2]
      refine xP_s rfl rfl rfl ?_
      refine xP_s rfl rfl rfl ?_
      refine xP_s rfl rfl rfl ?_
      refine xP_s rfl rfl rfl ?_
      refine xP_s rfl rfl rfl ?_
      rw [nI_1]
      refine xP_cv rfl rfl rfl rfl rfl h18 (p_isToken ht (by omega) ?_)
      rw [decide_eq_false hlt]
      repeat' first
        | refine xP_s rfl rfl rfl ?_
        | refine xP_ret rfl rfl rfl ?_
      exact k
    · rw [decide_eq_false hl2]
      repeat' first
        | refine xP_s rfl rfl rfl ?_
        | refine xP_ret rfl rfl rfl ?_
      exact k
set_option maxRecDepth 100000 in
theorem p_isCall {sc : xSc} {d g u p v i : Nat} {A : List xC} {G : xG} {b : Bool} {P : xO → xH → Prop} (ht : xTk A u p v G) (hi : i + 1 < 2 ^ 31) (hb : b = true ↔ i + 1 < u ∧ (G.1 i).toInt = 1 ∧ (G.2.2.1 i).toInt = (G.2.1 (i + 1)).toInt ∧ (G.1 (i + 1)).toInt = 5 ∧ (G.2.2.2.1 (i + 1)).toInt = 40) (k : P (.inl (some (.int (xb b)))) (A, g)) : xM1 sc (d + 3) 93 [.ref 18, .int (nI i)] (A, g) P := by
  have h18 := ht.2.1
  have h0 : (0 : Int32).toInt = 0 := rfl
  have h1 : (1 : Int32).toInt = 1 := rfl
  have h40 : (40 : Int32).toInt = 40 := rfl
  obtain ⟨b1, hb1⟩ : ∃ b1 : Bool, b1 = true ↔ i + 1 < u ∧ (G.2.2.1 i).toInt = (G.2.1 (i + 1)).toInt := ⟨decide (i + 1 < u ∧ (G.2.2.1 i).toInt = (G.2.1 (i + 1)).toInt), decide_eq_true_iff⟩
  obtain ⟨b2, hb2⟩ : ∃ b2 : Bool, b2 = true ↔ i + 1 < u ∧ (G.1 (i + 1)).toInt = 5 ∧ (G.2.2.2.1 (i + 1)).toInt = (40 : Int32).toInt := ⟨decide (i + 1 < u ∧ (G.1 (i + 1)).toInt = 5 ∧ (G.2.2.2.1 (i + 1)).toInt = (40 : Int32).toInt), decide_eq_true_iff⟩
  unfold xM1
  refine xP_s rfl rfl rfl ?_
  refine xP_s rfl rfl rfl ?_
  refine xP_cv rfl rfl rfl rfl rfl h18 (p_tkind ht (by omega) ?_)
  by_cases hlt : i < u
  · rw [if_pos hlt]
    refine xP_s rfl rfl rfl ?_
    refine xP_s rfl rfl rfl ?_
    refine xP_if (fun hc => ?_) (fun hc => ?_)
    · repeat' first
        | refine xP_s rfl rfl rfl ?_
        | refine xP_ret rfl rfl rfl ?_
      all_goals
        (try simp only [xc_i, decide_eq_true_eq, decide_eq_false_iff_not] at *)
      all_goals first
        | (rw [show b = true from hb.mpr (by omega)] at k; exact k)
        | (rw [show b = false from Bool.not_eq_true _ ▸ fun q => absurd (hb.mp q) (by omega)] at k; exact k)
    · refine xP_s rfl rfl rfl ?_
      refine xP_s rfl rfl rfl ?_
      refine xP_cv rfl rfl rfl rfl rfl h18 (p_isNextTo ht hi hb1 ?_)
      cases b1
      · have hb1 : ¬ (i + 1 < u ∧ (G.2.2.1 i).toInt = (G.2.1 (i + 1)).toInt) := fun q => absurd (hb1.mpr q) (by decide)
        repeat' first
          | refine xP_s rfl rfl rfl ?_
          | refine xP_ret rfl rfl rfl ?_
        all_goals
          (try simp only [xc_i, decide_eq_true_eq, decide_eq_false_iff_not] at *)
        all_goals first
          | (rw [show b = true from hb.mpr (by omega)] at k; exact k)
          | (rw [show b = false from Bool.not_eq_true _ ▸ fun q => absurd (hb.mp q) (by omega)] at k; exact k)
      · have hb1 := hb1.mp rfl
        refine xP_s rfl rfl rfl ?_
        refine xP_s rfl rfl rfl ?_
        refine xP_s rfl rfl rfl ?_
        refine xP_s rfl rfl rfl ?_
        refine xP_s rfl rfl rfl ?_
        rw [nI_1]
        refine xP_s rfl rfl rfl ?_
        refine xP_cv rfl rfl rfl rfl rfl h18 (p_isMark ht hi hb2 ?_)
        cases b2
        · have hb2 : ¬ (i + 1 < u ∧ (G.1 (i + 1)).toInt = 5 ∧ (G.2.2.2.1 (i + 1)).toInt = (40 : Int32).toInt) := fun q => absurd (hb2.mpr q) (by decide)
          repeat' first
            | refine xP_s rfl rfl rfl ?_
            | refine xP_ret rfl rfl rfl ?_
          all_goals
            (try simp only [xc_i, decide_eq_true_eq, decide_eq_false_iff_not] at *)
          all_goals first
            | (rw [show b = true from hb.mpr (by omega)] at k; exact k)
            | (rw [show b = false from Bool.not_eq_true _ ▸ fun q => absurd (hb.mp q) (by omega)] at k; exact k)
        · have hb2 := hb2.mp rfl
          repeat' first
            | refine xP_s rfl rfl rfl ?_
            | refine xP_ret rfl rfl rfl ?_
          all_goals
            (try simp only [xc_i, decide_eq_true_eq, decide_eq_false_iff_not] at *)
          all_goals first
            | (rw [show b = true from hb.mpr (by omega)] at k; exact k)
            | (rw [show b = false from Bool.not_eq_true _ ▸ fun q => absurd (hb.mp q) (by omega)] at k; exact k)
  · rw [if_neg hlt]
    rw [show b = false from Bool.not_eq_true _ ▸ fun q => absurd (hb.mp q).1 (by omega)] at k
    repeat' first
      | refine xP_s rfl rfl rfl ?_
      | refine xP_ret rfl rfl rfl ?_
    exact k

set_option maxRecDepth 100000 in
theorem p_isQuoted {sc : xSc} {d g u p v i : Nat} {A : List xC} {G : xG} {t : List Nat} {b : Bool} {P : xO → xH → Prop} (ht : xTk A u p v G) (hs : xRw A 1 120 t) (hi : i < u) (hb : b = true ↔ (cAt t (G.2.1 i)).toInt = 39) (k : P (.inl (some (.int (xb b)))) (A, g)) : xM1 sc (d + 1) 95 [.ref 18, .int (nI i)] (A, g) P := by
  have h18 := ht.2.1
  have hu := ht.1
  have hI : (nI i).toInt = (i : Int) := nI_toInt (by omega)
  have h39 : (39 : Int32).toInt = 39 := rfl
  unfold xM1
  refine xP_s rfl rfl rfl ?_
  refine xP_s rfl rfl rfl ?_
  refine xP_cv rfl rfl rfl rfl rfl h18 (p_isToken ht (by omega) ?_)
  rw [decide_eq_true hi]
  repeat' first
    | refine xP_s rfl rfl rfl ?_
    | refine xP_get rfl h18 rfl ?_
  refine xP_ial rfl ht.2.2.2.1 (by decide) (xib_of (by omega) (by omega)) ?_
  rw [nI_clamp (by omega)]
  repeat' first
    | refine xP_s rfl rfl rfl ?_
    | refine xP_cv rfl rfl rfl rfl rfl hs.obj (p_at hs (by decide) (by decide) ?_)
    | refine xP_if (fun hc => ?_) (fun hc => ?_)
    | refine xP_ret rfl rfl rfl ?_
  all_goals
    (try simp only [xc_i, decide_eq_true_eq, decide_eq_false_iff_not] at *)
  all_goals first
    | (rw [show b = true from hb.mpr (by omega)] at k; exact k)
    | (rw [show b = false from Bool.not_eq_true _ ▸ fun q => absurd (hb.mp q) (by omega)] at k; exact k)
set_option maxRecDepth 100000 in
theorem p_isMinusOfInteger {sc : xSc} {d g u p v i : Nat} {A : List xC} {G : xG} {t : List Nat} {b : Bool} {P : xO → xH → Prop} (ht : xTk A u p v G) (hs : xRw A 1 120 t) (hi : i + 1 < 2 ^ 31) (hb : b = true ↔ i + 1 < u ∧ (G.1 i).toInt = 1 ∧ G.2.2.2.2.2 i = 45 ∧ (G.2.2.1 i).toInt = (G.2.1 (i + 1)).toInt ∧ (G.1 (i + 1)).toInt = 3 ∧ ¬ (cAt t (G.2.1 i)).toInt = 39) (k : P (.inl (some (.int (xb b)))) (A, g)) : xM1 sc (d + 2) 94 [.ref 18, .int (nI i)] (A, g) P := by
  have h18 := ht.2.1
  have h0 : (0 : Int32).toInt = 0 := rfl
  have h1 : (1 : Int32).toInt = 1 := rfl
  have h3 : (3 : Int32).toInt = 3 := rfl
  obtain ⟨z, hz⟩ : ∃ z : Nat, z = 1 ↔ G.2.2.2.2.2 i = 45 := ⟨if G.2.2.2.2.2 i = 45 then 1 else 0, by split <;> simp_all⟩
  have hlg := lgc0 (G.2.2.2.2.2 i) 45
  rw [← hz] at hlg hb
  obtain ⟨b1, hb1⟩ : ∃ b1 : Bool, b1 = true ↔ i + 1 < u ∧ (G.2.2.1 i).toInt = (G.2.1 (i + 1)).toInt := ⟨decide (i + 1 < u ∧ (G.2.2.1 i).toInt = (G.2.1 (i + 1)).toInt), decide_eq_true_iff⟩
  obtain ⟨b2, hb2⟩ : ∃ b2 : Bool, b2 = true ↔ (cAt t (G.2.1 i)).toInt = 39 := ⟨decide ((cAt t (G.2.1 i)).toInt = 39), decide_eq_true_iff⟩
  unfold xM1
  refine xP_s rfl rfl rfl ?_
  refine xP_s rfl rfl rfl ?_
  refine xP_cv rfl rfl rfl rfl rfl h18 (p_tkind ht (by omega) ?_)
  by_cases hlt : i < u
  · rw [if_pos hlt]
    refine xP_s rfl rfl rfl ?_
    refine xP_s rfl rfl rfl ?_
    refine xP_if (fun hc => ?_) (fun hc => ?_)
    · repeat' first
        | refine xP_s rfl rfl rfl ?_
        | refine xP_ret rfl rfl rfl ?_
      all_goals
        (try simp only [xc_i, decide_eq_true_eq, decide_eq_false_iff_not] at *)
      all_goals first
        | (rw [show b = true from hb.mpr (by omega)] at k; exact k)
        | (rw [show b = false from Bool.not_eq_true _ ▸ fun q => absurd (hb.mp q) (by omega)] at k; exact k)
    · refine xP_s rfl rfl rfl ?_
      refine xP_s rfl rfl rfl ?_
      refine xP_cv rfl rfl rfl rfl rfl h18 (p_tkey ht (by omega) ?_)
      rw [if_pos hlt]
      refine xP_s rfl rfl rfl ?_
      refine xP_s rfl rfl rfl ?_
      refine xP_s rfl rfl rfl ?_
      refine xP_if (fun hc => ?_) (fun hc => ?_)
      · repeat' first
          | refine xP_s rfl rfl rfl ?_
          | refine xP_ret rfl rfl rfl ?_
        all_goals
          (try simp only [xc_i, decide_eq_true_eq, decide_eq_false_iff_not] at *)
        all_goals first
          | (rw [show b = true from hb.mpr (by omega)] at k; exact k)
          | (rw [show b = false from Bool.not_eq_true _ ▸ fun q => absurd (hb.mp q) (by omega)] at k; exact k)
      · refine xP_s rfl rfl rfl ?_
        refine xP_s rfl rfl rfl ?_
        refine xP_cv rfl rfl rfl rfl rfl h18 (p_isNextTo ht hi hb1 ?_)
        cases b1
        · have hb1 : ¬ (i + 1 < u ∧ (G.2.2.1 i).toInt = (G.2.1 (i + 1)).toInt) := fun q => absurd (hb1.mpr q) (by decide)
          repeat' first
            | refine xP_s rfl rfl rfl ?_
            | refine xP_ret rfl rfl rfl ?_
          all_goals
            (try simp only [xc_i, decide_eq_true_eq, decide_eq_false_iff_not] at *)
          all_goals first
            | (rw [show b = true from hb.mpr (by omega)] at k; exact k)
            | (rw [show b = false from Bool.not_eq_true _ ▸ fun q => absurd (hb.mp q) (by omega)] at k; exact k)
        · have hb1 := hb1.mp rfl
          refine xP_s rfl rfl rfl ?_
          refine xP_s rfl rfl rfl ?_
          refine xP_s rfl rfl rfl ?_
          refine xP_s rfl rfl rfl ?_
          refine xP_s rfl rfl rfl ?_
          rw [nI_1]
          refine xP_cv rfl rfl rfl rfl rfl h18 (p_tkind ht hi ?_)
          rw [if_pos hb1.1]
          refine xP_s rfl rfl rfl ?_
          refine xP_s rfl rfl rfl ?_
          refine xP_if (fun hc => ?_) (fun hc => ?_)
          · repeat' first
              | refine xP_s rfl rfl rfl ?_
              | refine xP_ret rfl rfl rfl ?_
            all_goals
              (try simp only [xc_i, decide_eq_true_eq, decide_eq_false_iff_not] at *)
            all_goals first
              | (rw [show b = true from hb.mpr (by omega)] at k; exact k)
              | (rw [show b = false from Bool.not_eq_true _ ▸ fun q => absurd (hb.mp q) (by omega)] at k; exact k)
          · refine xP_s rfl rfl rfl ?_
            refine xP_s rfl rfl rfl ?_
            refine xP_cv rfl rfl rfl rfl rfl h18 (p_isQuoted ht hs (by omega) hb2 ?_)
            cases b2
            · have hb2 : ¬ (cAt t (G.2.1 i)).toInt = 39 := fun q => absurd (hb2.mpr q) (by decide)
              repeat' first
                | refine xP_s rfl rfl rfl ?_
                | refine xP_ret rfl rfl rfl ?_
              all_goals
                (try simp only [xc_i, decide_eq_true_eq, decide_eq_false_iff_not] at *)
              all_goals first
                | (rw [show b = true from hb.mpr (by omega)] at k; exact k)
                | (rw [show b = false from Bool.not_eq_true _ ▸ fun q => absurd (hb.mp q) (by omega)] at k; exact k)
            · have hb2 := hb2.mp rfl
              repeat' first
                | refine xP_s rfl rfl rfl ?_
                | refine xP_ret rfl rfl rfl ?_
              all_goals
                (try simp only [xc_i, decide_eq_true_eq, decide_eq_false_iff_not] at *)
              all_goals first
                | (rw [show b = true from hb.mpr (by omega)] at k; exact k)
                | (rw [show b = false from Bool.not_eq_true _ ▸ fun q => absurd (hb.mp q) (by omega)] at k; exact k)
  · rw [if_neg hlt]
    rw [show b = false from Bool.not_eq_true _ ▸ fun q => absurd (hb.mp q).1 (by omega)] at k
    repeat' first
      | refine xP_s rfl rfl rfl ?_
      | refine xP_ret rfl rfl rfl ?_
    exact k
/-- whether a token of this kind and value begins a term -/
def bgT (kd v : Int) : Bool := if kd = 0 then false else if kd = 5 then decide (v = 40) || (decide (v = 91) || decide (v = 123)) else true
set_option maxRecDepth 100000 in
theorem p_beginsTerm {sc : xSc} {d g u p v i : Nat} {A : List xC} {G : xG} {P : xO → xH → Prop} (ht : xTk A u p v G) (hi : i < 2 ^ 31) (k : P (.inl (some (.int (xb (if i < u then bgT (G.1 i).toInt (G.2.2.2.1 i).toInt else false))))) (A, g)) : xM1 sc (d + 3) 96 [.ref 18, .int (nI i)] (A, g) P := by
  have h18 := ht.2.1
  have mk : ∀ c : Int32, ∃ b : Bool, b = true ↔ i < u ∧ (G.1 i).toInt = 5 ∧ (G.2.2.2.1 i).toInt = c.toInt := fun c => ⟨decide (i < u ∧ (G.1 i).toInt = 5 ∧ (G.2.2.2.1 i).toInt = c.toInt), decide_eq_true_iff⟩
  unfold xM1
  refine xP_s rfl rfl rfl ?_
  refine xP_s rfl rfl rfl ?_
  refine xP_cv rfl rfl rfl rfl rfl h18 (p_tkind ht hi ?_)
  by_cases hlt : i < u
  · rw [if_pos hlt]
    rw [if_pos hlt] at k
    refine xP_s rfl rfl rfl ?_
    unfold bgT at k
    refine xP_sw (fun q hq hx => ?_) (fun hx => ?_)
    · simp only [List.mem_cons, List.not_mem_nil, or_false] at hq
      rcases hq with rfl | rfl
      · rw [if_pos (show (G.1 i).toInt = 0 by rw [hx]; rfl)] at k
        repeat' first
          | refine xP_s rfl rfl rfl ?_
          | refine xP_ret rfl rfl rfl ?_
        exact k
      · have h5 : (G.1 i).toInt = 5 := by rw [hx]; rfl
        rw [if_neg (by omega), if_pos h5] at k
        obtain ⟨b1, hb1⟩ := mk 40
        obtain ⟨b2, hb2⟩ := mk 91
        obtain ⟨b3, hb3⟩ := mk 123
        have e1 : decide ((G.2.2.2.1 i).toInt = 40) = b1 := by rw [Bool.eq_iff_iff, hb1, decide_eq_true_eq]; exact ⟨fun z => ⟨hlt, h5, z⟩, fun z => z.2.2⟩
        have e2 : decide ((G.2.2.2.1 i).toInt = 91) = b2 := by rw [Bool.eq_iff_iff, hb2, decide_eq_true_eq]; exact ⟨fun z => ⟨hlt, h5, z⟩, fun z => z.2.2⟩
        have e3 : decide ((G.2.2.2.1 i).toInt = 123) = b3 := by rw [Bool.eq_iff_iff, hb3, decide_eq_true_eq]; exact ⟨fun z => ⟨hlt, h5, z⟩, fun z => z.2.2⟩
        rw [e1, e2, e3] at k
        clear e1 e2 e3
        refine xP_s rfl rfl rfl ?_
        refine xP_s rfl rfl rfl ?_
        refine xP_s rfl rfl rfl ?_
        refine xP_cv rfl rfl rfl rfl rfl h18 (p_isMark ht hi hb1 ?_)
        cases b1
        · refine xP_s rfl rfl rfl ?_
          refine xP_s rfl rfl rfl ?_
          refine xP_s rfl rfl rfl ?_
          refine xP_s rfl rfl rfl ?_
          refine xP_cv rfl rfl rfl rfl rfl h18 (p_isMark ht hi hb2 ?_)
          cases b2
          · refine xP_s rfl rfl rfl ?_
            refine xP_s rfl rfl rfl ?_
            refine xP_s rfl rfl rfl ?_
            refine xP_s rfl rfl rfl ?_
            refine xP_cv rfl rfl rfl rfl rfl h18 (p_isMark ht hi hb3 ?_)
            cases b3
            · repeat' first
                | refine xP_s rfl rfl rfl ?_
                | refine xP_ret rfl rfl rfl ?_
              exact k
            · repeat' first
                | refine xP_s rfl rfl rfl ?_
                | refine xP_ret rfl rfl rfl ?_
              exact k
          · repeat' first
              | refine xP_s rfl rfl rfl ?_
              | refine xP_ret rfl rfl rfl ?_
            exact k
        · repeat' first
            | refine xP_s rfl rfl rfl ?_
            | refine xP_ret rfl rfl rfl ?_
          exact k
    · simp only [List.mem_cons, List.not_mem_nil, or_false, forall_eq_or_imp, forall_eq] at hx
      have n0 : ¬ (G.1 i).toInt = 0 := fun z => hx.1 (Int32.toInt_inj.mp (by rw [z]; rfl))
      have n5 : ¬ (G.1 i).toInt = 5 := fun z => hx.2 (Int32.toInt_inj.mp (by rw [z]; rfl))
      rw [if_neg n0, if_neg n5] at k
      repeat' first
        | refine xP_s rfl rfl rfl ?_
        | refine xP_ret rfl rfl rfl ?_
      exact k
  · rw [if_neg hlt]
    rw [if_neg hlt] at k
    repeat' first
      | refine xP_s rfl rfl rfl ?_
      | refine xP_ret rfl rfl rfl ?_
    exact k
set_option maxRecDepth 100000 in
theorem p_stringCharacter {sc : xSc} {d g u p v i : Nat} {A : List xC} {G : xG} {t : List Nat} {x : Int32} {P : xO → xH → Prop} (ht : xTk A u p v G) (hs : xRw A 1 120 t) (hi : i < u) (k : P (.inl (some (.int (cAt t (G.2.2.2.1 i + x))))) (A, g)) : xM1 sc (d + 2) 90 [.ref 18, .int (nI i), .int x] (A, g) P := by
  have h18 := ht.2.1
  have hu := ht.1
  unfold xM1
  refine xP_s rfl rfl rfl ?_
  refine xP_get rfl h18 rfl ?_
  refine xP_s rfl rfl rfl ?_
  refine xP_s rfl rfl rfl ?_
  refine xP_cv rfl rfl rfl rfl rfl h18 (p_tvalue ht (by omega) ?_)
  rw [if_pos hi]
  repeat' first
    | refine xP_s rfl rfl rfl ?_
    | refine xP_cv rfl rfl rfl rfl rfl hs.obj (p_at hs (by decide) (by decide) ?_)
    | refine xP_ret rfl rfl rfl ?_
  exact k
set_option maxRecDepth 100000 in
theorem p_tadd {sc : xSc} {d g u p v x3 : Nat} {A : List xC} {G : xG} {x1 x4 x5 : Int32} {key : Int64} {P : xO → xH → Prop} (ht : xTk A u p v G) (hu : u < 120)
    (k : ∀ A', xTk A' (u + 1) x3 v (upd G.1 u x1, upd G.2.1 u (nI p), upd G.2.2.1 u (nI x3), upd G.2.2.2.1 u x4, upd G.2.2.2.2.1 u x5, vp_updL G.2.2.2.2.2 u key) → xSame A A' [18, 19, 20, 21, 22, 23, 24] → P (.inl (some (.int 1))) (A', g)) : xM1 sc d 100 [.ref 18, .int x1, .int (nI x3), .int x4, .int x5, .long key] (A, g) P := by
  have h18 := ht.2.1
  have h0 : (0 : Int32).toInt = 0 := rfl
  have h120 : (120 : Int32).toInt = 120 := rfl
  have hU : (nI u).toInt = (u : Int) := nI_toInt (by omega)
  have hcl : (nI u).toNatClampNeg = u := nI_clamp (by omega)
  have hi : xib (nI u) 120 = true := xib_of (by omega) (by omega)
  unfold xM1
  refine xP_s rfl rfl rfl ?_
  refine xP_get rfl h18 rfl ?_
  refine xP_s rfl rfl rfl ?_
  refine xP_if (fun hc => ?_) (fun hc => ?_)
  · have := xc_t hc
    dsimp only at this
    omega
  · refine xP_s rfl rfl rfl ?_
    refine xP_get rfl h18 rfl ?_
    refine xP_s rfl rfl rfl ?_
    refine xP_s rfl rfl rfl ?_
    refine xP_if (fun hc => ?_) (fun hc => ?_)
    · repeat' first
        | refine xP_s rfl rfl rfl ?_
        | refine xP_get rfl h18 rfl ?_
      refine xP_ias rfl ht.2.2.1 hi ?_
      rw [hcl]
      have p1 := ht.setK (upd G.1 u x1)
      repeat' first
        | refine xP_s rfl rfl rfl ?_
        | refine xP_get rfl p1.2.1 rfl ?_
      refine xP_ias rfl p1.2.2.2.1 hi ?_
      rw [hcl]
      have p2 := p1.setB (upd G.2.1 u (nI p))
      repeat' first
        | refine xP_s rfl rfl rfl ?_
        | refine xP_get rfl p2.2.1 rfl ?_
      refine xP_ias rfl p2.2.2.2.2.1 hi ?_
      rw [hcl]
      have p3 := p2.setE (upd G.2.2.1 u (nI x3))
      repeat' first
        | refine xP_s rfl rfl rfl ?_
        | refine xP_get rfl p3.2.1 rfl ?_
      refine xP_ias rfl p3.2.2.2.2.2.1 hi ?_
      rw [hcl]
      have p4 := p3.setV (upd G.2.2.2.1 u x4)
      repeat' first
        | refine xP_s rfl rfl rfl ?_
        | refine xP_get rfl p4.2.1 rfl ?_
      refine xP_ias rfl p4.2.2.2.2.2.2.1 hi ?_
      rw [hcl]
      have p5 := p4.setS (upd G.2.2.2.2.1 u x5)
      repeat' first
        | refine xP_s rfl rfl rfl ?_
        | refine xP_get rfl p5.2.1 rfl ?_
      refine xP_las rfl p5.2.2.2.2.2.2.2 hi ?_
      rw [hcl]
      have p6 := p5.setY (vp_updL G.2.2.2.2.2 u key)
      refine xP_s rfl rfl rfl ?_
      refine xP_s rfl rfl rfl ?_
      refine xP_get rfl p6.2.1 rfl ?_
      refine xP_s rfl rfl rfl ?_
      refine xP_s rfl rfl rfl ?_
      refine xP_put rfl p6.2.1 (Nat.le_of_ble_eq_true rfl) rfl ?_
      rw [show nI u + 1 = nI (u + 1) from nI_1 u]
      have p7 := p6.setO (u' := u + 1) (p' := p) (v' := v) (by omega)
      refine xP_s rfl rfl rfl ?_
      refine xP_s rfl rfl rfl ?_
      refine xP_put rfl p7.2.1 (Nat.le_of_ble_eq_true rfl) rfl ?_
      have p8 := p7.setO (u' := u + 1) (p' := x3) (v' := v) (by omega)
      repeat' first
        | refine xP_s rfl rfl rfl ?_
        | refine xP_ret rfl rfl rfl ?_
      exact k _ p8 (((((((((xSame.set _ _).trans (xSame.set _ _)).trans (xSame.set _ _)).trans (xSame.set _ _)).trans (xSame.set _ _)).trans (xSame.set _ _)).trans (xSame.set _ _)).trans (xSame.set _ _)).wider (by decide))
    · have := xc_f hc
      dsimp only at this
      omega
end
section
-- locals that are no longer read
def kNd (l : xL) : Prop := (l.map Prod.fst).Nodup
theorem xlk_none {i : Nat} : ∀ {l : xL}, i ∉ l.map Prod.fst → xlk i l = none
  | [], _ => rfl
  | q :: r, h => by
    rw [List.map_cons, List.mem_cons, not_or] at h
    unfold xlk
    rw [if_neg (by simpa using Ne.symm h.1)]
    exact xlk_none h.2
theorem xlk_put_ne {i j : Nat} {v : Value} (h : j ≠ i) : ∀ {l : xL}, xlk j (xput i v l) = xlk j l
  | [] => by
    unfold xput xlk
    rw [if_neg (by simpa using Ne.symm h)]
    rfl
  | q :: r => by
    unfold xput
    split
    · conv => lhs; unfold xlk
      rw [if_neg (by simpa using Ne.symm h)]
    · unfold xlk
      split
      · rfl
      · exact xlk_put_ne h
theorem xlk_put_eq {i : Nat} {v : Value} : ∀ {l : xL}, i ∉ l.map Prod.fst → xlk i (xput i v l) = some v
  | [], _ => by
    unfold xput xlk
    rw [if_pos (by simp)]
  | q :: r, h => by
    rw [List.map_cons, List.mem_cons, not_or] at h
    unfold xput
    split
    · unfold xlk
      rw [if_pos (by simp)]
    · unfold xlk
      rw [if_neg (by simpa using Ne.symm h.1)]
      exact xlk_put_eq h.2
theorem xput_keys {i : Nat} {v : Value} : ∀ {l : xL} {j : Nat}, j ∈ (xput i v l).map Prod.fst ↔ j = i ∨ j ∈ l.map Prod.fst
  | [], j => by simp [xput]
  | q :: r, j => by
    unfold xput
    split
    · simp
    · rw [List.map_cons, List.mem_cons, xput_keys, List.map_cons, List.mem_cons]
      exact or_left_comm
theorem xput_nd {i : Nat} {v : Value} : ∀ {l : xL}, i ∉ l.map Prod.fst → kNd l → kNd (xput i v l)
  | [], _, _ => by simp [xput, kNd]
  | q :: r, h, hn => by
    unfold xput
    unfold kNd at hn ⊢
    split
    · rw [List.map_cons, List.nodup_cons]
      exact ⟨h, hn⟩
    · rw [List.map_cons, List.mem_cons, not_or] at h
      rw [List.map_cons, List.nodup_cons] at hn
      rw [List.map_cons, List.nodup_cons, xput_keys, not_or]
      exact ⟨⟨Ne.symm h.1, hn.1⟩, xput_nd h.2 hn.2⟩
theorem kNd_filter {l : xL} (f : Nat × Value → Bool) (h : kNd l) : kNd (l.filter f) := by
  unfold kNd at h ⊢
  exact List.Sublist.nodup (List.Sublist.map _ (List.filter_sublist)) h
theorem xlk_filter {f : Nat × Value → Bool} {i : Nat} : ∀ {l : xL}, kNd l → xlk i (l.filter f) = (xlk i l).bind fun v => if f (i, v) then some v else none
  | [], _ => rfl
  | q :: r, h => by
    unfold kNd at h
    rw [List.map_cons, List.nodup_cons] at h
    have ih := xlk_filter (f := f) (i := i) (l := r) h.2
    conv => rhs; unfold xlk
    by_cases hq : q.1 = i
    · rw [if_pos (by simpa using hq)]
      by_cases hf : f q = true
      · rw [List.filter_cons_of_pos hf]
        unfold xlk
        rw [if_pos (by simpa using hq)]
        have e : f (i, q.2) = true := by rw [← hq]; exact hf
        simp [e]
      · rw [List.filter_cons_of_neg hf, ih, xlk_none (hq ▸ h.1)]
        have e : f (i, q.2) = false := by rw [← hq]; simpa using hf
        simp [e]
    · rw [if_neg (by simpa using hq), ← ih]
      by_cases hf : f q = true
      · rw [List.filter_cons_of_pos hf]
        conv => lhs; unfold xlk
        rw [if_neg (by simpa using hq)]
      · rw [List.filter_cons_of_neg hf]
def xLe (a b : xL) : Prop := kNd a ∧ kNd b ∧ ∀ i v, xlk i a = some v → xlk i b = some v
theorem xLe_put {a b : xL} {i : Nat} {v : Value} (f : Nat × Value → Bool) (hf : ∀ q, f q = true → q.1 ≠ i) (h : xLe a b) : xLe (xput i v (a.filter f)) (xput i v (b.filter f)) := by
  obtain ⟨h1, h2, h3⟩ := h
  have na : ∀ l : xL, i ∉ (l.filter f).map Prod.fst := by
    intro l hm
    obtain ⟨q, hq, hi⟩ := List.mem_map.mp hm
    exact hf q (List.mem_filter.mp hq).2 hi
  refine ⟨xput_nd (na a) (kNd_filter f h1), xput_nd (na b) (kNd_filter f h2), fun j w hj => ?_⟩
  by_cases hji : j = i
  · subst hji
    rw [xlk_put_eq (na a)] at hj
    rw [xlk_put_eq (na b)]
    exact hj
  · rw [xlk_put_ne hji, xlk_filter h1] at hj
    rw [xlk_put_ne hji, xlk_filter h2]
    cases hx : xlk j a with
    | none =>
      rw [hx] at hj
      cases hj
    | some z =>
      rw [hx] at hj
      rw [h3 j z hx]
      exact hj
theorem xLe_st1 {a b : xL} {i : Nat} {v : Value} (h : xLe a b) : xLe (xst1 i v a) (xst1 i v b) :=
  xLe_put _ (fun q hq e => by simp [e] at hq) h
theorem xLe_st2 {a b : xL} {i : Nat} {v : Value} (h : xLe a b) : xLe (xst2 i v a) (xst2 i v b) :=
  xLe_put _ (fun q hq e => by simp [e] at hq) h
theorem xLe_filter {a b : xL} (f : Nat × Value → Bool) (h : xLe a b) : xLe (a.filter f) (b.filter f) := by
  obtain ⟨h1, h2, h3⟩ := h
  refine ⟨kNd_filter f h1, kNd_filter f h2, fun j w hj => ?_⟩
  rw [xlk_filter h1] at hj
  rw [xlk_filter h2]
  cases hx : xlk j a with
  | none =>
    rw [hx] at hj
    cases hj
  | some z =>
    rw [hx] at hj
    rw [h3 j z hx]
    exact hj
/-- an answer with locals that go on being as large -/
def xOk (o o' : Option xN) : Prop := ∀ q, o = some q → ∃ ls', o' = some (q.1, ls', q.2.2) ∧ xLe q.2.1 ls'
theorem xOk_ls {a b : xL} (h : xLe a b) {pc : Nat} {st : List Value} {A : List xC} : xOk (some (pc, a, st, A)) (some (pc, b, st, A)) := fun q hq => by
  cases hq
  exact ⟨b, rfl, h⟩
theorem xOk_none {o : Option xN} : xOk none o := fun q hq => by cases hq
theorem xOk_i {a b : xL} (h : xLe a b) {i : Nat} {k k' : Int32 → Option xN} (hk : ∀ x, xOk (k x) (k' x)) : xOk (xlki (xlk i a) k) (xlki (xlk i b) k') := by
  cases hx : xlk i a with
  | none => exact xOk_none
  | some v =>
    rw [h.2.2 i v hx]
    cases v <;> first | exact hk _ | exact xOk_none
theorem xOk_l {a b : xL} (h : xLe a b) {i : Nat} {k k' : Int64 → Option xN} (hk : ∀ x, xOk (k x) (k' x)) : xOk (xlkl (xlk i a) k) (xlkl (xlk i b) k') := by
  cases hx : xlk i a with
  | none => exact xOk_none
  | some v =>
    rw [h.2.2 i v hx]
    cases v <;> first | exact hk _ | exact xOk_none
theorem xOk_a {a b : xL} (h : xLe a b) {i : Nat} {k k' : Nat → Option xN} (hk : ∀ x, xOk (k x) (k' x)) : xOk (xlka (xlk i a) k) (xlka (xlk i b) k') := by
  cases hx : xlk i a with
  | none => exact xOk_none
  | some v =>
    rw [h.2.2 i v hx]
    cases v <;> first | exact hk _ | exact xOk_none
theorem xOk_xi1 {st : List Value} {k k' : Int32 → List Value → Option xN} (hk : ∀ x r, xOk (k x r) (k' x r)) : xOk (xi1 st k) (xi1 st k') := by
  unfold xi1
  split
  · exact hk _ _
  · exact xOk_none
theorem xOk_xi2 {st : List Value} {k k' : Int32 → Int32 → List Value → Option xN} (hk : ∀ x y r, xOk (k x y r) (k' x y r)) : xOk (xi2 st k) (xi2 st k') := by
  unfold xi2
  split
  · exact hk _ _ _
  · exact xOk_none
theorem xOk_xl1 {st : List Value} {k k' : Int64 → List Value → Option xN} (hk : ∀ x r, xOk (k x r) (k' x r)) : xOk (xl1 st k) (xl1 st k') := by
  unfold xl1
  split
  · exact hk _ _
  · exact xOk_none
theorem xOk_xl2 {st : List Value} {k k' : Int64 → Int64 → List Value → Option xN} (hk : ∀ x y r, xOk (k x y r) (k' x y r)) : xOk (xl2 st k) (xl2 st k') := by
  unfold xl2
  split
  · exact hk _ _ _
  · exact xOk_none
theorem xOk_xli {st : List Value} {k k' : Int64 → Int32 → List Value → Option xN} (hk : ∀ x y r, xOk (k x y r) (k' x y r)) : xOk (xli st k) (xli st k') := by
  unfold xli
  split
  · exact hk _ _ _
  · exact xOk_none
theorem xOk_xr1 {st : List Value} {k k' : Nat → List Value → Option xN} (hk : ∀ x r, xOk (k x r) (k' x r)) : xOk (xr1 st k) (xr1 st k') := by
  unfold xr1
  split
  · exact hk _ _
  · exact xOk_none
theorem xOk_xri {st : List Value} {k k' : Nat → Int32 → List Value → Option xN} (hk : ∀ x y r, xOk (k x y r) (k' x y r)) : xOk (xri st k) (xri st k') := by
  unfold xri
  split
  · exact hk _ _ _
  · exact xOk_none
theorem xOk_xarI {c : Option xC} {ty : FieldType} {i : Int32} {k k' : Nat → (Nat → Int32) → Option xN} (hk : ∀ x y, xOk (k x y) (k' x y)) : xOk (xarI c ty i k) (xarI c ty i k') := by
  unfold xarI
  split
  · split
    · split
      · exact hk _ _
      · exact xOk_none
    · exact xOk_none
  · exact xOk_none
theorem xOk_xarL {c : Option xC} {i : Int32} {k k' : Nat → (Nat → Int64) → Option xN} (hk : ∀ x y, xOk (k x y) (k' x y)) : xOk (xarL c i k) (xarL c i k') := by
  unfold xarL
  split
  · split
    · split
      · exact hk _ _
      · exact xOk_none
    · exact xOk_none
  · exact xOk_none
theorem xOk_xob {c : Option xC} {ci : Nat} {k k' : List Value → Option xN} (hk : ∀ x, xOk (k x) (k' x)) : xOk (xob c ci k) (xob c ci k') := by
  unfold xob
  split
  · split
    · exact hk _
    · exact xOk_none
  · exact xOk_none
theorem xOk_ite {c : Prop} [Decidable c] {t t' e e' : Option xN} (h1 : xOk t t') (h2 : xOk e e') : xOk (if c then t else e) (if c then t' else e') := by
  split
  · exact h1
  · exact h2
set_option maxHeartbeats 1000000 in
theorem xs_le {sc : xSc} {nL d g : Nat} {r : xRow} {pc : Nat} {a b : xL} {st : List Value} {A : List xC} (h : xLe a b) : xOk (xs sc nL d g r pc a st A) (xs sc nL d g r pc b st A) := by
  obtain ⟨i0, r0, r1, r2, r3, rv, rk, sw⟩ := r
  cases i0 <;> simp only [xs]
  all_goals repeat' first
    | exact xOk_none
    | exact xOk_ls h
    | exact xOk_ls (xLe_st1 h)
    | exact xOk_ls (xLe_st2 h)
    | refine xOk_i h fun x => ?_
    | refine xOk_l h fun x => ?_
    | refine xOk_a h fun x => ?_
    | refine xOk_xi1 fun x r => ?_
    | refine xOk_xi2 fun x y r => ?_
    | refine xOk_xl1 fun x r => ?_
    | refine xOk_xl2 fun x y r => ?_
    | refine xOk_xli fun x y r => ?_
    | refine xOk_xr1 fun x r => ?_
    | refine xOk_xri fun x y r => ?_
    | refine xOk_xarI fun x y => ?_
    | refine xOk_xarL fun x y => ?_
    | refine xOk_xob fun x => ?_
    | refine xOk_ite ?_ ?_
    | split
theorem xr_le_ls {sc : xSc} : ∀ {n d mi pc : Nat} {a b : xL} {st : List Value} {h : xH} {r : xO × xH}, xLe a b → xr sc n d mi pc a st h = some r → xr sc n d mi pc b st h = some r
  | 0, _, _, _, _, _, _, _, _, _, hr => by cases hr
  | n + 1, d, mi, pc, a, b, st, h, r, hl, hr => by
    rw [xr_eq] at hr ⊢
    unfold xstep at hr ⊢
    cases hrow : xrow mi pc with
    | none =>
      rw [hrow] at hr
      cases hr
    | some r0 =>
      rw [hrow] at hr
      dsimp only at hr ⊢
      generalize xkd r0 = kk at hr ⊢
      match kk, hr with
      | 0, hr =>
        cases hq : xs sc (xme mi).2.2.1 d h.2 r0 pc a st h.1 with
        | none =>
          rw [hq] at hr
          cases hr
        | some q =>
          rw [hq] at hr
          obtain ⟨ls', e1, e2⟩ := xs_le hl q hq
          rw [e1]
          exact xr_le_ls e2 hr
      | 1, hr => exact hr
      | 2, hr =>
        match d, hr with
        | 0, hr => exact hr
        | d' + 1, hr =>
          dsimp only at hr ⊢
          cases hq : xcall r0 st h.1 with
          | none =>
            rw [hq] at hr
            cases hr
          | some q =>
            rw [hq] at hr
            dsimp only at hr ⊢
            cases hc : xr sc n d' r0.2.2.1 0 (lv_args 0 q.1) [] h with
            | none =>
              rw [hc] at hr
              cases hr
            | some z =>
              rw [hc] at hr
              obtain ⟨o, h1⟩ := z
              cases o with
              | inl v => exact xr_le_ls hl hr
              | inr ev =>
                dsimp only at hr ⊢
                cases ht : xhnd mi pc ev with
                | none =>
                  rw [ht] at hr
                  cases hr
                | some t =>
                  rw [ht] at hr
                  exact xr_le_ls (xLe_filter _ hl) hr
      | 3, hr => exact hr
      | 4, hr =>
        match d, hr with
        | d' + 8, hr => exact xr_le_ls hl hr
        | 0, hr => cases hr
        | 1, hr => cases hr
        | 2, hr => cases hr
        | 3, hr => cases hr
        | 4, hr => cases hr
        | 5, hr => cases hr
        | 6, hr => cases hr
        | 7, hr => cases hr
      | k + 5, hr => exact hr
theorem xlk_app {i : Nat} {v : Value} {ex : xL} : ∀ {l : xL}, xlk i l = some v → xlk i (l ++ ex) = some v
  | [], h => by cases h
  | q :: r, h => by
    rw [List.cons_append]
    unfold xlk at h ⊢
    split
    next hq =>
      rw [if_pos hq] at h
      exact h
    next hq =>
      rw [if_neg hq] at h
      exact xlk_app h
def ndB : List Nat → Bool
  | [] => true
  | a :: l => (l.all fun x => !(Nat.beq x a)) && ndB l
theorem ndB_nd : ∀ {l : List Nat}, ndB l = true → l.Nodup
  | [], _ => List.nodup_nil
  | a :: l, h => by
    unfold ndB at h
    rw [Bool.and_eq_true] at h
    refine List.nodup_cons.mpr ⟨fun hm => ?_, ndB_nd h.2⟩
    have := List.all_eq_true.mp h.1 a hm
    simp at this
/-- more locals do no harm -/
theorem xP_more {sc : xSc} {d mi pc : Nat} {ls : xL} {st : List Value} {h : xH} {P : xO → xH → Prop} (ex : xL) (hb : ndB ((ls ++ ex).map Prod.fst) = true) (k : xP sc d mi pc ls st h P) : xP sc d mi pc (ls ++ ex) st h P := by
  have hn := ndB_nd hb
  obtain ⟨n, o, h', e, hp⟩ := k
  refine ⟨n, o, h', xr_le_ls ⟨?_, hn, fun i v => xlk_app⟩ e, hp⟩
  unfold kNd
  rw [List.map_append] at hn
  exact (List.nodup_append.mp hn).1
end
section
-- the text taken apart: what a token is
/-- the character at a place of what is left, or -1 -/
def oc (s : List Nat) (k : Nat) : Int32 := match s[k]? with
  | some c => nI c
  | none => -1
theorem cAt_sfx {t s : List Nat} {p k : Nat} (h : t.drop p = s) (hk : p + k < 2 ^ 31) : cAt t (nI (p + k)) = oc s k := by
  subst h
  unfold oc
  rw [List.getElem?_drop]
  cases hx : t[p + k]? with
  | none => exact cAt_off hk hx
  | some c => exact cAt_get hk hx
theorem cAt_sfx0 {t s : List Nat} {p : Nat} (h : t.drop p = s) (hk : p < 2 ^ 31) : cAt t (nI p) = oc s 0 := cAt_sfx (k := 0) h hk
theorem oc_nil (k : Nat) : oc [] k = -1 := rfl
theorem oc_0 (c : Nat) (r : List Nat) : oc (c :: r) 0 = nI c := rfl
theorem oc_s (c : Nat) (r : List Nat) (k : Nat) : oc (c :: r) (k + 1) = oc r k := rfl
theorem drop_s {t r : List Nat} {p c : Nat} (h : t.drop p = c :: r) : t.drop (p + 1) = r ∧ p < t.length := by
  constructor
  · rw [← List.drop_drop, h]
    rfl
  · rcases Nat.lt_or_ge p t.length with q | q
    · exact q
    · rw [List.drop_eq_nil_of_le q] at h
      cases h
theorem drop_len {t s : List Nat} {p : Nat} (h : t.drop p = s) (hp : p ≤ t.length) : p = t.length - s.length := by
  rw [← h, List.length_drop]
  omega
theorem drop_n {t : List Nat} {p : Nat} (h : t.drop p = []) (hp : p ≤ t.length) : p = t.length := by
  have := drop_len h hp
  simpa using this
/-- behind the end of a comment -/
def incom : List Nat → Option (List Nat)
  | [] => none
  | c :: r => if c = 42 ∧ r.head? = some 47 then some r.tail else incom r
theorem incom_len : ∀ {s r : List Nat}, incom s = some r → r.length + 2 ≤ s.length
  | [], r, h => by cases h
  | c :: s, r, h => by
    unfold incom at h
    split at h
    next hc =>
      cases s with
      | nil => simp at hc
      | cons d s =>
        cases h
        simp
    next =>
      have := incom_len h
      simp
      omega
theorem incom_sfx : ∀ {s r : List Nat}, incom s = some r → ∃ w, s = w ++ r
  | [], r, h => by cases h
  | c :: s, r, h => by
    unfold incom at h
    split at h
    next hc =>
      cases s with
      | nil => simp at hc
      | cons d s =>
        cases h
        exact ⟨[c, d], rfl⟩
    next =>
      obtain ⟨w, e⟩ := incom_sfx h
      exact ⟨c :: w, by rw [e]; rfl⟩
theorem oc_c {s : List Nat} {k : Nat} (x : Nat) (hs : ∀ c ∈ s, c < 128) : (oc s k).toInt = x ↔ s[k]? = some x := by
  unfold oc
  cases h : s[k]? with
  | none =>
    constructor
    · intro h
      exfalso
      have : (-1 : Int32).toInt = -1 := rfl
      dsimp only at h
      omega
    · intro h
      cases h
  | some c =>
    have := hs c (List.mem_of_getElem? h)
    simp only [nI_toInt (show c < 2 ^ 31 by omega), Option.some.injEq]
    omega
set_option maxRecDepth 100000 in
theorem p_behindCommentLoop {sc : xSc} {d g u p v : Nat} {A : List xC} {G : xG} {t : List Nat} {P : xO → xH → Prop} {y : Int32} (ht : xTk A u p v G) (hs : xRw A 1 120 t) : ∀ (s : List Nat) (i : Nat), t.drop i = s → i ≤ t.length → P (.inl (some (.int (match incom s with | some r => nI (t.length - r.length) | none => -1)))) (A, g) →
    xP sc (d + 1) 98 2 [(0, .ref 18), (1, .int y), (2, .int (nI i))] [] (A, g) P
  | [], i, hd, hi, k => by
    have h18 := ht.2.1
    have hl := hs.len
    have e := drop_n hd hi
    have hI : (nI i).toInt = (i : Int) := nI_toInt (by omega)
    have hL : (nI t.length).toInt = (t.length : Int) := nI_toInt (by omega)
    refine xP_s rfl rfl rfl ?_
    refine xP_s rfl rfl rfl ?_
    refine xP_get rfl h18 rfl ?_
    refine xP_cv rfl rfl rfl rfl rfl hs.obj (p_length hs ?_)
    refine xP_s rfl rfl rfl ?_
    refine xP_if (fun hc => ?_) (fun hc => ?_)
    · repeat' first
        | refine xP_s rfl rfl rfl ?_
        | refine xP_ret rfl rfl rfl ?_
      exact k
    · have := xc_f hc
      dsimp only at this
      omega
  | c :: r, i, hd, hi, k => by
    have h18 := ht.2.1
    have hl := hs.len
    obtain ⟨hd1, hlt⟩ := drop_s hd
    have hI : (nI i).toInt = (i : Int) := nI_toInt (by omega)
    have hL : (nI t.length).toInt = (t.length : Int) := nI_toInt (by omega)
    have hch : ∀ x ∈ c :: r, x < 128 := fun x hx => hs.chr x (List.mem_of_mem_drop (hd ▸ hx))
    have hc128 := hch c List.mem_cons_self
    have hC : (nI c).toInt = (c : Int) := nI_toInt (by omega)
    have h42 : (42 : Int32).toInt = 42 := rfl
    have h47 : (47 : Int32).toInt = 47 := rfl
    have o1 : (oc r 0).toInt = 47 ↔ r[0]? = some 47 := oc_c 47 (fun x hx => hch x (List.mem_cons_of_mem _ hx))
    unfold incom at k
    have go := p_behindCommentLoop (sc := sc) (d := d) (g := g) (P := P) (y := y) ht hs r (i + 1) hd1 (by omega)
    rw [← nI_1] at go
    refine xP_s rfl rfl rfl ?_
    refine xP_s rfl rfl rfl ?_
    refine xP_get rfl h18 rfl ?_
    refine xP_cv rfl rfl rfl rfl rfl hs.obj (p_length hs ?_)
    refine xP_s rfl rfl rfl ?_
    refine xP_if (fun hc => ?_) (fun hc => ?_)
    · have := xc_t hc
      dsimp only at this
      omega
    · refine xP_s rfl rfl rfl ?_
      refine xP_get rfl h18 rfl ?_
      refine xP_s rfl rfl rfl ?_
      refine xP_cv rfl rfl rfl rfl rfl hs.obj (p_at hs (by decide) (by decide) ?_)
      rw [cAt_sfx0 hd (by omega), oc_0]
      refine xP_s rfl rfl rfl ?_
      refine xP_s rfl rfl rfl ?_
      refine xP_if (fun hc => ?_) (fun hc => ?_)
      · have h1 := xc_t hc
        dsimp only at h1
        rw [if_neg (by omega)] at k
        have go := go k
        repeat' first
          | exact go
          | refine xP_s rfl rfl rfl ?_
      · have h1 := xc_f hc
        dsimp only at h1
        refine xP_s rfl rfl rfl ?_
        refine xP_get rfl h18 rfl ?_
        refine xP_s rfl rfl rfl ?_
        refine xP_s rfl rfl rfl ?_
        refine xP_s rfl rfl rfl ?_
        rw [nI_1]
        refine xP_cv rfl rfl rfl rfl rfl hs.obj (p_at hs (by decide) (by decide) ?_)
        rw [cAt_sfx0 hd1 (by omega)]
        refine xP_s rfl rfl rfl ?_
        refine xP_s rfl rfl rfl ?_
        refine xP_if (fun hc => ?_) (fun hc => ?_)
        · have h2 := xc_t hc
          dsimp only at h2
          rw [h47, o1, ← List.head?_eq_getElem?] at h2
          rw [if_neg (fun q => h2 q.2)] at k
          have go := go k
          repeat' first
            | exact go
            | refine xP_s rfl rfl rfl ?_
        · have h2 := xc_f hc
          dsimp only at h2
          rw [h47, o1, ← List.head?_eq_getElem?] at h2
          rw [if_pos ⟨by omega, h2⟩] at k
          repeat' first
            | refine xP_s rfl rfl rfl ?_
            | refine xP_ret rfl rfl rfl ?_
          dsimp only at k
          rw [show nI i + 2 = nI (t.length - r.tail.length) by
            rw [show nI i + 2 = nI (i + 2) from nI_add i 2]
            cases r with
            | nil => cases h2
            | cons x r =>
              have e := drop_len (drop_s hd1).1 (by have := (drop_s hd1).2; omega)
              rw [List.tail_cons, ← e]]
          exact k
set_option maxRecDepth 100000 in
theorem p_behindComment {sc : xSc} {d g u p v i : Nat} {A : List xC} {G : xG} {t s : List Nat} {P : xO → xH → Prop} (ht : xTk A u p v G) (hs : xRw A 1 120 t) (hd : t.drop i = s) (hi : i ≤ t.length) (k : P (.inl (some (.int (match incom s with | some r => nI (t.length - r.length) | none => -1)))) (A, g)) : xM1 sc (d + 1) 98 [.ref 18, .int (nI i)] (A, g) P := by
  unfold xM1
  refine xP_s rfl rfl rfl ?_
  refine xP_s rfl rfl rfl ?_
  exact p_behindCommentLoop ht hs s i hd hi k
/-- behind layout -/
def lay : Nat → List Nat → Option (List Nat)
  | 0, s => some s
  | _ + 1, [] => some []
  | n + 1, c :: r => if c = 32 then lay n r else if c = 37 then lay n [] else if c = 47 ∧ r.head? = some 42 then (match incom r.tail with
    | some z => lay n z
    | none => none) else some (c :: r)
theorem lay_nil : ∀ n, lay n [] = some []
  | 0 => rfl
  | _ + 1 => rfl
theorem lay_len : ∀ {n : Nat} {s r : List Nat}, lay n s = some r → ∃ w, s = w ++ r
  | 0, s, r, h => by
    cases h
    exact ⟨[], rfl⟩
  | n + 1, [], r, h => by
    cases h
    exact ⟨[], rfl⟩
  | n + 1, c :: s, r, h => by
    unfold lay at h
    split at h
    · obtain ⟨w, e⟩ := lay_len h
      exact ⟨c :: w, by rw [e]; rfl⟩
    · split at h
      · rw [lay_nil] at h
        cases h
        exact ⟨c :: s, by simp⟩
      · split at h
        next hc =>
          cases hz : incom s.tail with
          | none =>
            rw [hz] at h
            cases h
          | some z =>
            rw [hz] at h
            obtain ⟨w, e⟩ := lay_len h
            obtain ⟨w2, e2⟩ := incom_sfx hz
            cases s with
            | nil => simp at hc
            | cons d s =>
              rw [List.tail_cons] at e2
              exact ⟨c :: d :: (w2 ++ w), by rw [e2, e]; simp⟩
        next =>
          cases h
          exact ⟨[], rfl⟩
theorem sfx_drop {t s w r : List Nat} {p : Nat} (h : t.drop p = s) (hp : p ≤ t.length) (e : s = w ++ r) : t.drop (t.length - r.length) = r ∧ p ≤ t.length - r.length ∧ t.length - r.length ≤ t.length := by
  have hl : s.length = t.length - p := by rw [← h, List.length_drop]
  have hl2 : s.length = w.length + r.length := by rw [e, List.length_append]
  refine ⟨?_, by omega, by omega⟩
  have : t.length - r.length = p + w.length := by omega
  rw [this, ← List.drop_drop, h, e, List.drop_left]
set_option maxRecDepth 100000 in
theorem p_skipLoop {sc : xSc} {d g u v : Nat} {t : List Nat} {P : xO → xH → Prop} {G : xG} : ∀ (m i p : Nat) (A : List xC) (s : List Nat), i + m = 121 → xTk A u p v G → xRw A 1 120 t → t.drop p = s → p ≤ t.length →
    (∀ A' p', (match lay m s with | some r => xTk A' u (t.length - r.length) v G | none => xTk A' u p' v G) → xSame A A' [18] → P (.inl (some (.int (xb (lay m s).isSome)))) (A', g)) →
    xP sc (d + 2) 97 2 [(0, .ref 18), (1, .int (nI i))] [] (A, g) P
  | 0, i, p, A, s, hm, ht, hs, hd, hp, k => by
    have hI : (nI i).toInt = (i : Int) := nI_toInt (by omega)
    have h120 : (120 : Int32).toInt = 120 := rfl
    refine xP_s rfl rfl rfl ?_
    refine xP_s rfl rfl rfl ?_
    refine xP_s rfl rfl rfl ?_
    refine xP_if (fun hc => ?_) (fun hc => ?_)
    · repeat' first
        | refine xP_s rfl rfl rfl ?_
        | refine xP_ret rfl rfl rfl ?_
      refine k A p ?_ (xSame.refl _ _)
      show xTk A u (t.length - s.length) v G
      rw [← drop_len hd hp]
      exact ht
    · have := xc_f hc
      dsimp only at this
      omega
  | m + 1, i, p, A, s, hm, ht, hs, hd, hp, k => by
    have h18 := ht.2.1
    have hl := hs.len
    have hI : (nI i).toInt = (i : Int) := nI_toInt (by omega)
    have h120 : (120 : Int32).toInt = 120 := rfl
    have h32 : (32 : Int32).toInt = 32 := rfl
    have h37 : (37 : Int32).toInt = 37 := rfl
    have h47 : (47 : Int32).toInt = 47 := rfl
    have h42 : (42 : Int32).toInt = 42 := rfl
    have next : ∀ (p' : Nat) (s' : List Nat) (x : Int32) (ex : xL), (ex = [(2, .int x)] ∨ ∃ y, ex = [(2, .int x), (3, .int y)]) → lay (m + 1) s = lay m s' → t.drop p' = s' → p' ≤ t.length → xP sc (d + 2) 97 111 ([(0, .ref 18), (1, .int (nI i))] ++ ex) [] (A.set 18 (.inr (5, [.ref 1, .ref 5, .ref 19, .ref 20, .ref 21, .ref 22, .ref 23, .ref 24, .int (nI u), .int (nI p'), .int (nI v)])), g) P := by
      intro p' s' x ex hex he hd' hp'
      have go := p_skipLoop (sc := sc) (d := d) (g := g) (P := P) (G := G) m (i + 1) p' _ s' (by omega) (ht.setO (u' := u) (p' := p') (v' := v) ht.1) (hs.same (xSame.set 18 _) (by decide) (by decide)) hd' hp' (fun A' q' z1 z2 => by
        rw [he] at k
        exact k A' q' z1 (((xSame.set _ _).trans z2).wide (by decide)))
      rw [← nI_1] at go
      rcases hex with rfl | ⟨y, rfl⟩
      · have go2 := xP_more [(2, .int x)] rfl go
        repeat' first
          | exact go2
          | refine xP_s rfl rfl rfl ?_
      · have go2 := xP_more [(2, .int x), (3, .int y)] rfl go
        repeat' first
          | exact go2
          | refine xP_s rfl rfl rfl ?_
    refine xP_s rfl rfl rfl ?_
    refine xP_s rfl rfl rfl ?_
    refine xP_s rfl rfl rfl ?_
    refine xP_if (fun hc => ?_) (fun hc => ?_)
    · have := xc_t hc
      dsimp only at this
      omega
    · refine xP_s rfl rfl rfl ?_
      refine xP_get rfl h18 rfl ?_
      refine xP_s rfl rfl rfl ?_
      refine xP_get rfl h18 rfl ?_
      refine xP_cv rfl rfl rfl rfl rfl hs.obj (p_at hs (by decide) (by decide) ?_)
      rw [cAt_sfx0 hd (by omega)]
      cases s with
      | nil =>
        have e : t.length - ([] : List Nat).length = p := (drop_len hd hp).symm
        repeat' first
          | refine xP_s rfl rfl rfl ?_
          | refine xP_ret rfl rfl rfl ?_
        refine k A p ?_ (xSame.refl _ _)
        show xTk A u (t.length - ([] : List Nat).length) v G
        rw [e]
        exact ht
      | cons c r =>
        obtain ⟨hd1, hlt⟩ := drop_s hd
        have hch : ∀ x ∈ c :: r, x < 128 := fun x hx => hs.chr x (List.mem_of_mem_drop (hd ▸ hx))
        have hc128 := hch c List.mem_cons_self
        have hC : (nI c).toInt = (c : Int) := nI_toInt (by omega)
        have o1 : (oc r 0).toInt = 42 ↔ r[0]? = some 42 := oc_c 42 (fun x hx => hch x (List.mem_cons_of_mem _ hx))
        have stay : ¬ c = 32 → ¬ c = 37 → ¬ (c = 47 ∧ r.head? = some 42) → P (.inl (some (.int 1))) (A, g) := by
          intro n1 n2 n3
          have e : lay (m + 1) (c :: r) = some (c :: r) := by
            unfold lay
            rw [if_neg n1, if_neg n2, if_neg n3]
          rw [e] at k
          refine k A p ?_ (xSame.refl _ _)
          show xTk A u (t.length - (c :: r).length) v G
          rw [← drop_len hd hp]
          exact ht
        rw [oc_0]
        refine xP_s rfl rfl rfl ?_
        refine xP_s rfl rfl rfl ?_
        refine xP_s rfl rfl rfl ?_
        refine xP_s rfl rfl rfl ?_
        refine xP_if (fun hc => ?_) (fun hc => ?_)
        · have n32 := xc_t hc
          dsimp only at n32
          refine xP_s rfl rfl rfl ?_
          refine xP_s rfl rfl rfl ?_
          refine xP_s rfl rfl rfl ?_
          refine xP_if (fun hc => ?_) (fun hc => ?_)
          · have n37 := xc_t hc
            dsimp only at n37
            refine xP_s rfl rfl rfl ?_
            refine xP_s rfl rfl rfl ?_
            refine xP_s rfl rfl rfl ?_
            refine xP_if (fun hc => ?_) (fun hc => ?_)
            · have n47 := xc_t hc
              dsimp only at n47
              repeat' first
                | refine xP_s rfl rfl rfl ?_
                | refine xP_ret rfl rfl rfl ?_
              exact stay (by omega) (by omega) (by omega)
            · have n47 := xc_f hc
              dsimp only at n47
              refine xP_s rfl rfl rfl ?_
              refine xP_get rfl h18 rfl ?_
              refine xP_s rfl rfl rfl ?_
              refine xP_get rfl h18 rfl ?_
              refine xP_s rfl rfl rfl ?_
              refine xP_s rfl rfl rfl ?_
              rw [nI_1]
              refine xP_cv rfl rfl rfl rfl rfl hs.obj (p_at hs (by decide) (by decide) ?_)
              rw [cAt_sfx0 hd1 (by omega)]
              refine xP_s rfl rfl rfl ?_
              refine xP_s rfl rfl rfl ?_
              refine xP_if (fun hc => ?_) (fun hc => ?_)
              · have n42 := xc_t hc
                dsimp only at n42
                rw [h42, o1, ← List.head?_eq_getElem?] at n42
                repeat' first
                  | refine xP_s rfl rfl rfl ?_
                  | refine xP_ret rfl rfl rfl ?_
                exact stay (by omega) (by omega) (fun q => n42 q.2)
              · have n42 := xc_f hc
                dsimp only at n42
                rw [h42, o1, ← List.head?_eq_getElem?] at n42
                cases r with
                | nil => cases n42
                | cons c2 r =>
                  obtain ⟨hd2, hlt2⟩ := drop_s hd1
                  have e : lay (m + 1) (c :: c2 :: r) = (match incom r with | some z => lay m z | none => none) := by
                    conv => lhs; unfold lay
                    rw [if_neg (by omega), if_neg (by omega), if_pos ⟨by omega, n42⟩]
                    rfl
                  refine xP_s rfl rfl rfl ?_
                  refine xP_s rfl rfl rfl ?_
                  refine xP_get rfl h18 rfl ?_
                  refine xP_s rfl rfl rfl ?_
                  refine xP_s rfl rfl rfl ?_
                  rw [show nI p + 2 = nI (p + 2) from nI_add p 2]
                  refine xP_cv rfl rfl rfl rfl rfl h18 (p_behindComment ht hs hd2 (by omega) ?_)
                  cases hz : incom r with
                  | none =>
                    rw [e, hz] at k
                    repeat' first
                      | refine xP_s rfl rfl rfl ?_
                      | refine xP_ret rfl rfl rfl ?_
                    exact k A p ht (xSame.refl _ _)
                  | some z =>
                    rw [hz] at e
                    dsimp only at e ⊢
                    obtain ⟨w, hw⟩ := incom_sfx hz
                    obtain ⟨w1, w2, w3⟩ := sfx_drop hd2 (by omega) hw
                    refine xP_s rfl rfl rfl ?_
                    refine xP_s rfl rfl rfl ?_
                    refine xP_s rfl rfl rfl ?_
                    refine xP_s rfl rfl rfl ?_
                    refine xP_if (fun hc => ?_) (fun hc => ?_)
                    · refine xP_s rfl rfl rfl ?_
                      refine xP_s rfl rfl rfl ?_
                      refine xP_put rfl h18 (Nat.le_of_ble_eq_true rfl) rfl ?_
                      have nx := next (t.length - z.length) z (nI c) [(2, .int (nI c)), (3, .int (nI (t.length - z.length)))] (Or.inr ⟨_, rfl⟩) e w1 w3
                      repeat' first
                        | exact nx
                        | refine xP_s rfl rfl rfl ?_
                    · exact absurd (xc_f hc) (nI_neg1 (by omega))
          · have n37 := xc_f hc
            dsimp only at n37
            have e : lay (m + 1) (c :: r) = lay m [] := by
              conv => lhs; unfold lay
              rw [if_neg (by omega), if_pos (by omega)]
            refine xP_s rfl rfl rfl ?_
            refine xP_s rfl rfl rfl ?_
            refine xP_get rfl h18 rfl ?_
            refine xP_cv rfl rfl rfl rfl rfl hs.obj (p_length hs ?_)
            refine xP_put rfl h18 (Nat.le_of_ble_eq_true rfl) rfl ?_
            have nx := next t.length [] (nI c) [(2, .int (nI c))] (Or.inl rfl) e (List.drop_eq_nil_of_le (Nat.le_refl _)) (Nat.le_refl _)
            repeat' first
              | exact nx
              | refine xP_s rfl rfl rfl ?_
        · have n32 := xc_f hc
          dsimp only at n32
          have e : lay (m + 1) (c :: r) = lay m r := by
            conv => lhs; unfold lay
            rw [if_pos (by omega)]
          refine xP_s rfl rfl rfl ?_
          refine xP_s rfl rfl rfl ?_
          refine xP_get rfl h18 rfl ?_
          refine xP_s rfl rfl rfl ?_
          refine xP_s rfl rfl rfl ?_
          refine xP_put rfl h18 (Nat.le_of_ble_eq_true rfl) rfl ?_
          have nx := next (p + 1) r (nI c) [(2, .int (nI c))] (Or.inl rfl) e hd1 (by omega)
          rw [← nI_1] at nx
          repeat' first
            | exact nx
            | refine xP_s rfl rfl rfl ?_
set_option maxRecDepth 100000 in
theorem p_skipLayout {sc : xSc} {d g u v p : Nat} {t s : List Nat} {A : List xC} {P : xO → xH → Prop} {G : xG} (ht : xTk A u p v G) (hs : xRw A 1 120 t) (hd : t.drop p = s) (hp : p ≤ t.length)
    (k : ∀ A' p', (match lay 121 s with | some r => xTk A' u (t.length - r.length) v G | none => xTk A' u p' v G) → xSame A A' [18] → P (.inl (some (.int (xb (lay 121 s).isSome)))) (A', g)) : xM1 sc (d + 2) 97 [.ref 18] (A, g) P := by
  unfold xM1
  refine xP_s rfl rfl rfl ?_
  refine xP_s rfl rfl rfl ?_
  exact p_skipLoop 121 0 p A s rfl ht hs hd hp k
end
section
-- rows of characters; names
abbrev xTn (G : xG) (u : Nat) (x1 : Int32) (p e : Nat) (x4 x5 : Int32) (key : Int64) : xG := (upd G.1 u x1, upd G.2.1 u (nI p), upd G.2.2.1 u (nI e), upd G.2.2.2.1 u x4, upd G.2.2.2.2.1 u x5, vp_updL G.2.2.2.2.2 u key)
theorem p_isWordN {sc : xSc} {d g c : Nat} {A : List xC} {b : Bool} {P : xO → xH → Prop} (hb : isWd c = b) (hc : c < 2 ^ 31) (k : P (.inl (some (.int (xb b)))) (A, g)) : xM1 sc (d + 1) 204 [.int (nI c)] (A, g) P := by
  refine p_isWord ?_
  rw [isW_nI hc, hb]
  exact k
def spf (b : Bool) : Nat → Bool := if b then isSg else isWd
set_option maxRecDepth 100000 in
theorem p_behindRowLoop {sc : xSc} {d g u p v : Nat} {A : List xC} {G : xG} {t : List Nat} {b : Bool} {P : xO → xH → Prop} (ht : xTk A u p v G) (hs : xRw A 1 120 t) : ∀ (s : List Nat) (i : Nat), t.drop i = s → i ≤ t.length → P (.inl (some (.int (nI (t.length - (s.dropWhile (spf b)).length))))) (A, g) →
    xP sc (d + 2) 101 5 [(0, .ref 18), (1, .int (xb b)), (2, .int (nI i))] [] (A, g) P
  | [], i, hd, hi, k => by
    have h18 := ht.2.1
    have hl := hs.len
    have e := drop_n hd hi
    have hI : (nI i).toInt = (i : Int) := nI_toInt (by omega)
    have hL : (nI t.length).toInt = (t.length : Int) := nI_toInt (by omega)
    refine xP_s rfl rfl rfl ?_
    refine xP_s rfl rfl rfl ?_
    refine xP_get rfl h18 rfl ?_
    refine xP_cv rfl rfl rfl rfl rfl hs.obj (p_length hs ?_)
    refine xP_s rfl rfl rfl ?_
    refine xP_if (fun hc => ?_) (fun hc => ?_)
    · repeat' first
        | refine xP_s rfl rfl rfl ?_
        | refine xP_get rfl h18 rfl ?_
        | refine xP_cv rfl rfl rfl rfl rfl hs.obj (p_length hs ?_)
        | refine xP_ret rfl rfl rfl ?_
      exact k
    · have := xc_f hc
      dsimp only at this
      omega
  | c :: r, i, hd, hi, k => by
    have h18 := ht.2.1
    have hl := hs.len
    obtain ⟨hd1, hlt⟩ := drop_s hd
    have hI : (nI i).toInt = (i : Int) := nI_toInt (by omega)
    have hL : (nI t.length).toInt = (t.length : Int) := nI_toInt (by omega)
    have hc128 : c < 128 := hs.chr c (List.mem_of_mem_drop (hd ▸ List.mem_cons_self))
    have go := p_behindRowLoop (sc := sc) (d := d) (g := g) (b := b) (P := P) ht hs r (i + 1) hd1 (by omega)
    rw [← nI_1] at go
    refine xP_s rfl rfl rfl ?_
    refine xP_s rfl rfl rfl ?_
    refine xP_get rfl h18 rfl ?_
    refine xP_cv rfl rfl rfl rfl rfl hs.obj (p_length hs ?_)
    refine xP_s rfl rfl rfl ?_
    refine xP_if (fun hc => ?_) (fun hc => ?_)
    · have := xc_t hc
      dsimp only at this
      omega
    · refine xP_s rfl rfl rfl ?_
      refine xP_get rfl h18 rfl ?_
      refine xP_s rfl rfl rfl ?_
      refine xP_cv rfl rfl rfl rfl rfl hs.obj (p_at hs (by decide) (by decide) ?_)
      rw [cAt_sfx0 hd (by omega), oc_0]
      cases hf : spf b c
      · rw [List.dropWhile_cons_of_neg (by simp [hf]), ← drop_len hd hi] at k
        cases b
        · repeat' first
            | refine xP_s rfl rfl rfl ?_
            | refine xP_call rfl rfl rfl (p_isWordN (show isWd c = false from hf) (show c < 2 ^ 31 by omega) ?_)
            | refine xP_ret rfl rfl rfl ?_
          exact k
        · repeat' first
            | refine xP_s rfl rfl rfl ?_
            | refine xP_call rfl rfl rfl (p_isSignN (show isSg c = false from hf) (show c < 256 by omega) ?_)
            | refine xP_ret rfl rfl rfl ?_
          exact k
      · rw [List.dropWhile_cons_of_pos (by simp [hf])] at k
        have go := xP_more [(3, .int (nI c))] rfl (go k)
        cases b
        · repeat' first
            | exact go
            | refine xP_s rfl rfl rfl ?_
            | refine xP_call rfl rfl rfl (p_isWordN (show isWd c = true from hf) (show c < 2 ^ 31 by omega) ?_)
        · repeat' first
            | exact go
            | refine xP_s rfl rfl rfl ?_
            | refine xP_call rfl rfl rfl (p_isSignN (show isSg c = true from hf) (show c < 256 by omega) ?_)
set_option maxRecDepth 100000 in
theorem p_behindRow {sc : xSc} {d g u p v : Nat} {A : List xC} {G : xG} {t s : List Nat} {b : Bool} {P : xO → xH → Prop} (ht : xTk A u p v G) (hs : xRw A 1 120 t) (hd : t.drop p = s) (hp : p ≤ t.length) (k : P (.inl (some (.int (nI (t.length - (s.dropWhile (spf b)).length))))) (A, g)) : xM1 sc (d + 2) 101 [.ref 18, .int (xb b)] (A, g) P := by
  have h18 := ht.2.1
  have go := p_behindRowLoop (sc := sc) (d := d) (g := g) (b := b) (P := P) ht hs s p hd hp k
  unfold xM1
  repeat' first
    | exact go
    | refine xP_s rfl rfl rfl ?_
    | refine xP_get rfl h18 rfl ?_
set_option maxRecDepth 100000 in
theorem p_addName {sc : xSc} {d g u p v e : Nat} {A : List xC} {G : xG} {nm w : List Nat} {P : xO → xH → Prop} (ht : xTk A u p v G) (hn : xRw A 5 4926 (nm ++ w)) (hu : u < 120)
    (k0 : 24 < w.length → P (.inl (some (.int 0))) (A, g))
    (k : w.length ≤ 24 → ∀ A', xTk A' (u + 1) e v (xTn G u 1 p e (nI nm.length) (nI w.length) (kL w)) → xSame A A' [18, 19, 20, 21, 22, 23, 24] → P (.inl (some (.int 1))) (A', g)) : xM1 sc (d + 2) 104 [.ref 18, .int (nI nm.length), .int (nI e)] (A, g) P := by
  have h18 := ht.2.1
  have hl := hn.len
  rw [List.length_append] at hl
  have h24 : (24 : Int32).toInt = 24 := rfl
  have e1 : nI (nm ++ w).length - nI nm.length = nI w.length := by
    rw [List.length_append, ← nI_add, Int32.add_comm]
    exact Int32.add_sub_cancel _ _
  have hW : (nI w.length).toInt = (w.length : Int) := nI_toInt (by omega)
  unfold xM1
  refine xP_s rfl rfl rfl ?_
  refine xP_get rfl h18 rfl ?_
  refine xP_cv rfl rfl rfl rfl rfl hn.obj (p_length hn ?_)
  refine xP_s rfl rfl rfl ?_
  refine xP_s rfl rfl rfl ?_
  rw [e1]
  refine xP_s rfl rfl rfl ?_
  refine xP_s rfl rfl rfl ?_
  refine xP_s rfl rfl rfl ?_
  refine xP_s rfl rfl rfl ?_
  refine xP_if (fun hc => ?_) (fun hc => ?_)
  · have := xc_t hc
    dsimp only at this
    repeat' first
      | refine xP_s rfl rfl rfl ?_
      | refine xP_ret rfl rfl rfl ?_
    exact k0 (by omega)
  · have := xc_f hc
    dsimp only at this
    refine xP_s rfl rfl rfl ?_
    refine xP_s rfl rfl rfl ?_
    refine xP_s rfl rfl rfl ?_
    refine xP_s rfl rfl rfl ?_
    refine xP_s rfl rfl rfl ?_
    refine xP_s rfl rfl rfl ?_
    refine xP_get rfl h18 rfl ?_
    refine xP_s rfl rfl rfl ?_
    refine xP_s rfl rfl rfl ?_
    refine xP_call rfl rfl rfl (p_ofRow (l := w) hn (by decide) (by decide) rfl (by simp) (fun i c hi => by
      rw [List.getElem?_append_right (by omega)]
      simpa using hi) ?_)
    refine xP_cv rfl rfl rfl rfl rfl h18 (p_tadd ht hu (fun A' h1 h2 => ?_))
    repeat' first
      | refine xP_s rfl rfl rfl ?_
      | refine xP_ret rfl rfl rfl ?_
    exact k (by omega) A' h1 h2
set_option maxRecDepth 100000 in
theorem p_addPlainLoop {sc : xSc} {d g u p v e z : Nat} {G : xG} {t nm : List Nat} {P : xO → xH → Prop} (he : e ≤ t.length) (hz : z = nm.length) : ∀ (m i : Nat) (A : List xC) (w : List Nat), i + m = e → xTk A u p v G → xRw A 1 120 t → xRw A 5 4926 (nm ++ w) → nm.length + w.length + m ≤ 4926 →
    (∀ A', xTk A' u p v G → xRw A' 1 120 t → xRw A' 5 4926 (nm ++ (w ++ (t.drop i).take m)) → xSame A A' [5, 6] → xP sc (d + 1) 103 50 [(0, .ref 18), (1, .int (nI e)), (2, .int (nI z)), (3, .int (nI e))] [] (A', g) P) →
    xP sc (d + 1) 103 13 [(0, .ref 18), (1, .int (nI e)), (2, .int (nI z)), (3, .int (nI i))] [] (A, g) P
  | 0, i, A, w, hm, ht, hs, hn, hr, k => by
    have hl := hs.len
    have hI : (nI i).toInt = (i : Int) := nI_toInt (by omega)
    have ei : i = e := by omega
    subst ei
    refine xP_s rfl rfl rfl ?_
    refine xP_s rfl rfl rfl ?_
    refine xP_s rfl rfl rfl ?_
    refine xP_if (fun hc => ?_) (fun hc => ?_)
    · exact k A ht hs (by simpa using hn) (xSame.refl _ _)
    · have := xc_f hc
      dsimp only at this
      omega
  | m + 1, i, A, w, hm, ht, hs, hn, hr, k => by
    have h18 := ht.2.1
    have hl := hs.len
    have hI : (nI i).toInt = (i : Int) := nI_toInt (by omega)
    have hE : (nI e).toInt = (e : Int) := nI_toInt (by omega)
    have hL : (nI t.length).toInt = (t.length : Int) := nI_toInt (by omega)
    obtain ⟨c, hc0⟩ : ∃ c, t[i]? = some c := ⟨t[i]'(by omega), List.getElem?_eq_getElem (by omega)⟩
    have hc128 : c < 128 := hs.chr c (List.mem_of_getElem? hc0)
    refine xP_s rfl rfl rfl ?_
    refine xP_s rfl rfl rfl ?_
    refine xP_s rfl rfl rfl ?_
    refine xP_if (fun hc => ?_) (fun hc => ?_)
    · have := xc_t hc
      dsimp only at this
      omega
    · refine xP_s rfl rfl rfl ?_
      refine xP_s rfl rfl rfl ?_
      refine xP_get rfl h18 rfl ?_
      refine xP_cv rfl rfl rfl rfl rfl hs.obj (p_length hs ?_)
      refine xP_s rfl rfl rfl ?_
      refine xP_if (fun hc => ?_) (fun hc => ?_)
      · have := xc_t hc
        dsimp only at this
        omega
      · refine xP_s rfl rfl rfl ?_
        refine xP_get rfl h18 rfl ?_
        refine xP_s rfl rfl rfl ?_
        refine xP_get rfl h18 rfl ?_
        refine xP_s rfl rfl rfl ?_
        refine xP_cv rfl rfl rfl rfl rfl hs.obj (p_at hs (by decide) (by decide) ?_)
        rw [cAt_get (by omega) hc0]
        refine xP_cv rfl rfl rfl rfl rfl hn.obj (p_add hn (by decide) (by decide) hc128 (by rw [List.length_append]; omega) (fun A1 h1 s1 => ?_))
        rw [List.append_assoc] at h1
        have go := p_addPlainLoop (sc := sc) (d := d) (g := g) (P := P) he hz m (i + 1) A1 (w ++ [c]) (by omega) (ht.same s1 (by decide)) (hs.same s1 (by decide) (by decide)) h1 (by rw [List.length_append, List.length_singleton]; omega) (fun A' q1 q2 q3 q4 => k A' q1 q2 (by
          rw [List.append_assoc] at q3
          have e2 : (t.drop i).take (m + 1) = [c] ++ (t.drop (i + 1)).take m := by
            have e3 : t.drop i = c :: t.drop (i + 1) := by
              rw [List.drop_eq_getElem_cons (by omega)]
              congr 1
              have := List.getElem?_eq_getElem (show i < t.length by omega)
              rw [this] at hc0
              exact Option.some.inj hc0
            rw [e3]
            rfl
          rw [e2]
          exact q3) ((s1.trans q4).wide (by decide)))
        rw [← nI_1] at go
        repeat' first
          | exact go
          | refine xP_s rfl rfl rfl ?_
set_option maxRecDepth 100000 in
theorem p_addPlainName {sc : xSc} {d g u p v e : Nat} {A : List xC} {G : xG} {t nm w : List Nat} {P : xO → xH → Prop} (ht : xTk A u p v G) (hs : xRw A 1 120 t) (hn : xRw A 5 4926 nm) (hu : u < 120) (hpe : p ≤ e) (he : e ≤ t.length) (hw : (t.drop p).take (e - p) = w) (hr : nm.length + (e - p) ≤ 4926)
    (k0 : 24 < w.length → ∀ A', xTk A' u p v G → xRw A' 5 4926 (nm ++ w) → xSame A A' [5, 6, 18, 19, 20, 21, 22, 23, 24] → P (.inl (some (.int 0))) (A', g))
    (k : w.length ≤ 24 → ∀ A', xTk A' (u + 1) e v (xTn G u 1 p e (nI nm.length) (nI w.length) (kL w)) → xRw A' 5 4926 (nm ++ w) → xSame A A' [5, 6, 18, 19, 20, 21, 22, 23, 24] → P (.inl (some (.int 1))) (A', g)) : xM1 sc (d + 3) 103 [.ref 18, .int (nI e)] (A, g) P := by
  have h18 := ht.2.1
  have go := p_addPlainLoop (sc := sc) (d := d + 2) (g := g) (P := P) (z := nm.length) he rfl (e - p) p A [] (by omega) ht hs (by simpa using hn) (by simp; omega) (fun A1 q1 q2 q3 q4 => by
    rw [List.nil_append, hw] at q3
    refine xP_s rfl rfl rfl ?_
    refine xP_s rfl rfl rfl ?_
    refine xP_s rfl rfl rfl ?_
    refine xP_cv rfl rfl rfl rfl rfl q1.2.1 (p_addName q1 q3 hu (fun hz => ?_) (fun hz A2 z1 z2 => ?_))
    · repeat' first
        | refine xP_s rfl rfl rfl ?_
        | refine xP_ret rfl rfl rfl ?_
      exact k0 hz A1 q1 q3 (q4.wide (by decide))
    · repeat' first
        | refine xP_s rfl rfl rfl ?_
        | refine xP_ret rfl rfl rfl ?_
      exact k hz A2 z1 (q3.same z2 (by decide) (by decide)) ((q4.trans z2).wide (by decide)))
  unfold xM1
  repeat' first
    | exact go
    | refine xP_s rfl rfl rfl ?_
    | refine xP_get rfl h18 rfl ?_
    | refine xP_cv rfl rfl rfl rfl rfl hn.obj (p_length hn ?_)
end
section
-- quoted names, ends, strings, digits
theorem nI_subN {a b : Nat} (h : b ≤ a) : nI a - nI b = nI (a - b) := by
  have : nI a = nI (a - b) + nI b := by rw [nI_add, Nat.sub_add_cancel h]
  rw [this, Int32.add_sub_cancel]
set_option maxRecDepth 100000 in
theorem p_isEnd {sc : xSc} {d g u p v e : Nat} {A : List xC} {G : xG} {t s s2 : List Nat} {b : Bool} {P : xO → xH → Prop} (ht : xTk A u p v G) (hs : xRw A 1 120 t) (hd : t.drop p = s) (hd2 : t.drop e = s2) (hpe : p ≤ e) (he : e ≤ t.length) (hb : b = true ↔ e = p + 1 ∧ (oc s 0).toInt = 46 ∧ ((oc s2 0).toInt = 32 ∨ (oc s2 0).toInt = 37 ∨ (oc s2 0).toInt = -1)) (k : P (.inl (some (.int (xb b)))) (A, g)) : xM1 sc (d + 1) 102 [.ref 18, .int (nI e)] (A, g) P := by
  have h18 := ht.2.1
  have hl := hs.len
  have h1 : (1 : Int32).toInt = 1 := rfl
  have h46 : (46 : Int32).toInt = 46 := rfl
  have h32 : (32 : Int32).toInt = 32 := rfl
  have h37 : (37 : Int32).toInt = 37 := rfl
  have hm1 : (-1 : Int32).toInt = -1 := rfl
  have hD : (nI (e - p)).toInt = ((e - p : Nat) : Int) := nI_toInt (by omega)
  unfold xM1
  refine xP_s rfl rfl rfl ?_
  refine xP_get rfl h18 rfl ?_
  refine xP_s rfl rfl rfl ?_
  refine xP_cv rfl rfl rfl rfl rfl hs.obj (p_at hs (by decide) (by decide) ?_)
  rw [cAt_sfx0 hd2 (by omega)]
  refine xP_s rfl rfl rfl ?_
  refine xP_s rfl rfl rfl ?_
  refine xP_s rfl rfl rfl ?_
  refine xP_get rfl h18 rfl ?_
  refine xP_s rfl rfl rfl ?_
  rw [nI_subN hpe]
  refine xP_s rfl rfl rfl ?_
  refine xP_s rfl rfl rfl ?_
  refine xP_if (fun hc => ?_) (fun hc => ?_)
  · repeat' first
      | refine xP_s rfl rfl rfl ?_
      | refine xP_ret rfl rfl rfl ?_
    all_goals
      (try simp only [xc_i, decide_eq_true_eq, decide_eq_false_iff_not] at *)
    all_goals first
      | (rw [show b = true from hb.mpr (by omega)] at k; exact k)
      | (rw [show b = false from Bool.not_eq_true _ ▸ fun q => absurd (hb.mp q) (by omega)] at k; exact k)
  · refine xP_s rfl rfl rfl ?_
    refine xP_get rfl h18 rfl ?_
    refine xP_s rfl rfl rfl ?_
    refine xP_get rfl h18 rfl ?_
    refine xP_cv rfl rfl rfl rfl rfl hs.obj (p_at hs (by decide) (by decide) ?_)
    rw [cAt_sfx0 hd (by omega)]
    repeat' first
      | refine xP_s rfl rfl rfl ?_
      | refine xP_if (fun hc => ?_) (fun hc => ?_)
      | refine xP_ret rfl rfl rfl ?_
    all_goals
      (try simp only [xc_i, decide_eq_true_eq, decide_eq_false_iff_not] at *)
    all_goals first
      | (rw [show b = true from hb.mpr (by omega)] at k; exact k)
      | (rw [show b = false from Bool.not_eq_true _ ▸ fun q => absurd (hb.mp q) (by omega)] at k; exact k)
/-- what stands behind a \ in quotes -/
def esc (c : Nat) : Option Nat := if c = 110 then some 10 else if c = 116 then some 9 else if c = 92 ∨ c = 39 then some c else none
def escI (x : Int32) : Int32 := if x = 110 then 10 else if x = 116 then 9 else if x = 92 ∨ x = 39 then x else -1
theorem esc_nI {c : Nat} (h : c < 128) : escI (nI c) = (match esc c with | some x => nI x | none => -1) := by
  revert c
  decide
theorem esc_lt {c x : Nat} (h : esc c = some x) (hc : c < 128) : x < 128 := by
  unfold esc at h
  split at h
  · cases h; omega
  · split at h
    · cases h; omega
    · split at h
      · cases h; omega
      · cases h
set_option maxRecDepth 100000 in
theorem p_escaped {sc : xSc} {d g : Nat} {A : List xC} {x : Int32} {P : xO → xH → Prop} (k : P (.inl (some (.int (escI x)))) (A, g)) : xM1 sc d 106 [.int x] (A, g) P := by
  unfold xM1
  refine xP_s rfl rfl rfl ?_
  refine xP_s rfl rfl rfl ?_
  refine xP_sw (fun q hq hx => ?_) (fun hx => ?_)
  · simp only [List.mem_cons, List.not_mem_nil, or_false] at hq
    subst hx
    rcases hq with rfl | rfl | rfl | rfl
    · repeat' first
        | refine xP_s rfl rfl rfl ?_
        | refine xP_ret rfl rfl rfl ?_
      exact k
    · repeat' first
        | refine xP_s rfl rfl rfl ?_
        | refine xP_ret rfl rfl rfl ?_
      exact k
    · repeat' first
        | refine xP_s rfl rfl rfl ?_
        | refine xP_ret rfl rfl rfl ?_
      exact k
    · repeat' first
        | refine xP_s rfl rfl rfl ?_
        | refine xP_ret rfl rfl rfl ?_
      exact k
  · simp only [List.mem_cons, List.not_mem_nil, or_false, forall_eq_or_imp, forall_eq] at hx
    have e : escI x = -1 := by simp [escI, hx]
    rw [e] at k
    repeat' first
      | refine xP_s rfl rfl rfl ?_
      | refine xP_ret rfl rfl rfl ?_
    exact k
/-- a name in quotes: its characters and what is left -/
def qt : Nat → List Nat → Option (List Nat × List Nat)
  | 0, _ => none
  | _ + 1, [] => none
  | n + 1, c :: r => if c = 39 then (if r.head? = some 39 then (qt n r.tail).map (fun q => (39 :: q.1, q.2)) else some ([], r))
    else if c = 92 then (match r with
      | [] => none
      | d :: r2 => match esc d with
        | some x => (qt n r2).map (fun q => (x :: q.1, q.2))
        | none => none)
    else (qt n r).map (fun q => (c :: q.1, q.2))
set_option maxHeartbeats 4000000 in
set_option maxRecDepth 100000 in
theorem p_quotedLoop {sc : xSc} {d g u p v : Nat} {G : xG} {t nm : List Nat} {P : xO → xH → Prop} (hu : u < 120) : ∀ (n i j : Nat) (A : List xC) (w s : List Nat), s.length < n → j + n ≤ 120 → t.drop i = s → i ≤ t.length → xTk A u p v G → xRw A 1 120 t → xRw A 5 4926 (nm ++ w) → nm.length + w.length + s.length ≤ 4926 →
    (∀ A' w', (qt n s = none ∨ ∃ q, qt n s = some q ∧ 24 < (w ++ q.1).length) → xTk A' u p v G → xRw A' 5 4926 (nm ++ w') → xSame A A' [5, 6, 18, 19, 20, 21, 22, 23, 24] → P (.inl (some (.int 0))) (A', g)) →
    (∀ A' q, qt n s = some q → (w ++ q.1).length ≤ 24 → xTk A' (u + 1) (t.length - q.2.length) v (xTn G u 1 p (t.length - q.2.length) (nI nm.length) (nI (w ++ q.1).length) (kL (w ++ q.1))) → xRw A' 5 4926 (nm ++ (w ++ q.1)) → xSame A A' [5, 6, 18, 19, 20, 21, 22, 23, 24] → P (.inl (some (.int 1))) (A', g)) →
    xP sc (d + 3) 105 17 [(0, .ref 18), (1, .int (nI nm.length)), (2, .int (nI i)), (3, .int (nI j))] [] (A, g) P
  | 0, i, j, A, w, s, hn0, _, _, _, _, _, _, _, _, _ => by omega
  | n + 1, i, j, A, w, s, hn0, hj, hd, hi, ht, hs, hn, hr, k0, k1 => by
    have h18 := ht.2.1
    have hl := hs.len
    have h120 : (120 : Int32).toInt = 120 := rfl
    have h39 : (39 : Int32).toInt = 39 := rfl
    have h92 : (92 : Int32).toInt = 92 := rfl
    have hJ : (nI j).toInt = (j : Int) := nI_toInt (by omega)
    have go : ∀ (i' c : Nat) (s' : List Nat), c < 128 → s'.length < n → t.drop i' = s' → i' ≤ t.length → s'.length + 1 ≤ s.length → ∀ (A1 : List xC), xRw A1 5 4926 (nm ++ w ++ [c]) → xSame A A1 [5, 6] → qt (n + 1) s = (qt n s').map (fun q => (c :: q.1, q.2)) → ∀ (x4 x5 x6 : Int32),
        xP sc (d + 3) 105 17 [(0, .ref 18), (1, .int (nI nm.length)), (2, .int (nI i')), (3, .int (nI j + 1)), (4, .int x4), (5, .int x5), (6, .int x6)] [] (A1, g) P := by
      intro i' c s' hc h1 h2 h3 h4 A1 q1 q2 e x4 x5 x6
      have g1 := p_quotedLoop (sc := sc) (d := d) (g := g) (P := P) hu n i' (j + 1) A1 (w ++ [c]) s' h1 (by omega) h2 h3 (ht.same q2 (by decide)) (hs.same q2 (by decide) (by decide)) (by rw [← List.append_assoc]; exact q1) (by rw [List.length_append, List.length_singleton]; omega) (fun A' w' z1 z2 z3 z4 => k0 A' w' (by
        rw [e]
        rcases z1 with z1 | ⟨q, z1, z5⟩
        · exact Or.inl (by rw [z1]; rfl)
        · exact Or.inr ⟨(c :: q.1, q.2), by rw [z1]; rfl, by rw [List.append_assoc] at z5; exact z5⟩) z2 z3 ((q2.trans z4).wide (by decide))) (fun A' q z1 z2 z3 z4 z5 => k1 A' (c :: q.1, q.2) (by rw [e, z1]; rfl) (by rw [List.append_assoc] at z2; exact z2) (by rw [List.append_assoc] at z3; exact z3) (by rw [List.append_assoc] at z4; exact z4) ((q2.trans z5).wide (by decide)))
      rw [← nI_1] at g1
      exact xP_more [(4, .int x4), (5, .int x5), (6, .int x6)] rfl g1
    refine xP_s rfl rfl rfl ?_
    refine xP_s rfl rfl rfl ?_
    refine xP_s rfl rfl rfl ?_
    refine xP_if (fun hc => ?_) (fun hc => ?_)
    · have := xc_t hc
      dsimp only at this
      omega
    · refine xP_s rfl rfl rfl ?_
      refine xP_get rfl h18 rfl ?_
      refine xP_s rfl rfl rfl ?_
      refine xP_cv rfl rfl rfl rfl rfl hs.obj (p_at hs (by decide) (by decide) ?_)
      rw [cAt_sfx0 hd (by omega)]
      refine xP_s rfl rfl rfl ?_
      refine xP_s rfl rfl rfl ?_
      refine xP_get rfl h18 rfl ?_
      refine xP_s rfl rfl rfl ?_
      refine xP_s rfl rfl rfl ?_
      refine xP_s rfl rfl rfl ?_
      rw [nI_1]
      refine xP_cv rfl rfl rfl rfl rfl hs.obj (p_at hs (by decide) (by decide) ?_)
      rw [cAt_sfx hd (by omega)]
      cases s with
      | nil =>
        repeat' first
          | refine xP_s rfl rfl rfl ?_
          | refine xP_ret rfl rfl rfl ?_
        exact k0 A w (Or.inl rfl) ht hn (xSame.refl _ _)
      | cons c r =>
        obtain ⟨hd1, hlt⟩ := drop_s hd
        have hch : ∀ x ∈ c :: r, x < 128 := fun x hx => hs.chr x (List.mem_of_mem_drop (hd ▸ hx))
        have hc128 := hch c List.mem_cons_self
        have hC : (nI c).toInt = (c : Int) := nI_toInt (by omega)
        have o1 : (oc r 0).toInt = 39 ↔ r[0]? = some 39 := oc_c 39 (fun x hx => hch x (List.mem_cons_of_mem _ hx))
        rw [List.length_cons] at hn0 hr
        rw [oc_0, oc_s]
        refine xP_s rfl rfl rfl ?_
        refine xP_s rfl rfl rfl ?_
        refine xP_s rfl rfl rfl ?_
        refine xP_s rfl rfl rfl ?_
        refine xP_if (fun hc => ?_) (fun hc => ?_)
        · refine xP_s rfl rfl rfl ?_
          refine xP_s rfl rfl rfl ?_
          refine xP_s rfl rfl rfl ?_
          refine xP_if (fun hc => ?_) (fun hc => ?_)
          · have n39 := xc_t hc
            dsimp only at n39
            refine xP_s rfl rfl rfl ?_
            refine xP_s rfl rfl rfl ?_
            refine xP_s rfl rfl rfl ?_
            refine xP_if (fun hc => ?_) (fun hc => ?_)
            · have n92 := xc_t hc
              dsimp only at n92
              have e : qt (n + 1) (c :: r) = (qt n r).map (fun q => (c :: q.1, q.2)) := by
                conv => lhs; unfold qt
                rw [if_neg (by omega), if_neg (by omega)]
              refine xP_s rfl rfl rfl ?_
              refine xP_s rfl rfl rfl ?_
              refine xP_s rfl rfl rfl ?_
              refine xP_s rfl rfl rfl ?_
              refine xP_s rfl rfl rfl ?_
              refine xP_if (fun hc => ?_) (fun hc => ?_)
              · refine xP_s rfl rfl rfl ?_
                refine xP_get rfl h18 rfl ?_
                refine xP_s rfl rfl rfl ?_
                refine xP_cv rfl rfl rfl rfl rfl hn.obj (p_add hn (by decide) (by decide) hc128 (by rw [List.length_append]; omega) (fun A1 q1 q2 => ?_))
                have go1 := go (i + 1) c r hc128 (by omega) hd1 (by omega) (by rw [List.length_cons]; omega) A1 q1 q2 e (nI c) (oc r 0) (nI c)
                rw [← nI_1] at go1
                refine xP_s rfl rfl rfl ?_
                refine xP_s rfl rfl rfl ?_
                refine xP_s rfl rfl rfl ?_
                refine xP_s rfl rfl rfl ?_
                refine xP_if (fun hc => ?_) (fun hc => ?_)
                · have := xc_t hc
                  dsimp only at this
                  omega
                · refine xP_s rfl rfl rfl ?_
                  refine xP_s rfl rfl rfl ?_
                  refine xP_s rfl rfl rfl ?_
                  refine xP_if (fun hc => ?_) (fun hc => ?_)
                  · repeat' first
                      | exact go1
                      | refine xP_s rfl rfl rfl ?_
                  · have := xc_f hc
                    dsimp only at this
                    omega
              · exact absurd (xc_f hc) (nI_neg1 (by omega))
            · have n92 := xc_f hc
              dsimp only at n92
              refine xP_s rfl rfl rfl ?_
              refine xP_call rfl rfl rfl (p_escaped ?_)
              cases r with
              | nil =>
                repeat' first
                  | refine xP_s rfl rfl rfl ?_
                  | refine xP_ret rfl rfl rfl ?_
                refine k0 A w (Or.inl ?_) ht hn (xSame.refl _ _)
                unfold qt
                rw [if_neg (by omega), if_pos (by omega)]
              | cons c2 r =>
                have hc2 := hch c2 (List.mem_cons_of_mem _ List.mem_cons_self)
                obtain ⟨hd2, hlt2⟩ := drop_s hd1
                rw [oc_0, esc_nI hc2]
                rw [List.length_cons] at hn0 hr
                cases he : esc c2 with
                | none =>
                  repeat' first
                    | refine xP_s rfl rfl rfl ?_
                    | refine xP_ret rfl rfl rfl ?_
                  refine k0 A w (Or.inl ?_) ht hn (xSame.refl _ _)
                  unfold qt
                  rw [if_neg (by omega), if_pos (by omega)]
                  dsimp only
                  rw [he]
                | some x =>
                  have hx := esc_lt he hc2
                  have e : qt (n + 1) (c :: c2 :: r) = (qt n r).map (fun q => (x :: q.1, q.2)) := by
                    conv => lhs; unfold qt
                    rw [if_neg (by omega), if_pos (by omega)]
                    dsimp only
                    rw [he]
                  dsimp only
                  refine xP_s rfl rfl rfl ?_
                  refine xP_s rfl rfl rfl ?_
                  refine xP_s rfl rfl rfl ?_
                  refine xP_s rfl rfl rfl ?_
                  refine xP_s rfl rfl rfl ?_
                  refine xP_if (fun hc => ?_) (fun hc => ?_)
                  · refine xP_s rfl rfl rfl ?_
                    refine xP_get rfl h18 rfl ?_
                    refine xP_s rfl rfl rfl ?_
                    refine xP_cv rfl rfl rfl rfl rfl hn.obj (p_add hn (by decide) (by decide) hx (by rw [List.length_append]; omega) (fun A1 q1 q2 => ?_))
                    have go1 := go (i + 2) x r hx (by omega) hd2 (by omega) (by rw [List.length_cons, List.length_cons]; omega) A1 q1 q2 e (nI c) (nI c2) (nI x)
                    rw [← nI_add i 2] at go1
                    refine xP_s rfl rfl rfl ?_
                    refine xP_s rfl rfl rfl ?_
                    refine xP_s rfl rfl rfl ?_
                    refine xP_s rfl rfl rfl ?_
                    refine xP_if (fun hc => ?_) (fun hc => ?_)
                    · repeat' first
                        | exact go1
                        | refine xP_s rfl rfl rfl ?_
                    · refine xP_s rfl rfl rfl ?_
                      refine xP_s rfl rfl rfl ?_
                      refine xP_s rfl rfl rfl ?_
                      refine xP_if (fun hc => ?_) (fun hc => ?_)
                      · have := xc_t hc
                        dsimp only at this
                        omega
                      · repeat' first
                          | exact go1
                          | refine xP_s rfl rfl rfl ?_
                  · exact absurd (xc_f hc) (nI_neg1 (by omega))
          · have n39 := xc_f hc
            dsimp only at n39
            refine xP_s rfl rfl rfl ?_
            refine xP_s rfl rfl rfl ?_
            refine xP_s rfl rfl rfl ?_
            refine xP_if (fun hc => ?_) (fun hc => ?_)
            · have d39 := xc_t hc
              dsimp only at d39
              rw [h39, o1, ← List.head?_eq_getElem?] at d39
              cases r with
              | nil => cases d39
              | cons c2 r =>
                obtain ⟨hd2, hlt2⟩ := drop_s hd1
                rw [List.length_cons] at hn0 hr
                have ec2 : c2 = 39 := Option.some.inj d39
                have e : qt (n + 1) (c :: c2 :: r) = (qt n r).map (fun q => (c :: q.1, q.2)) := by
                  have ec : c = 39 := by omega
                  rw [ec, ec2]
                  conv => lhs; unfold qt
                  rw [if_pos rfl, if_pos (show (39 :: r).head? = some 39 from rfl)]
                  rfl
                rw [oc_0]
                refine xP_s rfl rfl rfl ?_
                refine xP_s rfl rfl rfl ?_
                refine xP_s rfl rfl rfl ?_
                refine xP_if (fun hc => ?_) (fun hc => ?_)
                · refine xP_s rfl rfl rfl ?_
                  refine xP_s rfl rfl rfl ?_
                  refine xP_s rfl rfl rfl ?_
                  refine xP_s rfl rfl rfl ?_
                  refine xP_s rfl rfl rfl ?_
                  refine xP_if (fun hc => ?_) (fun hc => ?_)
                  · refine xP_s rfl rfl rfl ?_
                    refine xP_get rfl h18 rfl ?_
                    refine xP_s rfl rfl rfl ?_
                    refine xP_cv rfl rfl rfl rfl rfl hn.obj (p_add hn (by decide) (by decide) hc128 (by rw [List.length_append]; omega) (fun A1 q1 q2 => ?_))
                    have go1 := go (i + 2) c r hc128 (by omega) hd2 (by omega) (by rw [List.length_cons, List.length_cons]; omega) A1 q1 q2 e (nI c) (nI c2) (nI c)
                    rw [← nI_add i 2] at go1
                    refine xP_s rfl rfl rfl ?_
                    refine xP_s rfl rfl rfl ?_
                    refine xP_s rfl rfl rfl ?_
                    refine xP_s rfl rfl rfl ?_
                    refine xP_if (fun hc => ?_) (fun hc => ?_)
                    · repeat' first
                        | exact go1
                        | refine xP_s rfl rfl rfl ?_
                    · have := xc_f hc
                      dsimp only at this
                      omega
                  · exact absurd (xc_f hc) (nI_neg1 (by omega))
                · have := xc_f hc
                  dsimp only at this
                  omega
            · have d39 := xc_f hc
              dsimp only at d39
              rw [h39, o1, ← List.head?_eq_getElem?] at d39
              have e : qt (n + 1) (c :: r) = some ([], r) := by
                conv => lhs; unfold qt
                rw [if_pos (by omega), if_neg d39]
              have er : t.length - r.length = i + 1 := (drop_len hd1 (by omega)).symm
              refine xP_s rfl rfl rfl ?_
              refine xP_s rfl rfl rfl ?_
              refine xP_s rfl rfl rfl ?_
              refine xP_s rfl rfl rfl ?_
              refine xP_s rfl rfl rfl ?_
              rw [nI_1]
              refine xP_cv rfl rfl rfl rfl rfl h18 (p_addName ht hn hu (fun hz => ?_) (fun hz A' z1 z2 => ?_))
              · repeat' first
                  | refine xP_s rfl rfl rfl ?_
                  | refine xP_ret rfl rfl rfl ?_
                exact k0 A w (Or.inr ⟨_, e, by simpa using hz⟩) ht hn (xSame.refl _ _)
              · repeat' first
                  | refine xP_s rfl rfl rfl ?_
                  | refine xP_ret rfl rfl rfl ?_
                refine k1 A' _ e (by simpa using hz) ?_ ?_ (z2.wide (by decide))
                · simp only [List.append_nil, er]
                  exact z1
                · simp only [List.append_nil]
                  exact hn.same z2 (by decide) (by decide)
        · exact absurd (xc_f hc) (nI_neg1 (by omega))
end
section
-- quoted names from their start; variables; digits; strings
set_option maxRecDepth 100000 in
theorem p_addQuotedName {sc : xSc} {d g u p v : Nat} {A : List xC} {G : xG} {t nm s : List Nat} {P : xO → xH → Prop} (ht : xTk A u p v G) (hs : xRw A 1 120 t) (hn : xRw A 5 4926 nm) (hu : u < 120) (hd : t.drop (p + 1) = s) (hp : p + 1 ≤ t.length) (hr : nm.length + s.length ≤ 4926)
    (k0 : ∀ A' w', (qt 120 s = none ∨ ∃ q, qt 120 s = some q ∧ 24 < q.1.length) → xTk A' u p v G → xRw A' 5 4926 (nm ++ w') → xSame A A' [5, 6, 18, 19, 20, 21, 22, 23, 24] → P (.inl (some (.int 0))) (A', g))
    (k1 : ∀ A' q, qt 120 s = some q → q.1.length ≤ 24 → xTk A' (u + 1) (t.length - q.2.length) v (xTn G u 1 p (t.length - q.2.length) (nI nm.length) (nI q.1.length) (kL q.1)) → xRw A' 5 4926 (nm ++ q.1) → xSame A A' [5, 6, 18, 19, 20, 21, 22, 23, 24] → P (.inl (some (.int 1))) (A', g)) : xM1 sc (d + 3) 105 [.ref 18] (A, g) P := by
  have h18 := ht.2.1
  have hl := hs.len
  have hsl : s.length = t.length - (p + 1) := by rw [← hd, List.length_drop]
  have go := p_quotedLoop (sc := sc) (d := d) (g := g) (P := P) hu 120 (p + 1) 0 A [] s (by omega) (by omega) hd hp ht hs (by rw [List.append_nil]; exact hn) (by rw [List.length_nil]; omega) (fun A' w' z1 z2 z3 z4 => k0 A' w' z1 z2 z3 z4) (fun A' q z1 z2 z3 z4 z5 => k1 A' q z1 z2 z3 z4 z5)
  rw [← nI_1] at go
  unfold xM1
  repeat' first
    | exact go
    | refine xP_s rfl rfl rfl ?_
    | refine xP_get rfl h18 rfl ?_
    | refine xP_cv rfl rfl rfl rfl rfl hn.obj (p_length hn ?_)
set_option maxRecDepth 100000 in
theorem p_sameTextLoop {sc : xSc} {d g u p v b n : Nat} {A : List xC} {G : xG} {t : List Nat} {P : xO → xH → Prop} (ht : xTk A u p v G) (hs : xRw A 1 120 t) (hb : b + n ≤ t.length) (hp : p + n ≤ t.length) (k : P (.inl (some (.int (xb (decide ((t.drop b).take n = (t.drop p).take n)))))) (A, g)) : ∀ m i, i + m = n → (t.drop b).take i = (t.drop p).take i →
    xP sc (d + 1) 109 2 [(0, .ref 18), (1, .int (nI b)), (2, .int (nI n)), (3, .int (nI i))] [] (A, g) P
  | 0, i, hm, he => by
    have hl := hs.len
    have hI : (nI i).toInt = (i : Int) := nI_toInt (by omega)
    have hN : (nI n).toInt = (n : Int) := nI_toInt (by omega)
    have e : i = n := by omega
    subst e
    rw [decide_eq_true he] at k
    refine xP_s rfl rfl rfl ?_
    refine xP_s rfl rfl rfl ?_
    refine xP_s rfl rfl rfl ?_
    refine xP_if (fun hc => ?_) (fun hc => ?_)
    · repeat' first
        | refine xP_s rfl rfl rfl ?_
        | refine xP_ret rfl rfl rfl ?_
      exact k
    · have := xc_f hc
      dsimp only at this
      omega
  | m + 1, i, hm, he => by
    have h18 := ht.2.1
    have hl := hs.len
    have hI : (nI i).toInt = (i : Int) := nI_toInt (by omega)
    have hN : (nI n).toInt = (n : Int) := nI_toInt (by omega)
    obtain ⟨c1, hc1⟩ : ∃ c, t[b + i]? = some c := ⟨t[b + i]'(by omega), List.getElem?_eq_getElem (by omega)⟩
    obtain ⟨c2, hc2⟩ : ∃ c, t[p + i]? = some c := ⟨t[p + i]'(by omega), List.getElem?_eq_getElem (by omega)⟩
    have hk1 := hs.chr c1 (List.mem_of_getElem? hc1)
    have hk2 := hs.chr c2 (List.mem_of_getElem? hc2)
    have hd1 : (t.drop b)[i]? = some c1 := by rw [List.getElem?_drop]; exact hc1
    have hd2 : (t.drop p)[i]? = some c2 := by rw [List.getElem?_drop]; exact hc2
    refine xP_s rfl rfl rfl ?_
    refine xP_s rfl rfl rfl ?_
    refine xP_s rfl rfl rfl ?_
    refine xP_if (fun hc => ?_) (fun hc => ?_)
    · have := xc_t hc
      dsimp only at this
      omega
    · refine xP_s rfl rfl rfl ?_
      refine xP_get rfl h18 rfl ?_
      refine xP_s rfl rfl rfl ?_
      refine xP_s rfl rfl rfl ?_
      refine xP_s rfl rfl rfl ?_
      rw [nI_add]
      refine xP_cv rfl rfl rfl rfl rfl hs.obj (p_at hs (by decide) (by decide) ?_)
      rw [cAt_get (by omega) hc1]
      refine xP_s rfl rfl rfl ?_
      refine xP_get rfl h18 rfl ?_
      refine xP_s rfl rfl rfl ?_
      refine xP_get rfl h18 rfl ?_
      refine xP_s rfl rfl rfl ?_
      refine xP_s rfl rfl rfl ?_
      rw [nI_add]
      refine xP_cv rfl rfl rfl rfl rfl hs.obj (p_at hs (by decide) (by decide) ?_)
      rw [cAt_get (by omega) hc2]
      refine xP_s rfl rfl rfl ?_
      refine xP_if (fun hc => ?_) (fun hc => ?_)
      · have hq := xc_t hc
        dsimp only at hq
        rw [nI_toInt (by omega), nI_toInt (by omega)] at hq
        have e : c1 = c2 := by omega
        have go := p_sameTextLoop (sc := sc) (d := d) (g := g) (P := P) ht hs hb hp k m (i + 1) (by omega) (by
          rw [List.take_add_one, List.take_add_one, he, hd1, hd2, e])
        rw [← nI_1] at go
        repeat' first
          | exact go
          | refine xP_s rfl rfl rfl ?_
      · have hq := xc_f hc
        dsimp only at hq
        rw [nI_toInt (by omega), nI_toInt (by omega)] at hq
        have e : ¬ (t.drop b).take n = (t.drop p).take n := fun q => by
          have z := congrArg (fun l => l[i]?) q
          rw [List.getElem?_take_of_lt (by omega), List.getElem?_take_of_lt (by omega), hd1, hd2] at z
          have := Option.some.inj z
          omega
        rw [decide_eq_false e] at k
        repeat' first
          | refine xP_s rfl rfl rfl ?_
          | refine xP_ret rfl rfl rfl ?_
        exact k
set_option maxRecDepth 100000 in
theorem p_isSameText {sc : xSc} {d g u p v b n : Nat} {A : List xC} {G : xG} {t : List Nat} {P : xO → xH → Prop} (ht : xTk A u p v G) (hs : xRw A 1 120 t) (hb : b + n ≤ t.length) (hp : p + n ≤ t.length) (k : P (.inl (some (.int (xb (decide ((t.drop b).take n = (t.drop p).take n)))))) (A, g)) : xM1 sc (d + 1) 109 [.ref 18, .int (nI b), .int (nI n)] (A, g) P := by
  have go := p_sameTextLoop (sc := sc) (d := d) (g := g) (P := P) ht hs hb hp k n 0 (by omega) rfl
  unfold xM1
  repeat' first
    | exact go
    | refine xP_s rfl rfl rfl ?_
/-- the text of a token -/
def vtx (t : List Nat) (G : xG) (j : Nat) (w : List Nat) : Prop := ∃ b, G.2.1 j = nI b ∧ b + w.length ≤ t.length ∧ (t.drop b).take w.length = w ∧ G.2.2.2.2.1 j = nI w.length
theorem vtx_inj {t : List Nat} {G : xG} {j : Nat} {w w' : List Nat} (ht : t.length ≤ 120) (h : vtx t G j w) (h' : vtx t G j w') : w = w' := by
  obtain ⟨b, h1, h2, h3, h4⟩ := h
  obtain ⟨b', q1, q2, q3, q4⟩ := h'
  rw [h1] at q1
  rw [h4] at q4
  have e1 := (nI_eq (by omega) (by omega)).mp q1
  have e2 := (nI_eq (by omega) (by omega)).mp q4
  rw [← h3, ← q3, e1, e2]
/-- the variables that have been met, by their tokens -/
def xVT (t : List Nat) (G : xG) (u : Nat) (vs : List (List Nat)) : Prop :=
  (∀ j, j < u → (G.1 j).toInt = 2 → ∃ w i, vtx t G j w ∧ G.2.2.2.1 j = nI i ∧ vs[i]? = some w) ∧
  (∀ (i : Nat) (w : List Nat), vs[i]? = some w → ¬ w = [95] → ∃ j, j < u ∧ (G.1 j).toInt = 2 ∧ vtx t G j w) ∧
  (∀ (i i' : Nat) (w : List Nat), vs[i]? = some w → vs[i']? = some w → ¬ w = [95] → i = i') ∧ vs.length ≤ u
def vix (w : List Nat) : List (List Nat) → Nat → Option Nat
  | [], _ => none
  | a :: r, i => if a = w then some i else vix w r (i + 1)
theorem vix_some {w : List Nat} : ∀ {vs : List (List Nat)} {i j : Nat}, vix w vs i = some j → i ≤ j ∧ vs[j - i]? = some w
  | [], i, j, h => by cases h
  | a :: r, i, j, h => by
    unfold vix at h
    split at h
    next ha =>
      have := Option.some.inj h
      subst this
      exact ⟨Nat.le_refl _, by simp [ha]⟩
    next =>
      obtain ⟨h1, h2⟩ := vix_some h
      refine ⟨by omega, ?_⟩
      rw [show j - i = (j - (i + 1)) + 1 by omega]
      simpa using h2
theorem vix_none {w : List Nat} : ∀ {vs : List (List Nat)} {i : Nat}, vix w vs i = none → ∀ (j : Nat), ¬ vs[j]? = some w
  | [], i, h, j => by simp
  | a :: r, i, h, j => by
    unfold vix at h
    split at h
    next => cases h
    next ha =>
      cases j with
      | zero => simpa using ha
      | succ j => simpa using vix_none h j
/-- the number of a variable, and the variables with it -/
def vno (vs : List (List Nat)) (w : List Nat) : Nat := if w = [95] then vs.length else (match vix w vs 0 with
  | some i => i
  | none => vs.length)
def vnx (vs : List (List Nat)) (w : List Nat) : List (List Nat) := if w = [95] then vs ++ [w] else (match vix w vs 0 with
  | some _ => vs
  | none => vs ++ [w])
set_option maxRecDepth 100000 in
theorem p_varLoop {sc : xSc} {d g u p v n : Nat} {A : List xC} {G : xG} {t w : List Nat} {vs : List (List Nat)} {P : xO → xH → Prop} (ht : xTk A u p v G) (hs : xRw A 1 120 t) (hvt : xVT t G u vs) (hn : w.length = n) (hp : p + n ≤ t.length) (hw : (t.drop p).take n = w) (h95 : ¬ w = [95])
    (kf : ∀ (i : Nat), vs[i]? = some w → P (.inl (some (.int (nI i)))) (A, g))
    (kn : (∀ (i : Nat), ¬ vs[i]? = some w) → ∀ x, xP sc (d + 2) 108 94 [(0, .ref 18), (1, .int (nI n)), (2, .int 0), (3, .int x)] [] (A, g) P) : ∀ m j, j + m = u → (∀ j', j' < j → ¬ ((G.1 j').toInt = 2 ∧ vtx t G j' w)) →
    xP sc (d + 2) 108 29 [(0, .ref 18), (1, .int (nI n)), (2, .int 0), (3, .int (nI j))] [] (A, g) P
  | 0, j, hm, hno => by
    have h18 := ht.2.1
    have hu := ht.1
    have hJ : (nI j).toInt = (j : Int) := nI_toInt (by omega)
    have hU : (nI u).toInt = (u : Int) := nI_toInt (by omega)
    refine xP_s rfl rfl rfl ?_
    refine xP_s rfl rfl rfl ?_
    refine xP_get rfl h18 rfl ?_
    refine xP_s rfl rfl rfl ?_
    refine xP_if (fun hc => ?_) (fun hc => ?_)
    · refine kn (fun i hi => ?_) _
      obtain ⟨j', h1, h2, h3⟩ := hvt.2.1 i w hi h95
      exact hno j' (by omega) ⟨h2, h3⟩
    · have := xc_f hc
      dsimp only at this
      omega
  | m + 1, j, hm, hno => by
    have h18 := ht.2.1
    have hu := ht.1
    have hl := hs.len
    have h120 : (120 : Int32).toInt = 120 := rfl
    have h2 : (2 : Int32).toInt = 2 := rfl
    have hJ : (nI j).toInt = (j : Int) := nI_toInt (by omega)
    have hU : (nI u).toInt = (u : Int) := nI_toInt (by omega)
    have go := fun hq => p_varLoop (sc := sc) (d := d) (g := g) (P := P) ht hs hvt hn hp hw h95 kf kn m (j + 1) (by omega) hq
    have nxt : ¬ ((G.1 j).toInt = 2 ∧ vtx t G j w) → ∀ j', j' < j + 1 → ¬ ((G.1 j').toInt = 2 ∧ vtx t G j' w) := by
      intro hq j' hj'
      by_cases e : j' = j
      · subst e
        exact hq
      · exact hno j' (by omega)
    rw [← nI_1] at go
    refine xP_s rfl rfl rfl ?_
    refine xP_s rfl rfl rfl ?_
    refine xP_get rfl h18 rfl ?_
    refine xP_s rfl rfl rfl ?_
    refine xP_if (fun hc => ?_) (fun hc => ?_)
    · have := xc_t hc
      dsimp only at this
      omega
    · refine xP_s rfl rfl rfl ?_
      refine xP_s rfl rfl rfl ?_
      refine xP_s rfl rfl rfl ?_
      refine xP_if (fun hc => ?_) (fun hc => ?_)
      · have := xc_t hc
        dsimp only at this
        omega
      · refine xP_s rfl rfl rfl ?_
        refine xP_s rfl rfl rfl ?_
        refine xP_s rfl rfl rfl ?_
        refine xP_get rfl h18 rfl ?_
        refine xP_s rfl rfl rfl ?_
        refine xP_ial rfl ht.2.2.1 (by decide) (xib_of (by omega) (by omega)) ?_
        rw [nI_clamp (by omega)]
        refine xP_s rfl rfl rfl ?_
        refine xP_s rfl rfl rfl ?_
        refine xP_if (fun hc => ?_) (fun hc => ?_)
        · have hk := xc_t hc
          dsimp only at hk
          have go1 := go (nxt (fun q => hk (by rw [h2]; exact q.1)))
          repeat' first
            | exact go1
            | refine xP_s rfl rfl rfl ?_
        · have hk := xc_f hc
          dsimp only at hk
          obtain ⟨w', i, z1, z2, z3⟩ := hvt.1 j (by omega) hk
          obtain ⟨b, y1, y2, y3, y4⟩ := id z1
          have hW : (nI w'.length).toInt = (w'.length : Int) := nI_toInt (by omega)
          have hN : (nI n).toInt = (n : Int) := nI_toInt (by omega)
          refine xP_s rfl rfl rfl ?_
          refine xP_get rfl h18 rfl ?_
          refine xP_s rfl rfl rfl ?_
          refine xP_ial rfl ht.2.2.2.2.2.2.1 (by decide) (xib_of (by omega) (by omega)) ?_
          rw [nI_clamp (by omega), y4]
          refine xP_s rfl rfl rfl ?_
          refine xP_s rfl rfl rfl ?_
          refine xP_if (fun hc => ?_) (fun hc => ?_)
          · have hz := xc_t hc
            dsimp only at hz
            have go1 := go (nxt (fun q => hz (by
              have := vtx_inj hl z1 q.2
              rw [hW, hN, this, hn])))
            repeat' first
              | exact go1
              | refine xP_s rfl rfl rfl ?_
          · have hz := xc_f hc
            dsimp only at hz
            have ewl : w'.length = n := by omega
            refine xP_s rfl rfl rfl ?_
            refine xP_s rfl rfl rfl ?_
            refine xP_get rfl h18 rfl ?_
            refine xP_s rfl rfl rfl ?_
            refine xP_ial rfl ht.2.2.2.1 (by decide) (xib_of (by omega) (by omega)) ?_
            rw [nI_clamp (by omega), y1]
            refine xP_s rfl rfl rfl ?_
            refine xP_cv rfl rfl rfl rfl rfl h18 (p_isSameText ht hs (by omega) hp ?_)
            rw [hw, show (t.drop b).take n = w' by rw [← ewl]; exact y3]
            by_cases he : w' = w
            · rw [decide_eq_true he]
              refine xP_s rfl rfl rfl ?_
              refine xP_s rfl rfl rfl ?_
              refine xP_get rfl h18 rfl ?_
              refine xP_s rfl rfl rfl ?_
              refine xP_ial rfl ht.2.2.2.2.2.1 (by decide) (xib_of (by omega) (by omega)) ?_
              rw [nI_clamp (by omega), z2]
              repeat' first
                | refine xP_s rfl rfl rfl ?_
                | refine xP_ret rfl rfl rfl ?_
              exact kf i (he ▸ z3)
            · rw [decide_eq_false he]
              have go1 := go (nxt (fun q => he (vtx_inj hl z1 q.2)))
              repeat' first
                | exact go1
                | refine xP_s rfl rfl rfl ?_
set_option maxRecDepth 100000 in
theorem p_variableNumber {sc : xSc} {d g u p v n : Nat} {A : List xC} {G : xG} {t w : List Nat} {vs : List (List Nat)} {P : xO → xH → Prop} (ht : xTk A u p v G) (hs : xRw A 1 120 t) (hvt : xVT t G u vs) (hv : v = vs.length) (hn : w.length = n) (hp : p + n ≤ t.length) (hw : (t.drop p).take n = w)
    (k : ∀ A', xTk A' u p (vnx vs w).length G → xSame A A' [18] → P (.inl (some (.int (nI (vno vs w))))) (A', g)) : xM1 sc (d + 2) 108 [.ref 18, .int (nI n)] (A, g) P := by
  have h18 := ht.2.1
  have hu := ht.1
  have hl := hs.len
  have hvl := hvt.2.2.2
  have h1 : (1 : Int32).toInt = 1 := rfl
  have h95' : (95 : Int32).toInt = 95 := rfl
  have hN : (nI n).toInt = (n : Int) := nI_toInt (by omega)
  have new : vno vs w = vs.length → vnx vs w = vs ++ [w] → ∀ y x, xP sc (d + 2) 108 94 [(0, .ref 18), (1, .int (nI n)), (2, .int y), (3, .int x)] [] (A, g) P := by
    intro e1 e2 y x
    refine xP_s rfl rfl rfl ?_
    refine xP_s rfl rfl rfl ?_
    refine xP_get rfl h18 rfl ?_
    refine xP_s rfl rfl rfl ?_
    refine xP_s rfl rfl rfl ?_
    refine xP_put rfl h18 (Nat.le_of_ble_eq_true rfl) rfl ?_
    rw [show nI v + 1 = nI (v + 1) from nI_1 v]
    have h2 := ht.setO (u' := u) (p' := p) (v' := v + 1) hu
    refine xP_s rfl rfl rfl ?_
    refine xP_get rfl h2.2.1 rfl ?_
    repeat' first
      | refine xP_s rfl rfl rfl ?_
      | refine xP_ret rfl rfl rfl ?_
    rw [show nI (v + 1) - 1 = nI v by rw [← nI_1]; exact Int32.add_sub_cancel _ _]
    have z := k _ (by rw [e2, List.length_append, List.length_singleton, ← hv]; exact h2) (xSame.set _ _)
    rw [e1, ← hv] at z
    exact z
  have named : ¬ w = [95] → xP sc (d + 2) 108 29 [(0, .ref 18), (1, .int (nI n)), (2, .int 0), (3, .int (nI 0))] [] (A, g) P := by
    intro h95
    refine p_varLoop ht hs hvt hn hp hw h95 (fun i hi => ?_) (fun hno x => ?_) u 0 (by omega) (fun j' hj' => by omega)
    · cases hx : vix w vs 0 with
      | none => exact absurd hi (vix_none hx i)
      | some j =>
        have e : j = i := by
          obtain ⟨_, q⟩ := vix_some hx
          exact hvt.2.2.1 _ _ w (by simpa using q) hi h95
        have e1 : vno vs w = i := by
          unfold vno
          rw [if_neg h95, hx]
          exact e
        have e2 : vnx vs w = vs := by
          unfold vnx
          rw [if_neg h95, hx]
        have z := k A (by rw [e2, ← hv]; exact ht) (xSame.refl _ _)
        rw [e1] at z
        exact z
    · cases hx : vix w vs 0 with
      | none =>
        refine new ?_ ?_ 0 x
        · unfold vno
          rw [if_neg h95, hx]
        · unfold vnx
          rw [if_neg h95, hx]
      | some j =>
        obtain ⟨_, q⟩ := vix_some hx
        exact absurd q (hno _)
  unfold xM1
  refine xP_s rfl rfl rfl ?_
  refine xP_s rfl rfl rfl ?_
  refine xP_s rfl rfl rfl ?_
  refine xP_if (fun hc => ?_) (fun hc => ?_)
  · have hne := xc_t hc
    dsimp only at hne
    have nm := named (fun q => hne (by rw [hN, h1, ← hn, q]; rfl))
    repeat' first
      | exact nm
      | refine xP_s rfl rfl rfl ?_
  · have heq := xc_f hc
    dsimp only at heq
    have en : n = 1 := by omega
    obtain ⟨c, hc0⟩ : ∃ c, t[p]? = some c := ⟨t[p]'(by omega), List.getElem?_eq_getElem (by omega)⟩
    have hc128 := hs.chr c (List.mem_of_getElem? hc0)
    have hC : (nI c).toInt = (c : Int) := nI_toInt (by omega)
    have ew : w = [c] := by
      rw [← hw, en]
      have : (t.drop p)[0]? = some c := by rw [List.getElem?_drop]; exact hc0
      cases hx : t.drop p with
      | nil =>
        rw [hx] at this
        cases this
      | cons a r =>
        rw [hx] at this
        have := Option.some.inj this
        rw [← this]
        rfl
    refine xP_s rfl rfl rfl ?_
    refine xP_get rfl h18 rfl ?_
    refine xP_s rfl rfl rfl ?_
    refine xP_get rfl h18 rfl ?_
    refine xP_cv rfl rfl rfl rfl rfl hs.obj (p_at hs (by decide) (by decide) ?_)
    rw [cAt_get (by omega) hc0]
    refine xP_s rfl rfl rfl ?_
    refine xP_s rfl rfl rfl ?_
    refine xP_if (fun hc => ?_) (fun hc => ?_)
    · have hne := xc_t hc
      dsimp only at hne
      have nm := named (fun q => hne (by
        rw [ew] at q
        have := (List.cons.inj q).1
        rw [hC, h95', this]
        rfl))
      repeat' first
        | exact nm
        | refine xP_s rfl rfl rfl ?_
    · have heq := xc_f hc
      dsimp only at heq
      have e95 : w = [95] := by
        rw [ew, show c = 95 by omega]
      have nw := new (by unfold vno; rw [if_pos e95]) (by unfold vnx; rw [if_pos e95]) 1 0
      have hU : (nI u).toInt = (u : Int) := nI_toInt (by omega)
      refine xP_s rfl rfl rfl ?_
      refine xP_s rfl rfl rfl ?_
      refine xP_s rfl rfl rfl ?_
      refine xP_s rfl rfl rfl ?_
      refine xP_s rfl rfl rfl ?_
      refine xP_s rfl rfl rfl ?_
      refine xP_s rfl rfl rfl ?_
      refine xP_get rfl h18 rfl ?_
      refine xP_s rfl rfl rfl ?_
      refine xP_if (fun hc => ?_) (fun hc => ?_)
      · exact nw
      · refine xP_s rfl rfl rfl ?_
        refine xP_s rfl rfl rfl ?_
        refine xP_s rfl rfl rfl ?_
        refine xP_if (fun hc => ?_) (fun hc => ?_)
        · exact nw
        · repeat' first
            | exact nw
            | refine xP_s rfl rfl rfl ?_
set_option maxRecDepth 100000 in
theorem p_tkVariable {sc : xSc} {d g u p v e : Nat} {A : List xC} {G : xG} {t w : List Nat} {vs : List (List Nat)} {P : xO → xH → Prop} (ht : xTk A u p v G) (hs : xRw A 1 120 t) (hvt : xVT t G u vs) (hv : v = vs.length) (hu : u < 120) (hpe : p ≤ e) (he : e ≤ t.length) (hw : (t.drop p).take (e - p) = w)
    (k0 : 24 < w.length → P (.inl (some (.int 0))) (A, g))
    (k : w.length ≤ 24 → ∀ A', xTk A' (u + 1) e (vnx vs w).length (xTn G u 2 p e (nI (vno vs w)) (nI w.length) 0) → xSame A A' [18, 19, 20, 21, 22, 23, 24] → P (.inl (some (.int 1))) (A', g)) : xM1 sc (d + 3) 107 [.ref 18, .int (nI e)] (A, g) P := by
  have h18 := ht.2.1
  have hl := hs.len
  have h24 : (24 : Int32).toInt = 24 := rfl
  have hwl : w.length = e - p := by
    rw [← hw, List.length_take, List.length_drop]
    omega
  have hD : (nI (e - p)).toInt = ((e - p : Nat) : Int) := nI_toInt (by omega)
  unfold xM1
  refine xP_s rfl rfl rfl ?_
  refine xP_s rfl rfl rfl ?_
  refine xP_get rfl h18 rfl ?_
  refine xP_s rfl rfl rfl ?_
  rw [nI_subN hpe]
  refine xP_s rfl rfl rfl ?_
  refine xP_s rfl rfl rfl ?_
  refine xP_s rfl rfl rfl ?_
  refine xP_s rfl rfl rfl ?_
  refine xP_if (fun hc => ?_) (fun hc => ?_)
  · have := xc_t hc
    dsimp only at this
    repeat' first
      | refine xP_s rfl rfl rfl ?_
      | refine xP_ret rfl rfl rfl ?_
    exact k0 (by omega)
  · have := xc_f hc
    dsimp only at this
    refine xP_s rfl rfl rfl ?_
    refine xP_s rfl rfl rfl ?_
    refine xP_s rfl rfl rfl ?_
    refine xP_s rfl rfl rfl ?_
    refine xP_s rfl rfl rfl ?_
    refine xP_cv rfl rfl rfl rfl rfl h18 (p_variableNumber ht hs hvt hv hwl (by omega) hw (fun A1 q1 q2 => ?_))
    refine xP_s rfl rfl rfl ?_
    refine xP_s rfl rfl rfl ?_
    refine xP_cv rfl rfl rfl rfl rfl q1.2.1 (p_tadd q1 hu (fun A2 z1 z2 => ?_))
    repeat' first
      | refine xP_s rfl rfl rfl ?_
      | refine xP_ret rfl rfl rfl ?_
    rw [← hwl] at z1
    exact k (by omega) A2 z1 ((q2.trans z2).wide (by decide))
/-- a digit of base 16 (true) or 10 -/
def dg (b : Bool) (c : Nat) : Option Nat := if isDg c then some (c - 48) else if b && (decide (97 ≤ c) && decide (c ≤ 102)) then some (c - 87) else none
def bas (b : Bool) : Nat := if b then 16 else 10
set_option maxRecDepth 100000 in
theorem dg_nI : ∀ b c, c < 128 → dgI b (nI c) = (match dg b c with | some x => nI x | none => -1) := by decide
theorem dg_lt {b : Bool} {c x : Nat} (h : dg b c = some x) : x < 16 := by
  unfold dg at h
  split at h
  next hc =>
    cases h
    simp [isDg] at hc
    omega
  next =>
    split at h
    next hc =>
      cases h
      simp at hc
      omega
    next => cases h
/-- digits: their value, up to what an int holds, and what is left -/
def dgr (b : Bool) : List Nat → Nat → Option (Nat × List Nat)
  | [], a => some (a, [])
  | c :: r, a => match dg b c with
    | none => some (a, c :: r)
    | some x => if 2147483647 < a * bas b + x then none else dgr b r (a * bas b + x)
theorem lN_T {n : Nat} (h : n < 2 ^ 63) : (lN n).toInt = (n : Int) := lg_ofNat_toInt h
theorem lcI (n : Nat) (h : n < 2 ^ 63) : (lg_cmp (lN n) 2147483647).toInt ≤ 0 ↔ n ≤ 2147483647 := by
  have e : (2147483647 : Int64).toInt = 2147483647 := rfl
  have q := lg_cmp_le (lN n) 2147483647
  rw [Int32.le_iff_toInt_le, Int64.le_iff_toInt_le, lN_T h, e] at q
  rw [show (0 : Int) = (0 : Int32).toInt from rfl, q]
  omega
theorem bas_l (b : Bool) : (if b = true then (16 : Int32) else 10).toInt64 = lN (bas b) := by cases b <;> rfl
set_option maxRecDepth 100000 in
theorem p_digitsLoop {sc : xSc} {d g u p v f : Nat} {A : List xC} {G : xG} {t : List Nat} {b : Bool} {P : xO → xH → Prop} (ht : xTk A u p v G) (hs : xRw A 1 120 t) (hu : u < 120) : ∀ (s : List Nat) (i a : Nat), t.drop i = s → i ≤ t.length → a ≤ 2147483647 →
    (dgr b s a = none → P (.inl (some (.int 0))) (A, g)) →
    (∀ A' q, dgr b s a = some q → xTk A' (u + 1) (t.length - q.2.length) v (xTn G u 3 p (t.length - q.2.length) (nI q.1) 0 0) → xSame A A' [18, 19, 20, 21, 22, 23, 24] → P (.inl (some (.int 1))) (A', g)) →
    xP sc (d + 2) 111 8 [(0, .ref 18), (1, .int (nI f)), (2, .int (if b then 16 else 10)), (3, .long (lN a)), (5, .int (nI i)), (6, .int (nI i))] [] (A, g) P := by
  have fin : ∀ (i a : Nat) (s : List Nat) (ex : xL), i = t.length - s.length → (ex = [] ∨ ∃ x, ex = [(7, .int x)]) → (∀ A', xTk A' (u + 1) (t.length - s.length) v (xTn G u 3 p (t.length - s.length) (nI a) 0 0) → xSame A A' [18, 19, 20, 21, 22, 23, 24] → P (.inl (some (.int 1))) (A', g)) → xP sc (d + 2) 111 75 ([(0, .ref 18), (1, .int (nI f)), (2, .int (if b then 16 else 10)), (3, .long (lN a)), (5, .int (nI i)), (6, .int (nI i))] ++ ex) [] (A, g) P := by
    intro i a s ex hi hex k
    have h18 := ht.2.1
    have base : xP sc (d + 2) 111 75 [(0, .ref 18), (1, .int (nI f)), (2, .int (if b then 16 else 10)), (3, .long (lN a)), (5, .int (nI i)), (6, .int (nI i))] [] (A, g) P := by
      refine xP_s rfl rfl rfl ?_
      refine xP_s rfl rfl rfl ?_
      refine xP_s rfl rfl rfl ?_
      refine xP_s rfl rfl rfl ?_
      refine xP_s rfl rfl rfl ?_
      refine xP_s rfl rfl rfl ?_
      refine xP_s rfl rfl rfl ?_
      rw [lN_i]
      refine xP_cv rfl rfl rfl rfl rfl h18 (p_tadd ht hu (fun A1 q1 q2 => ?_))
      repeat' first
        | refine xP_s rfl rfl rfl ?_
        | refine xP_ret rfl rfl rfl ?_
      rw [hi] at q1
      exact k A1 q1 q2
    rcases hex with rfl | ⟨x, rfl⟩
    · exact base
    · exact xP_more [(7, .int x)] rfl base
  intro s
  induction s with
  | nil =>
    intro i a hd hi ha k0 k1
    have h18 := ht.2.1
    have hl := hs.len
    have e := drop_n hd hi
    have hI : (nI i).toInt = (i : Int) := nI_toInt (by omega)
    have hL : (nI t.length).toInt = (t.length : Int) := nI_toInt (by omega)
    have fn := fin i a [] [] (by rw [List.length_nil]; exact e) (Or.inl rfl) (fun A' q1 q2 => k1 A' (a, []) rfl q1 q2)
    refine xP_s rfl rfl rfl ?_
    refine xP_s rfl rfl rfl ?_
    refine xP_get rfl h18 rfl ?_
    refine xP_cv rfl rfl rfl rfl rfl hs.obj (p_length hs ?_)
    refine xP_s rfl rfl rfl ?_
    refine xP_if (fun hc => ?_) (fun hc => ?_)
    · exact fn
    · have := xc_f hc
      dsimp only at this
      omega
  | cons c r ih =>
    intro i a hd hi ha k0 k1
    have h18 := ht.2.1
    have hl := hs.len
    obtain ⟨hd1, hlt⟩ := drop_s hd
    have hI : (nI i).toInt = (i : Int) := nI_toInt (by omega)
    have hL : (nI t.length).toInt = (t.length : Int) := nI_toInt (by omega)
    have hc128 : c < 128 := hs.chr c (List.mem_of_mem_drop (hd ▸ List.mem_cons_self))
    have hbas : bas b ≤ 16 := by cases b <;> decide
    refine xP_s rfl rfl rfl ?_
    refine xP_s rfl rfl rfl ?_
    refine xP_get rfl h18 rfl ?_
    refine xP_cv rfl rfl rfl rfl rfl hs.obj (p_length hs ?_)
    refine xP_s rfl rfl rfl ?_
    refine xP_if (fun hc => ?_) (fun hc => ?_)
    · have := xc_t hc
      dsimp only at this
      omega
    · refine xP_s rfl rfl rfl ?_
      refine xP_get rfl h18 rfl ?_
      refine xP_s rfl rfl rfl ?_
      refine xP_cv rfl rfl rfl rfl rfl hs.obj (p_at hs (by decide) (by decide) ?_)
      rw [cAt_sfx0 hd (by omega), oc_0]
      refine xP_s rfl rfl rfl ?_
      refine xP_call rfl rfl rfl (p_digit ?_)
      rw [dg_nI b c hc128]
      cases hx : dg b c with
      | none =>
        have fn := fin i a (c :: r) [(7, .int (-1))] (drop_len hd hi) (Or.inr ⟨_, rfl⟩) (fun A' q1 q2 => k1 A' (a, c :: r) (by unfold dgr; rw [hx]) q1 q2)
        repeat' first
          | exact fn
          | refine xP_s rfl rfl rfl ?_
      | some x =>
        have hx16 := dg_lt hx
        have hmul : a * bas b ≤ 2147483647 * 16 := Nat.mul_le_mul ha hbas
        have hX : (nI x).toInt = (x : Int) := nI_toInt (by omega)
        have ev : lN a * (if b = true then (16 : Int32) else 10).toInt64 + (nI x).toInt64 = lN (a * bas b + x) := by
          rw [bas_l, nI_l (by omega), lN_mul, lN_add]
        have hcm := lcI (a * bas b + x) (by omega)
        have e0 : dgr b (c :: r) a = (if 2147483647 < a * bas b + x then none else dgr b r (a * bas b + x)) := by
          conv => lhs; unfold dgr
          rw [hx]
        rw [e0] at k0 k1
        dsimp only
        refine xP_s rfl rfl rfl ?_
        refine xP_s rfl rfl rfl ?_
        refine xP_s rfl rfl rfl ?_
        refine xP_s rfl rfl rfl ?_
        refine xP_if (fun hc => ?_) (fun hc => ?_)
        · refine xP_s rfl rfl rfl ?_
          refine xP_s rfl rfl rfl ?_
          refine xP_s rfl rfl rfl ?_
          refine xP_s rfl rfl rfl ?_
          refine xP_s rfl rfl rfl ?_
          refine xP_s rfl rfl rfl ?_
          refine xP_s rfl rfl rfl ?_
          rw [ev]
          refine xP_s rfl rfl rfl ?_
          refine xP_s rfl rfl rfl ?_
          refine xP_s rfl rfl rfl ?_
          refine xP_s rfl rfl rfl ?_
          refine xP_s rfl rfl rfl ?_
          refine xP_if (fun hc => ?_) (fun hc => ?_)
          · have hle := xc_t hc
            dsimp only at hle
            have hle := hcm.mp hle
            rw [if_neg (by omega)] at k0 k1
            have go := xP_more [(7, .int (nI x))] rfl (nI_1 i ▸ ih (i + 1) (a * bas b + x) hd1 (by omega) hle k0 k1)
            repeat' first
              | exact go
              | refine xP_s rfl rfl rfl ?_
          · have hgt := xc_f hc
            dsimp only at hgt
            rw [if_pos (by
              rcases Nat.lt_or_ge 2147483647 (a * bas b + x) with z | z
              · exact z
              · have := hcm.mpr z
                have h0 : (0 : Int32).toInt = 0 := rfl
                omega)] at k0
            repeat' first
              | refine xP_s rfl rfl rfl ?_
              | refine xP_ret rfl rfl rfl ?_
            exact k0 rfl
        · exact absurd (xc_f hc) (nI_neg1 (by omega))
set_option maxRecDepth 100000 in
theorem p_addDigits {sc : xSc} {d g u p v f : Nat} {A : List xC} {G : xG} {t s : List Nat} {b : Bool} {P : xO → xH → Prop} (ht : xTk A u p v G) (hs : xRw A 1 120 t) (hu : u < 120) (hd : t.drop f = s) (hf : f ≤ t.length)
    (k0 : dgr b s 0 = none → P (.inl (some (.int 0))) (A, g))
    (k1 : ∀ A' q, dgr b s 0 = some q → xTk A' (u + 1) (t.length - q.2.length) v (xTn G u 3 p (t.length - q.2.length) (nI q.1) 0 0) → xSame A A' [18, 19, 20, 21, 22, 23, 24] → P (.inl (some (.int 1))) (A', g)) : xM1 sc (d + 2) 111 [.ref 18, .int (nI f), .int (if b then 16 else 10)] (A, g) P := by
  have go := p_digitsLoop (sc := sc) (d := d) (g := g) (f := f) (b := b) (P := P) ht hs hu s f 0 hd hf (by omega) k0 k1
  unfold xM1
  repeat' first
    | exact go
    | refine xP_s rfl rfl rfl ?_
/-- a string: its characters and what is left -/
def strq : List Nat → Option (List Nat × List Nat)
  | [] => none
  | c :: r => if c = 34 then some ([], r) else if c = 92 then none else (strq r).map (fun q => (c :: q.1, q.2))
set_option maxRecDepth 100000 in
theorem p_stringLoop {sc : xSc} {d g u p v : Nat} {A : List xC} {G : xG} {t : List Nat} {P : xO → xH → Prop} (ht : xTk A u p v G) (hs : xRw A 1 120 t) (hu : u < 120) : ∀ (s : List Nat) (i n : Nat), t.drop i = s → i ≤ t.length → i = p + 1 + n →
    ((strq s = none ∨ ∃ q, strq s = some q ∧ 12 < n + q.1.length) → P (.inl (some (.int 0))) (A, g)) →
    (∀ A' q, strq s = some q → n + q.1.length ≤ 12 → xTk A' (u + 1) (t.length - q.2.length) v (xTn G u 4 p (t.length - q.2.length) (nI (p + 1)) (nI (n + q.1.length)) 0) → xSame A A' [18, 19, 20, 21, 22, 23, 24] → P (.inl (some (.int 1))) (A', g)) →
    xP sc (d + 2) 112 9 [(0, .ref 18), (1, .int (nI (p + 1))), (2, .int (nI i))] [] (A, g) P
  | [], i, n, hd, hi, hin, k0, k1 => by
    have h18 := ht.2.1
    have hl := hs.len
    have e := drop_n hd hi
    have hI : (nI i).toInt = (i : Int) := nI_toInt (by omega)
    have hL : (nI t.length).toInt = (t.length : Int) := nI_toInt (by omega)
    refine xP_s rfl rfl rfl ?_
    refine xP_s rfl rfl rfl ?_
    refine xP_get rfl h18 rfl ?_
    refine xP_cv rfl rfl rfl rfl rfl hs.obj (p_length hs ?_)
    refine xP_s rfl rfl rfl ?_
    refine xP_if (fun hc => ?_) (fun hc => ?_)
    · repeat' first
        | refine xP_s rfl rfl rfl ?_
        | refine xP_ret rfl rfl rfl ?_
      exact k0 (Or.inl rfl)
    · have := xc_f hc
      dsimp only at this
      omega
  | c :: r, i, n, hd, hi, hin, k0, k1 => by
    have h18 := ht.2.1
    have hl := hs.len
    obtain ⟨hd1, hlt⟩ := drop_s hd
    have h34 : (34 : Int32).toInt = 34 := rfl
    have h92 : (92 : Int32).toInt = 92 := rfl
    have h12 : (12 : Int32).toInt = 12 := rfl
    have hI : (nI i).toInt = (i : Int) := nI_toInt (by omega)
    have hL : (nI t.length).toInt = (t.length : Int) := nI_toInt (by omega)
    have hNn : (nI n).toInt = (n : Int) := nI_toInt (by omega)
    have hc128 : c < 128 := hs.chr c (List.mem_of_mem_drop (hd ▸ List.mem_cons_self))
    have hC : (nI c).toInt = (c : Int) := nI_toInt (by omega)
    have esub : nI i - nI (p + 1) = nI n := by
      rw [nI_subN (by omega)]
      congr 1
      omega
    refine xP_s rfl rfl rfl ?_
    refine xP_s rfl rfl rfl ?_
    refine xP_get rfl h18 rfl ?_
    refine xP_cv rfl rfl rfl rfl rfl hs.obj (p_length hs ?_)
    refine xP_s rfl rfl rfl ?_
    refine xP_if (fun hc => ?_) (fun hc => ?_)
    · have := xc_t hc
      dsimp only at this
      omega
    · refine xP_s rfl rfl rfl ?_
      refine xP_get rfl h18 rfl ?_
      refine xP_s rfl rfl rfl ?_
      refine xP_cv rfl rfl rfl rfl rfl hs.obj (p_at hs (by decide) (by decide) ?_)
      rw [cAt_sfx0 hd (by omega), oc_0]
      refine xP_s rfl rfl rfl ?_
      refine xP_s rfl rfl rfl ?_
      refine xP_s rfl rfl rfl ?_
      refine xP_s rfl rfl rfl ?_
      refine xP_if (fun hc => ?_) (fun hc => ?_)
      · have n34 := xc_t hc
        dsimp only at n34
        refine xP_s rfl rfl rfl ?_
        refine xP_s rfl rfl rfl ?_
        refine xP_s rfl rfl rfl ?_
        refine xP_if (fun hc => ?_) (fun hc => ?_)
        · have n92 := xc_t hc
          dsimp only at n92
          have e : strq (c :: r) = (strq r).map (fun q => (c :: q.1, q.2)) := by
            conv => lhs; unfold strq
            rw [if_neg (by omega), if_neg (by omega)]
          have go := p_stringLoop (sc := sc) (d := d) (g := g) (P := P) ht hs hu r (i + 1) (n + 1) hd1 (by omega) (by omega) (fun z => k0 (by
            rw [e]
            rcases z with z | ⟨q, z1, z2⟩
            · exact Or.inl (by rw [z]; rfl)
            · exact Or.inr ⟨(c :: q.1, q.2), by rw [z1]; rfl, by rw [List.length_cons]; omega⟩)) (fun A' q z1 z2 z3 z4 => k1 A' (c :: q.1, q.2) (by rw [e, z1]; rfl) (by rw [List.length_cons]; omega) (by
              rw [List.length_cons, show n + (q.1.length + 1) = n + 1 + q.1.length by omega]
              exact z3) z4)
          rw [← nI_1 i] at go
          have go1 := xP_more [(3, .int (nI c))] rfl go
          repeat' first
            | exact go1
            | refine xP_s rfl rfl rfl ?_
        · have n92 := xc_f hc
          dsimp only at n92
          repeat' first
            | refine xP_s rfl rfl rfl ?_
            | refine xP_ret rfl rfl rfl ?_
          refine k0 (Or.inl ?_)
          unfold strq
          rw [if_neg (by omega), if_pos (by omega)]
      · have n34 := xc_f hc
        dsimp only at n34
        have e : strq (c :: r) = some ([], r) := by
          conv => lhs; unfold strq
          rw [if_pos (by omega)]
        have er : t.length - r.length = i + 1 := (drop_len hd1 (by omega)).symm
        refine xP_s rfl rfl rfl ?_
        refine xP_s rfl rfl rfl ?_
        refine xP_s rfl rfl rfl ?_
        rw [esub]
        refine xP_s rfl rfl rfl ?_
        refine xP_s rfl rfl rfl ?_
        refine xP_s rfl rfl rfl ?_
        refine xP_s rfl rfl rfl ?_
        refine xP_if (fun hc => ?_) (fun hc => ?_)
        · have := xc_t hc
          dsimp only at this
          repeat' first
            | refine xP_s rfl rfl rfl ?_
            | refine xP_ret rfl rfl rfl ?_
          exact k0 (Or.inr ⟨_, e, by rw [List.length_nil]; omega⟩)
        · have := xc_f hc
          dsimp only at this
          refine xP_s rfl rfl rfl ?_
          refine xP_s rfl rfl rfl ?_
          refine xP_s rfl rfl rfl ?_
          refine xP_s rfl rfl rfl ?_
          refine xP_s rfl rfl rfl ?_
          rw [nI_1 i]
          refine xP_s rfl rfl rfl ?_
          refine xP_s rfl rfl rfl ?_
          refine xP_s rfl rfl rfl ?_
          refine xP_cv rfl rfl rfl rfl rfl h18 (p_tadd ht hu (fun A1 q1 q2 => ?_))
          repeat' first
            | refine xP_s rfl rfl rfl ?_
            | refine xP_ret rfl rfl rfl ?_
          refine k1 A1 _ e (by rw [List.length_nil]; omega) ?_ q2
          rw [er]
          exact q1
set_option maxRecDepth 100000 in
theorem p_tkString {sc : xSc} {d g u p v : Nat} {A : List xC} {G : xG} {t s : List Nat} {P : xO → xH → Prop} (ht : xTk A u p v G) (hs : xRw A 1 120 t) (hu : u < 120) (hd : t.drop (p + 1) = s) (hp : p + 1 ≤ t.length)
    (k0 : (strq s = none ∨ ∃ q, strq s = some q ∧ 12 < q.1.length) → P (.inl (some (.int 0))) (A, g))
    (k1 : ∀ A' q, strq s = some q → q.1.length ≤ 12 → xTk A' (u + 1) (t.length - q.2.length) v (xTn G u 4 p (t.length - q.2.length) (nI (p + 1)) (nI q.1.length) 0) → xSame A A' [18, 19, 20, 21, 22, 23, 24] → P (.inl (some (.int 1))) (A', g)) : xM1 sc (d + 2) 112 [.ref 18] (A, g) P := by
  have h18 := ht.2.1
  have go := p_stringLoop (sc := sc) (d := d) (g := g) (P := P) ht hs hu s (p + 1) 0 hd hp (by omega) (fun z => k0 (by simpa using z)) (fun A' q z1 z2 z3 z4 => k1 A' q z1 (by omega) (by rw [Nat.zero_add] at z3; exact z3) z4)
  rw [← nI_1] at go
  unfold xM1
  repeat' first
    | exact go
    | refine xP_s rfl rfl rfl ?_
    | refine xP_get rfl h18 rfl ?_
end
section
-- numbers; what a token is
def dgO (b : Bool) (s : List Nat) : Option Nat := match s with
  | [] => none
  | x :: _ => dg b x
/-- a number: its value and what is left -/
def lexN (c : Nat) (r : List Nat) : Option (Nat × List Nat) :=
  if c = 48 ∧ r.head? = some 39 then (match r.tail with
    | [] => none
    | x :: r3 => if x = 39 ∨ x = 92 then none else some (x, r3))
  else if c = 48 ∧ r.head? = some 120 ∧ (dgO true r.tail).isSome = true then dgr true r.tail 0 else dgr false (c :: r) 0
theorem oc_hd {s : List Nat} (x : Nat) (hs : ∀ c ∈ s, c < 128) : (oc s 0).toInt = x ↔ s.head? = some x := by
  rw [oc_c x hs, List.head?_eq_getElem?]
theorem oc_t (s : List Nat) : oc s 1 = oc s.tail 0 := by
  cases s with
  | nil => rfl
  | cons c r => rfl
set_option maxRecDepth 100000 in
theorem p_tkInteger {sc : xSc} {d g u p v c : Nat} {A : List xC} {G : xG} {t r : List Nat} {P : xO → xH → Prop} (ht : xTk A u p v G) (hs : xRw A 1 120 t) (hu : u < 120) (hd : t.drop p = c :: r)
    (k0 : lexN c r = none → P (.inl (some (.int 0))) (A, g))
    (k1 : ∀ A' q, lexN c r = some q → xTk A' (u + 1) (t.length - q.2.length) v (xTn G u 3 p (t.length - q.2.length) (nI q.1) 0 0) → xSame A A' [18, 19, 20, 21, 22, 23, 24] → P (.inl (some (.int 1))) (A', g)) : xM1 sc (d + 3) 110 [.ref 18, .int (nI c), .int (oc r 0)] (A, g) P := by
  have h18 := ht.2.1
  have hl := hs.len
  obtain ⟨hd1, hlt⟩ := drop_s hd
  have hch : ∀ x ∈ c :: r, x < 128 := fun x hx => hs.chr x (List.mem_of_mem_drop (hd ▸ hx))
  have hchr : ∀ x ∈ r, x < 128 := fun x hx => hch x (List.mem_cons_of_mem _ hx)
  have hc128 := hch c List.mem_cons_self
  have hC : (nI c).toInt = (c : Int) := nI_toInt (by omega)
  have h48 : (48 : Int32).toInt = 48 := rfl
  have h39 : (39 : Int32).toInt = 39 := rfl
  have h92 : (92 : Int32).toInt = 92 := rfl
  have h120 : (120 : Int32).toInt = 120 := rfl
  have o39 : (oc r 0).toInt = 39 ↔ r.head? = some 39 := oc_hd 39 hchr
  have o120 : (oc r 0).toInt = 120 ↔ r.head? = some 120 := oc_hd 120 hchr
  have dec : ¬ (c = 48 ∧ r.head? = some 39) → ¬ (c = 48 ∧ r.head? = some 120 ∧ (dgO true r.tail).isSome = true) → xP sc (d + 3) 110 113 [(0, .ref 18), (1, .int (nI c)), (2, .int (oc r 0))] [] (A, g) P := by
    intro n1 n2
    have e : lexN c r = dgr false (c :: r) 0 := by
      unfold lexN
      rw [if_neg n1, if_neg n2]
    rw [e] at k0 k1
    refine xP_s rfl rfl rfl ?_
    refine xP_s rfl rfl rfl ?_
    refine xP_get rfl h18 rfl ?_
    refine xP_s rfl rfl rfl ?_
    refine xP_cv rfl rfl rfl rfl rfl h18 (p_addDigits (b := false) ht hs hu hd (by omega) (fun z => ?_) (fun A' q z1 z2 z3 => ?_))
    · repeat' first
        | refine xP_s rfl rfl rfl ?_
        | refine xP_ret rfl rfl rfl ?_
      exact k0 z
    · repeat' first
        | refine xP_s rfl rfl rfl ?_
        | refine xP_ret rfl rfl rfl ?_
      exact k1 A' q z1 z2 z3
  have mid : ¬ (c = 48 ∧ r.head? = some 39) → xP sc (d + 3) 110 66 [(0, .ref 18), (1, .int (nI c)), (2, .int (oc r 0))] [] (A, g) P := by
    intro n1
    refine xP_s rfl rfl rfl ?_
    refine xP_s rfl rfl rfl ?_
    refine xP_s rfl rfl rfl ?_
    refine xP_if (fun hc => ?_) (fun hc => ?_)
    · have := xc_t hc
      dsimp only at this
      exact dec n1 (by omega)
    · have q1 := xc_f hc
      dsimp only at q1
      refine xP_s rfl rfl rfl ?_
      refine xP_s rfl rfl rfl ?_
      refine xP_s rfl rfl rfl ?_
      refine xP_if (fun hc => ?_) (fun hc => ?_)
      · have q2 := xc_t hc
        dsimp only at q2
        exact dec n1 (fun z => q2 (o120.mpr z.2.1))
      · have q2 := xc_f hc
        dsimp only at q2
        have q2 := o120.mp q2
        refine xP_s rfl rfl rfl ?_
        refine xP_get rfl h18 rfl ?_
        refine xP_s rfl rfl rfl ?_
        refine xP_get rfl h18 rfl ?_
        refine xP_s rfl rfl rfl ?_
        refine xP_s rfl rfl rfl ?_
        rw [show nI p + 2 = nI (p + 2) from nI_add p 2]
        refine xP_cv rfl rfl rfl rfl rfl hs.obj (p_at hs (by decide) (by decide) ?_)
        rw [cAt_sfx hd (by omega), oc_s, oc_t]
        refine xP_s rfl rfl rfl ?_
        refine xP_call rfl rfl rfl (p_digit (b := true) ?_)
        cases r with
        | nil => cases q2
        | cons c2 r2 =>
          rw [List.tail_cons] at dec ⊢
          obtain ⟨hd2, hlt2⟩ := drop_s hd1
          cases r2 with
          | nil =>
            have dc := dec n1 (fun z => by cases z.2.2)
            repeat' first
              | exact dc
              | refine xP_s rfl rfl rfl ?_
          | cons c3 r3 =>
            rw [oc_0, dg_nI true c3 (hchr c3 (by simp))]
            cases hx : dg true c3 with
            | none =>
              have dc := dec n1 (fun z => by
                have := z.2.2
                rw [show dgO true (c3 :: r3) = dg true c3 from rfl, hx] at this
                cases this)
              repeat' first
                | exact dc
                | refine xP_s rfl rfl rfl ?_
            | some x =>
              have hx16 := dg_lt hx
              have e : lexN c (c2 :: c3 :: r3) = dgr true (c3 :: r3) 0 := by
                unfold lexN
                rw [if_neg n1, if_pos ⟨by omega, q2, by rw [List.tail_cons, show dgO true (c3 :: r3) = dg true c3 from rfl, hx]; rfl⟩]
                rfl
              rw [e] at k0 k1
              dsimp only
              refine xP_s rfl rfl rfl ?_
              refine xP_s rfl rfl rfl ?_
              refine xP_if (fun hc => ?_) (fun hc => ?_)
              · exact absurd (xc_t hc) (nI_neg1 (by omega))
              · refine xP_s rfl rfl rfl ?_
                refine xP_s rfl rfl rfl ?_
                refine xP_get rfl h18 rfl ?_
                refine xP_s rfl rfl rfl ?_
                refine xP_s rfl rfl rfl ?_
                rw [show nI p + 2 = nI (p + 2) from nI_add p 2]
                refine xP_s rfl rfl rfl ?_
                refine xP_cv rfl rfl rfl rfl rfl h18 (p_addDigits (b := true) ht hs hu hd2 (by omega) (fun z => ?_) (fun A' q z1 z2 z3 => ?_))
                · repeat' first
                    | refine xP_s rfl rfl rfl ?_
                    | refine xP_ret rfl rfl rfl ?_
                  exact k0 z
                · repeat' first
                    | refine xP_s rfl rfl rfl ?_
                    | refine xP_ret rfl rfl rfl ?_
                  exact k1 A' q z1 z2 z3
  unfold xM1
  refine xP_s rfl rfl rfl ?_
  refine xP_s rfl rfl rfl ?_
  refine xP_s rfl rfl rfl ?_
  refine xP_if (fun hc => ?_) (fun hc => ?_)
  · have := xc_t hc
    dsimp only at this
    exact mid (by omega)
  · have q1 := xc_f hc
    dsimp only at q1
    refine xP_s rfl rfl rfl ?_
    refine xP_s rfl rfl rfl ?_
    refine xP_s rfl rfl rfl ?_
    refine xP_if (fun hc => ?_) (fun hc => ?_)
    · have q2 := xc_t hc
      dsimp only at q2
      exact mid (fun z => q2 (o39.mpr z.2))
    · have q2 := xc_f hc
      dsimp only at q2
      have q2 := o39.mp q2
      have e : lexN c r = (match r.tail with | [] => none | x :: r3 => if x = 39 ∨ x = 92 then none else some (x, r3)) := by
        unfold lexN
        rw [if_pos ⟨by omega, q2⟩]
      rw [e] at k0 k1
      refine xP_s rfl rfl rfl ?_
      refine xP_get rfl h18 rfl ?_
      refine xP_s rfl rfl rfl ?_
      refine xP_get rfl h18 rfl ?_
      refine xP_s rfl rfl rfl ?_
      refine xP_s rfl rfl rfl ?_
      rw [show nI p + 2 = nI (p + 2) from nI_add p 2]
      refine xP_cv rfl rfl rfl rfl rfl hs.obj (p_at hs (by decide) (by decide) ?_)
      rw [cAt_sfx hd (by omega), oc_s, oc_t]
      cases r with
      | nil => cases q2
      | cons c2 r2 =>
        rw [List.tail_cons] at k0 k1 ⊢
        obtain ⟨hd2, hlt2⟩ := drop_s hd1
        cases r2 with
        | nil =>
          repeat' first
            | refine xP_s rfl rfl rfl ?_
            | refine xP_ret rfl rfl rfl ?_
          exact k0 rfl
        | cons c3 r3 =>
          have hc3 := hchr c3 (by simp)
          obtain ⟨hd3, hlt3⟩ := drop_s hd2
          have hC3 : (nI c3).toInt = (c3 : Int) := nI_toInt (by omega)
          rw [oc_0]
          refine xP_s rfl rfl rfl ?_
          refine xP_s rfl rfl rfl ?_
          refine xP_s rfl rfl rfl ?_
          refine xP_s rfl rfl rfl ?_
          refine xP_if (fun hc => ?_) (fun hc => ?_)
          · exact absurd (xc_t hc) (nI_neg1 (by omega))
          · refine xP_s rfl rfl rfl ?_
            refine xP_s rfl rfl rfl ?_
            refine xP_s rfl rfl rfl ?_
            refine xP_if (fun hc => ?_) (fun hc => ?_)
            · have := xc_t hc
              dsimp only at this
              repeat' first
                | refine xP_s rfl rfl rfl ?_
                | refine xP_ret rfl rfl rfl ?_
              refine k0 ?_
              dsimp only
              rw [if_pos (by omega)]
            · have z1 := xc_f hc
              dsimp only at z1
              refine xP_s rfl rfl rfl ?_
              refine xP_s rfl rfl rfl ?_
              refine xP_s rfl rfl rfl ?_
              refine xP_if (fun hc => ?_) (fun hc => ?_)
              · have := xc_t hc
                dsimp only at this
                repeat' first
                  | refine xP_s rfl rfl rfl ?_
                  | refine xP_ret rfl rfl rfl ?_
                refine k0 ?_
                dsimp only
                rw [if_pos (by omega)]
              · have z2 := xc_f hc
                dsimp only at z2
                have er : t.length - r3.length = p + 3 := (drop_len hd3 (by omega)).symm
                refine xP_s rfl rfl rfl ?_
                refine xP_s rfl rfl rfl ?_
                refine xP_s rfl rfl rfl ?_
                refine xP_get rfl h18 rfl ?_
                refine xP_s rfl rfl rfl ?_
                refine xP_s rfl rfl rfl ?_
                rw [show nI p + 3 = nI (p + 3) from nI_add p 3]
                refine xP_s rfl rfl rfl ?_
                refine xP_s rfl rfl rfl ?_
                refine xP_s rfl rfl rfl ?_
                refine xP_cv rfl rfl rfl rfl rfl h18 (p_tadd ht hu (fun A1 q1 q2 => ?_))
                repeat' first
                  | refine xP_s rfl rfl rfl ?_
                  | refine xP_ret rfl rfl rfl ?_
                refine k1 A1 (c3, r3) ?_ ?_ q2
                · dsimp only
                  rw [if_neg (by omega)]
                · rw [er]
                  exact q1
/-- kind (0 end, 1 name, 2 variable, 3 number, 4 string, 5 mark, 6 nothing, 7 wrong), value, name, what is left -/
abbrev xTok : Type := Nat × Nat × List Nat × List Nat
def wrg : xTok := (7, 0, [], [])
def lexT : List Nat → xTok
  | [] => (6, 0, [], [])
  | c :: r =>
    if isSm c = true then (if ((c :: r).takeWhile isWd).length ≤ 24 then (1, 0, (c :: r).takeWhile isWd, (c :: r).dropWhile isWd) else wrg)
    else if isLg c = true ∨ c = 95 then (if ((c :: r).takeWhile isWd).length ≤ 24 then (2, 0, (c :: r).takeWhile isWd, (c :: r).dropWhile isWd) else wrg)
    else if isDg c = true then (match lexN c r with
      | some q => (3, q.1, [], q.2)
      | none => wrg)
    else if isSg c = true then (if (c :: r).takeWhile isSg = [46] ∧ (((c :: r).dropWhile isSg).head? = none ∨ ((c :: r).dropWhile isSg).head? = some 32 ∨ ((c :: r).dropWhile isSg).head? = some 37) then (0, 0, [], (c :: r).dropWhile isSg)
      else if ((c :: r).takeWhile isSg).length ≤ 24 then (1, 0, (c :: r).takeWhile isSg, (c :: r).dropWhile isSg) else wrg)
    else if c = 39 then (match qt 120 r with
      | some q => if q.1.length ≤ 24 then (1, 0, q.1, q.2) else wrg
      | none => wrg)
    else if c = 34 then (match strq r with
      | some q => if q.1.length ≤ 12 then (4, 0, q.1, q.2) else wrg
      | none => wrg)
    else if c = 33 ∨ c = 59 then (1, 0, [c], r)
    else if (c = 91 ∧ r.head? = some 93) ∨ (c = 123 ∧ r.head? = some 125) then (1, 0, (c :: r).take 2, r.tail)
    else if isPn c = true then (5, c, [], r) else wrg
theorem lexT_cons (c : Nat) (r : List Nat) : lexT (c :: r) = (
    if isSm c = true then (if ((c :: r).takeWhile isWd).length ≤ 24 then (1, 0, (c :: r).takeWhile isWd, (c :: r).dropWhile isWd) else wrg)
    else if isLg c = true ∨ c = 95 then (if ((c :: r).takeWhile isWd).length ≤ 24 then (2, 0, (c :: r).takeWhile isWd, (c :: r).dropWhile isWd) else wrg)
    else if isDg c = true then (match lexN c r with
      | some q => (3, q.1, [], q.2)
      | none => wrg)
    else if isSg c = true then (if (c :: r).takeWhile isSg = [46] ∧ (((c :: r).dropWhile isSg).head? = none ∨ ((c :: r).dropWhile isSg).head? = some 32 ∨ ((c :: r).dropWhile isSg).head? = some 37) then (0, 0, [], (c :: r).dropWhile isSg)
      else if ((c :: r).takeWhile isSg).length ≤ 24 then (1, 0, (c :: r).takeWhile isSg, (c :: r).dropWhile isSg) else wrg)
    else if c = 39 then (match qt 120 r with
      | some q => if q.1.length ≤ 24 then (1, 0, q.1, q.2) else wrg
      | none => wrg)
    else if c = 34 then (match strq r with
      | some q => if q.1.length ≤ 12 then (4, 0, q.1, q.2) else wrg
      | none => wrg)
    else if c = 33 ∨ c = 59 then (1, 0, [c], r)
    else if (c = 91 ∧ r.head? = some 93) ∨ (c = 123 ∧ r.head? = some 125) then (1, 0, (c :: r).take 2, r.tail)
    else if isPn c = true then (5, c, [], r) else wrg) := rfl
theorem qt_sfx : ∀ {n : Nat} {s : List Nat} {q : List Nat × List Nat}, qt n s = some q → ∃ w, s = w ++ q.2 ∧ q.1.length + 1 ≤ w.length
  | 0, s, q, h => by cases h
  | n + 1, [], q, h => by cases h
  | n + 1, c :: r, q, h => by
    unfold qt at h
    split at h
    · split at h
      next hh =>
        cases hq : qt n r.tail with
        | none =>
          rw [hq] at h
          cases h
        | some q' =>
          rw [hq] at h
          cases h
          obtain ⟨w, e, hw⟩ := qt_sfx hq
          cases r with
          | nil => cases hh
          | cons d r =>
            rw [List.tail_cons] at e
            exact ⟨c :: d :: w, by rw [e]; rfl, by simp; omega⟩
      next =>
        cases h
        exact ⟨[c], rfl, by simp⟩
    · split at h
      · cases r with
        | nil => cases h
        | cons d r2 =>
          dsimp only at h
          cases hx : esc d with
          | none =>
            rw [hx] at h
            cases h
          | some x =>
            rw [hx] at h
            dsimp only at h
            cases hq : qt n r2 with
            | none =>
              rw [hq] at h
              cases h
            | some q' =>
              rw [hq] at h
              cases h
              obtain ⟨w, e, hw⟩ := qt_sfx hq
              exact ⟨c :: d :: w, by rw [e]; rfl, by simp; omega⟩
      · cases hq : qt n r with
        | none =>
          rw [hq] at h
          cases h
        | some q' =>
          rw [hq] at h
          cases h
          obtain ⟨w, e, hw⟩ := qt_sfx hq
          exact ⟨c :: w, by rw [e]; rfl, by simp; omega⟩
theorem strq_sfx : ∀ {s : List Nat} {q : List Nat × List Nat}, strq s = some q → ∃ w, s = w ++ q.2 ∧ w.length = q.1.length + 1 ∧ s.take q.1.length = q.1
  | [], q, h => by cases h
  | c :: r, q, h => by
    unfold strq at h
    split at h
    · cases h
      exact ⟨[c], rfl, rfl, rfl⟩
    · split at h
      · cases h
      · cases hq : strq r with
        | none =>
          rw [hq] at h
          cases h
        | some q' =>
          rw [hq] at h
          cases h
          obtain ⟨w, e, hw, ht⟩ := strq_sfx hq
          refine ⟨c :: w, by rw [e]; rfl, by simp [hw], ?_⟩
          dsimp only
          rw [List.length_cons, List.take_succ_cons, ht]
theorem dgr_sfx {b : Bool} : ∀ {s : List Nat} {a : Nat} {q : Nat × List Nat}, dgr b s a = some q → ∃ w, s = w ++ q.2
  | [], a, q, h => by
    cases h
    exact ⟨[], rfl⟩
  | c :: r, a, q, h => by
    unfold dgr at h
    split at h
    · cases h
      exact ⟨[], rfl⟩
    · split at h
      · cases h
      · obtain ⟨w, e⟩ := dgr_sfx h
        exact ⟨c :: w, by rw [e]; rfl⟩
theorem lexN_sfx {c : Nat} {r : List Nat} {q : Nat × List Nat} (hc : isDg c = true) (h : lexN c r = some q) : ∃ w, c :: r = w ++ q.2 ∧ 1 ≤ w.length := by
  unfold lexN at h
  split at h
  next hh =>
    cases r with
    | nil => cases hh.2
    | cons c2 r2 =>
      rw [List.tail_cons] at h
      cases r2 with
      | nil => cases h
      | cons x r3 =>
        dsimp only at h
        split at h
        · cases h
        · cases h
          exact ⟨[c, c2, x], rfl, by simp⟩
  next =>
    split at h
    next hh =>
      cases r with
      | nil => cases hh.2.1
      | cons c2 r2 =>
        obtain ⟨w, e⟩ := dgr_sfx h
        rw [List.tail_cons] at e
        exact ⟨c :: c2 :: w, by rw [e]; rfl, by simp⟩
    next =>
      unfold dgr at h
      have hx : dg false c = some (c - 48) := by
        unfold dg
        rw [if_pos hc]
      rw [hx] at h
      dsimp only at h
      split at h
      · cases h
      · obtain ⟨w, e⟩ := dgr_sfx h
        exact ⟨c :: w, by rw [e]; rfl, by simp⟩
theorem span_sfx {f : Nat → Bool} {c : Nat} {r : List Nat} (hc : f c = true) : c :: r = (c :: r).takeWhile f ++ (c :: r).dropWhile f ∧ 1 ≤ ((c :: r).takeWhile f).length := by
  refine ⟨List.takeWhile_append_dropWhile.symm, ?_⟩
  rw [List.takeWhile_cons_of_pos hc]
  simp
/-- a token takes at least a character -/
theorem lexT_sfx {s : List Nat} (h : (lexT s).1 < 6) : ∃ w, s = w ++ (lexT s).2.2.2 ∧ 1 ≤ w.length := by
  cases s with
  | nil => exact absurd h (by decide)
  | cons c r =>
    have hwr : ¬ wrg.1 < 6 := by decide
    rw [lexT_cons] at h ⊢
    split
    next h1 =>
      rw [if_pos h1] at h
      split
      · exact ⟨_, (span_sfx (by simp [isWd, h1])).1, (span_sfx (by simp [isWd, h1])).2⟩
      next h2 =>
        rw [if_neg h2] at h
        exact absurd h hwr
    next h1 =>
      rw [if_neg h1] at h
      split
      next h2 =>
        rw [if_pos h2] at h
        have hw : isWd c = true := by
          unfold isWd
          rcases h2 with h2 | h2
          · simp [h2]
          · simp [h2]
        split
        · exact ⟨_, (span_sfx hw).1, (span_sfx hw).2⟩
        next h3 =>
          rw [if_neg h3] at h
          exact absurd h hwr
      next h2 =>
        rw [if_neg h2] at h
        split
        next h3 =>
          rw [if_pos h3] at h
          cases hq : lexN c r with
          | none =>
            rw [hq] at h
            exact absurd h hwr
          | some q => exact lexN_sfx h3 hq
        next h3 =>
          rw [if_neg h3] at h
          split
          next h4 =>
            rw [if_pos h4] at h
            split
            · exact ⟨_, (span_sfx h4).1, (span_sfx h4).2⟩
            next h5 =>
              rw [if_neg h5] at h
              split
              · exact ⟨_, (span_sfx h4).1, (span_sfx h4).2⟩
              next h6 =>
                rw [if_neg h6] at h
                exact absurd h hwr
          next h4 =>
            rw [if_neg h4] at h
            split
            next h5 =>
              rw [if_pos h5] at h
              cases hq : qt 120 r with
              | none =>
                rw [hq] at h
                exact absurd h hwr
              | some q =>
                rw [hq] at h
                dsimp only at h ⊢
                split
                · obtain ⟨w, e, _⟩ := qt_sfx hq
                  exact ⟨c :: w, by rw [e]; rfl, by simp⟩
                next h6 =>
                  rw [if_neg h6] at h
                  exact absurd h hwr
            next h5 =>
              rw [if_neg h5] at h
              split
              next h6 =>
                rw [if_pos h6] at h
                cases hq : strq r with
                | none =>
                  rw [hq] at h
                  exact absurd h hwr
                | some q =>
                  rw [hq] at h
                  dsimp only at h ⊢
                  split
                  · obtain ⟨w, e, _⟩ := strq_sfx hq
                    exact ⟨c :: w, by rw [e]; rfl, by simp⟩
                  next h7 =>
                    rw [if_neg h7] at h
                    exact absurd h hwr
              next h6 =>
                rw [if_neg h6] at h
                split
                · exact ⟨[c], rfl, by simp⟩
                next h7 =>
                  rw [if_neg h7] at h
                  split
                  next h8 =>
                    cases r with
                    | nil =>
                      rcases h8 with h8 | h8
                      · cases h8.2
                      · cases h8.2
                    | cons c2 r => exact ⟨[c, c2], rfl, by simp⟩
                  next h8 =>
                    rw [if_neg h8] at h
                    split
                    · exact ⟨[c], rfl, by simp⟩
                    next h9 =>
                      rw [if_neg h9] at h
                      exact absurd h hwr
end
section
-- the text taken apart: tokens in their rows
def xGa (G G' : xG) (u : Nat) : Prop := ∀ j, j < u → G'.1 j = G.1 j ∧ G'.2.1 j = G.2.1 j ∧ G'.2.2.1 j = G.2.2.1 j ∧ G'.2.2.2.1 j = G.2.2.2.1 j ∧ G'.2.2.2.2.1 j = G.2.2.2.2.1 j ∧ G'.2.2.2.2.2 j = G.2.2.2.2.2 j
theorem xGa.refl (G : xG) (u : Nat) : xGa G G u := fun _ _ => ⟨rfl, rfl, rfl, rfl, rfl, rfl⟩
theorem xGa.trans {G G' G2 : xG} {u u' : Nat} (h : xGa G G' u) (h' : xGa G' G2 u') (hu : u ≤ u') : xGa G G2 u := fun j hj => by
  obtain ⟨a1, a2, a3, a4, a5, a6⟩ := h j hj
  obtain ⟨b1, b2, b3, b4, b5, b6⟩ := h' j (by omega)
  exact ⟨b1.trans a1, b2.trans a2, b3.trans a3, b4.trans a4, b5.trans a5, b6.trans a6⟩
theorem xTn_ga (G : xG) (u : Nat) (x1 : Int32) (p e : Nat) (x4 x5 : Int32) (key : Int64) : xGa G (xTn G u x1 p e x4 x5 key) u := fun j hj => by
  have h : j ≠ u := by omega
  exact ⟨pk_un h, pk_un h, pk_un h, pk_un h, pk_un h, pk_ln h⟩
/-- the rows of a token -/
def tkE (t nm : List Nat) (G : xG) (j p : Nat) (vs : List (List Nat)) (q : xTok) : Prop :=
  G.1 j = nI q.1 ∧ G.2.1 j = nI p ∧ G.2.2.1 j = nI (t.length - q.2.2.2.length) ∧
  (q.1 = 1 → ∃ z, G.2.2.2.1 j = nI z ∧ G.2.2.2.2.1 j = nI q.2.2.1.length ∧ nmAt nm z q.2.2.1 ∧ G.2.2.2.2.2 j = kL q.2.2.1) ∧
  (q.1 = 2 → G.2.2.2.1 j = nI (vno vs q.2.2.1) ∧ vtx t G j q.2.2.1) ∧
  (q.1 = 3 → G.2.2.2.1 j = nI q.2.1) ∧
  (q.1 = 4 → G.2.2.2.1 j = nI (p + 1) ∧ G.2.2.2.2.1 j = nI q.2.2.1.length) ∧
  (q.1 = 5 → G.2.2.2.1 j = nI q.2.1) ∧ (¬ q.1 = 1 → G.2.2.2.2.2 j = if q.1 = 5 ∧ q.2.1 = 44 then 44 else 0)
theorem vtx.ga {t : List Nat} {G G' : xG} {j u : Nat} {w : List Nat} (h : vtx t G j w) (hg : xGa G G' u) (hj : j < u) : vtx t G' j w := by
  obtain ⟨b, h1, h2, h3, h4⟩ := h
  obtain ⟨a1, a2, a3, a4, a5, a6⟩ := hg j hj
  exact ⟨b, a2.trans h1, h2, h3, a5.trans h4⟩
theorem tkE.ga {t nm r : List Nat} {G G' : xG} {j p u : Nat} {vs : List (List Nat)} {q : xTok} (h : tkE t nm G j p vs q) (hg : xGa G G' u) (hj : j < u) : tkE t (nm ++ r) G' j p vs q := by
  obtain ⟨h1, h2, h3, h4, h5, h6, h7, h8, h9⟩ := h
  have hg2 := hg
  obtain ⟨a1, a2, a3, a4, a5, a6⟩ := hg j hj
  refine ⟨a1.trans h1, a2.trans h2, a3.trans h3, fun z => ?_, fun z => ⟨a4.trans (h5 z).1, (h5 z).2.ga hg2 hj⟩, fun z => a4.trans (h6 z), fun z => ⟨a4.trans (h7 z).1, a5.trans (h7 z).2⟩, fun z => a4.trans (h8 z), fun z => a6.trans (h9 z)⟩
  obtain ⟨y, y1, y2, y3, y4⟩ := h4 z
  exact ⟨y, a4.trans y1, a5.trans y2, y3.more, a6.trans y4⟩
def vsx (vs : List (List Nat)) (q : xTok) : List (List Nat) := if q.1 = 2 then vnx vs q.2.2.1 else vs
theorem getElem?_snoc {vs : List (List Nat)} {w w' : List Nat} {i : Nat} (h : (vs ++ [w])[i]? = some w') : vs[i]? = some w' ∨ (i = vs.length ∧ w' = w) := by
  rw [List.getElem?_append] at h
  split at h
  · exact Or.inl h
  · have hl := (List.getElem?_eq_some_iff.mp h).1
    simp at hl
    have e : i - vs.length = 0 := by omega
    rw [e] at h
    have := Option.some.inj h
    exact Or.inr ⟨by omega, this.symm⟩
/-- variables, a token more -/
theorem vt_step {t nm : List Nat} {G G' : xG} {u p : Nat} {vs : List (List Nat)} {q : xTok} (h : xVT t G u vs) (hg : xGa G G' u) (hq : tkE t nm G' u p vs q) (hq7 : q.1 < 6) : xVT t G' (u + 1) (vsx vs q) := by
  obtain ⟨h1, h2, h3, h4⟩ := h
  have hk : (G'.1 u).toInt = (q.1 : Int) := by rw [hq.1, nI_toInt (by omega)]
  have old : ∀ j, j < u → (G'.1 j).toInt = 2 → ∃ w i, vtx t G' j w ∧ G'.2.2.2.1 j = nI i ∧ vs[i]? = some w := by
    intro j hj hk2
    obtain ⟨a1, a2, a3, a4, a5, a6⟩ := hg j hj
    obtain ⟨w, i, z1, z2, z3⟩ := h1 j hj (by rw [← a1]; exact hk2)
    exact ⟨w, i, z1.ga hg hj, a4.trans z2, z3⟩
  have old2 : ∀ (i : Nat) (w : List Nat), vs[i]? = some w → ¬ w = [95] → ∃ j, j < u + 1 ∧ (G'.1 j).toInt = 2 ∧ vtx t G' j w := by
    intro i w hi hw
    obtain ⟨j, z1, z2, z3⟩ := h2 i w hi hw
    exact ⟨j, by omega, by rw [(hg j z1).1]; exact z2, z3.ga hg z1⟩
  unfold vsx
  split
  next h2k =>
    obtain ⟨v1, v2⟩ := hq.2.2.2.2.1 h2k
    generalize hw : q.2.2.1 = w at v1 v2 ⊢
    have new : vno vs w = vs.length → vnx vs w = vs ++ [w] → (¬ w = [95] → ∀ (i : Nat), ¬ vs[i]? = some w) → xVT t G' (u + 1) (vnx vs w) := by
      intro e1 e2 hn
      rw [e2]
      refine ⟨fun j hj hk2 => ?_, fun i w' hi hw' => ?_, fun i i' w' hi hi' hw' => ?_, by simp; omega⟩
      · by_cases e : j = u
        · subst e
          exact ⟨w, vs.length, v2, by rw [v1, e1], by simp⟩
        · obtain ⟨w', i, z1, z2, z3⟩ := old j (by omega) hk2
          exact ⟨w', i, z1, z2, by rw [List.getElem?_append_left (List.getElem?_eq_some_iff.mp z3).1]; exact z3⟩
      · rcases getElem?_snoc hi with z | ⟨z1, z2⟩
        · exact old2 i w' z hw'
        · subst z2
          exact ⟨u, by omega, by rw [hk, h2k]; rfl, v2⟩
      · rcases getElem?_snoc hi with z | ⟨z1, z2⟩
        · rcases getElem?_snoc hi' with y | ⟨y1, y2⟩
          · exact h3 i i' w' z y hw'
          · exact absurd (y2 ▸ z) (hn (y2 ▸ hw') i)
        · rcases getElem?_snoc hi' with y | ⟨y1, y2⟩
          · exact absurd (z2 ▸ y) (hn (z2 ▸ hw') i')
          · omega
    by_cases h95 : w = [95]
    · exact new (by unfold vno; rw [if_pos h95]) (by unfold vnx; rw [if_pos h95]) (fun z => absurd h95 z)
    · cases hx : vix w vs 0 with
      | none => exact new (by unfold vno; rw [if_neg h95, hx]) (by unfold vnx; rw [if_neg h95, hx]) (fun _ i => vix_none hx i)
      | some j =>
        have e1 : vno vs w = j := by unfold vno; rw [if_neg h95, hx]
        have e2 : vnx vs w = vs := by unfold vnx; rw [if_neg h95, hx]
        rw [e2]
        refine ⟨fun j' hj hk2 => ?_, old2, h3, by omega⟩
        by_cases e : j' = u
        · subst e
          exact ⟨w, j, v2, by rw [v1, e1], by have := (vix_some hx).2; simpa using this⟩
        · exact old j' (by omega) hk2
  next h2k =>
    refine ⟨fun j hj hk2 => ?_, old2, h3, by omega⟩
    by_cases e : j = u
    · subst e
      rw [hk] at hk2
      exact absurd (by omega) h2k
    · exact old j (by omega) hk2
theorem tw_take (f : Nat → Bool) : ∀ l : List Nat, l.take (l.takeWhile f).length = l.takeWhile f
  | [] => rfl
  | c :: l => by
    cases h : f c
    · rw [List.takeWhile_cons_of_neg (by simp [h])]
      rfl
    · rw [List.takeWhile_cons_of_pos h, List.length_cons, List.take_succ_cons, tw_take f l]
theorem spn {t s : List Nat} {p : Nat} (f : Nat → Bool) (hd : t.drop p = s) (hp : p ≤ t.length) : p ≤ t.length - (s.dropWhile f).length ∧ t.length - (s.dropWhile f).length ≤ t.length ∧ (t.drop p).take (t.length - (s.dropWhile f).length - p) = s.takeWhile f ∧ t.drop (t.length - (s.dropWhile f).length) = s.dropWhile f := by
  have e : s = s.takeWhile f ++ s.dropWhile f := List.takeWhile_append_dropWhile.symm
  obtain ⟨h1, h2, h3⟩ := sfx_drop hd hp e
  have hl : s.length = t.length - p := by rw [← hd, List.length_drop]
  have hl2 : s.length = (s.takeWhile f).length + (s.dropWhile f).length := by
    conv => lhs; rw [e]
    rw [List.length_append]
  refine ⟨h2, h3, ?_, h1⟩
  rw [hd, show t.length - (s.dropWhile f).length - p = (s.takeWhile f).length by omega]
  exact tw_take f s
theorem p_isLargeN {sc : xSc} {d g c : Nat} {A : List xC} {b : Bool} {P : xO → xH → Prop} (hb : isLg c = b) (hc : c < 2 ^ 31) (k : P (.inl (some (.int (xb b)))) (A, g)) : xM1 sc d 202 [.int (nI c)] (A, g) P := by
  refine p_isLarge ?_
  rw [show iIn 65 90 (nI c) = isLg c from iIn_nI (lo := 65) (hi := 90) hc, hb]
  exact k
theorem p_isDigitN {sc : xSc} {d g c : Nat} {A : List xC} {b : Bool} {P : xO → xH → Prop} (hb : isDg c = b) (hc : c < 2 ^ 31) (k : P (.inl (some (.int (xb b)))) (A, g)) : xM1 sc d 203 [.int (nI c)] (A, g) P := by
  refine p_isDigit ?_
  rw [show iIn 48 57 (nI c) = isDg c from iIn_nI (lo := 48) (hi := 57) hc, hb]
  exact k
theorem p_isPunctN {sc : xSc} {d g c : Nat} {A : List xC} {b : Bool} {P : xO → xH → Prop} (hb : isPn c = b) (hc : c < 128) (k : P (.inl (some (.int (xb b)))) (A, g)) : xM1 sc d 206 [.int (nI c)] (A, g) P := by
  refine p_isPunctuation ?_
  rw [pnI_nI c hc, hb]
  exact k
/-- what a name's rows say -/
theorem tkE_name {t nm w z : List Nat} {G : xG} {u p : Nat} {vs : List (List Nat)} : tkE t (nm ++ w) (xTn G u 1 p (t.length - z.length) (nI nm.length) (nI w.length) (kL w)) u p vs (1, 0, w, z) := by
  refine ⟨pk_us, pk_us, pk_us, fun _ => ⟨nm.length, pk_us, pk_us, ⟨by simp, fun i c hi => ?_⟩, pk_lu⟩, fun h => by simp at h, fun h => by simp at h, fun h => by simp at h, fun h => by simp at h, fun h => absurd rfl h⟩
  rw [List.getElem?_append_right (by omega)]
  simpa using hi
theorem kL_0 : kL [] = 0 := rfl
set_option maxRecDepth 100000 in
theorem p_scanToken {sc : xSc} {d g u p v : Nat} {A : List xC} {G : xG} {t nm s : List Nat} {vs : List (List Nat)} {P : xO → xH → Prop} (ht : xTk A u p v G) (hs : xRw A 1 120 t) (hn : xRw A 5 4926 nm) (hvt : xVT t G u vs) (hv : v = vs.length) (hu : u < 120) (hd : t.drop p = s) (hp : p ≤ t.length) (hr : nm.length + s.length ≤ 4926)
    (k0 : ∀ A' u' p' v' G' w', 6 ≤ (lexT s).1 → xTk A' u' p' v' G' → xRw A' 5 4926 (nm ++ w') → xSame A A' [5, 6, 18, 19, 20, 21, 22, 23, 24] → P (.inl (some (.int 0))) (A', g))
    (k1 : ∀ A' G' w', (lexT s).1 < 6 → xTk A' (u + 1) (t.length - (lexT s).2.2.2.length) (vsx vs (lexT s)).length G' → xGa G G' u → tkE t (nm ++ w') G' u p vs (lexT s) → xRw A' 5 4926 (nm ++ w') → w'.length + (lexT s).2.2.2.length ≤ s.length → xSame A A' [5, 6, 18, 19, 20, 21, 22, 23, 24] → P (.inl (some (.int 1))) (A', g)) : xM1 sc (d + 5) 99 [.ref 18] (A, g) P := by
  have h18 := ht.2.1
  have hl := hs.len
  have hsl : s.length = t.length - p := by rw [← hd, List.length_drop]
  have h0 : ∀ q, lexT s = q → 6 ≤ q.1 → ∀ A' w', xTk A' u p v G → xRw A' 5 4926 (nm ++ w') → xSame A A' [5, 6, 18, 19, 20, 21, 22, 23, 24] → P (.inl (some (.int 0))) (A', g) := fun q e h6 A' w' z1 z2 z3 => k0 A' u p v G w' (by rw [e]; exact h6) z1 z2 z3
  unfold xM1
  refine xP_s rfl rfl rfl ?_
  refine xP_get rfl h18 rfl ?_
  refine xP_s rfl rfl rfl ?_
  refine xP_get rfl h18 rfl ?_
  refine xP_cv rfl rfl rfl rfl rfl hs.obj (p_at hs (by decide) (by decide) ?_)
  rw [cAt_sfx0 hd (by omega)]
  refine xP_s rfl rfl rfl ?_
  refine xP_s rfl rfl rfl ?_
  refine xP_get rfl h18 rfl ?_
  refine xP_s rfl rfl rfl ?_
  refine xP_get rfl h18 rfl ?_
  refine xP_s rfl rfl rfl ?_
  refine xP_s rfl rfl rfl ?_
  rw [nI_1]
  refine xP_cv rfl rfl rfl rfl rfl hs.obj (p_at hs (by decide) (by decide) ?_)
  rw [cAt_sfx hd (by omega)]
  cases s with
  | nil =>
    repeat' first
      | refine xP_s rfl rfl rfl ?_
      | refine xP_call rfl rfl rfl (p_isSmall ?_)
      | refine xP_call rfl rfl rfl (p_isLarge ?_)
      | refine xP_call rfl rfl rfl (p_isDigit ?_)
      | refine xP_call rfl rfl rfl (p_isSign ?_)
      | refine xP_call rfl rfl rfl (p_isPunctuation ?_)
      | refine xP_ret rfl rfl rfl ?_
    exact h0 _ rfl (by decide) A [] ht (by rw [List.append_nil]; exact hn) (xSame.refl _ _)
  | cons c r =>
    obtain ⟨hd1, hlt⟩ := drop_s hd
    have hch : ∀ x ∈ c :: r, x < 128 := fun x hx => hs.chr x (List.mem_of_mem_drop (hd ▸ hx))
    have hchr : ∀ x ∈ r, x < 128 := fun x hx => hch x (List.mem_cons_of_mem _ hx)
    have hc128 := hch c List.mem_cons_self
    have hC : (nI c).toInt = (c : Int) := nI_toInt (by omega)
    have h95 : (95 : Int32).toInt = 95 := rfl
    rw [oc_0, oc_s]
    -- a plain name: from the end e on
    have plain : ∀ (e : Nat) (w z : List Nat), p ≤ e → e ≤ t.length → (t.drop p).take (e - p) = w → e = t.length - z.length → w.length + z.length = (c :: r).length → lexT (c :: r) = (if w.length ≤ 24 then (1, 0, w, z) else wrg) → ∀ (P' : xO → xH → Prop), (∀ A', P (.inl (some (.int 0))) (A', g) → P' (.inl (some (.int 0))) (A', g)) → (∀ A', P (.inl (some (.int 1))) (A', g) → P' (.inl (some (.int 1))) (A', g)) → xM1 sc (d + 4) 103 [.ref 18, .int (nI e)] (A, g) P' := by
      intro e w z e1 e2 e3 e4 e5 e6 P' p0 p1
      subst e4
      have hwl : w.length = t.length - z.length - p := by
        rw [← e3, List.length_take, List.length_drop]
        omega
      refine p_addPlainName ht hs hn hu e1 e2 e3 (by omega) (fun hz A' z1 z2 z3 => p0 A' ?_) (fun hz A' z1 z2 z3 => p1 A' ?_)
      · rw [if_neg (by omega)] at e6
        exact h0 _ e6 (by decide) A' w z1 z2 z3
      · rw [if_pos hz] at e6
        rw [e6] at k1
        exact k1 A' _ w (by simp) (by rw [hv] at z1; exact z1) (xTn_ga _ _ _ _ _ _ _ _) tkE_name z2 (by dsimp only; omega) z3
    have vr : lexT (c :: r) = (if ((c :: r).takeWhile isWd).length ≤ 24 then (2, 0, (c :: r).takeWhile isWd, (c :: r).dropWhile isWd) else wrg) → xP sc (d + 5) 99 56 [(0, .ref 18), (1, .int (nI c)), (2, .int (oc r 0))] [] (A, g) P := by
      intro e0
      obtain ⟨s1, s2, s3, s4⟩ := spn isWd hd hp
      have hwz : ((c :: r).takeWhile isWd).length + ((c :: r).dropWhile isWd).length = (c :: r).length := by rw [← List.length_append, List.takeWhile_append_dropWhile]
      refine xP_s rfl rfl rfl ?_
      refine xP_s rfl rfl rfl ?_
      refine xP_s rfl rfl rfl ?_
      refine xP_cv rfl rfl rfl rfl rfl h18 (p_behindRow (b := false) ht hs hd hp ?_)
      refine xP_cv rfl rfl rfl rfl rfl h18 (p_tkVariable ht hs hvt hv hu s1 s2 s3 (fun hz => ?_) (fun hz A' z1 z2 => ?_))
      · repeat' first
          | refine xP_s rfl rfl rfl ?_
          | refine xP_ret rfl rfl rfl ?_
        rw [if_neg (by omega)] at e0
        exact h0 _ e0 (by decide) A [] ht (by rw [List.append_nil]; exact hn) (xSame.refl _ _)
      · repeat' first
          | refine xP_s rfl rfl rfl ?_
          | refine xP_ret rfl rfl rfl ?_
        rw [if_pos hz] at e0
        rw [e0] at k1
        refine k1 A' _ [] (by simp) z1 (xTn_ga _ _ _ _ _ _ _ _) ⟨pk_us, pk_us, pk_us, fun h => by simp at h, fun _ => ⟨pk_us, p, pk_us, ?_, ?_, pk_us⟩, fun h => by simp at h, fun h => by simp at h, fun h => by simp at h, fun _ => pk_lu⟩ (by rw [List.append_nil]; exact hn.same z2 (by decide) (by decide)) (by rw [List.length_nil]; dsimp only; omega) (z2.wide (by decide))
        · dsimp only
          omega
        · dsimp only
          rw [hd]
          exact tw_take isWd (c :: r)
    have rest : isSm c = false → ¬ (isLg c = true ∨ c = 95) → xP sc (d + 5) 99 66 [(0, .ref 18), (1, .int (nI c)), (2, .int (oc r 0))] [] (A, g) P := by
      intro hsm hlg
      have g1 : ¬ isSm c = true := by rw [hsm]; decide
      cases hdg : isDg c
      · have g3 : ¬ isDg c = true := by rw [hdg]; decide
        cases hsg : isSg c
        · have g4 : ¬ isSg c = true := by rw [hsg]; decide
          have h39 : (39 : Int32).toInt = 39 := rfl
          have h34 : (34 : Int32).toInt = 34 := rfl
          have h33 : (33 : Int32).toInt = 33 := rfl
          have h59 : (59 : Int32).toInt = 59 := rfl
          have h91 : (91 : Int32).toInt = 91 := rfl
          have h93 : (93 : Int32).toInt = 93 := rfl
          have h123 : (123 : Int32).toInt = 123 := rfl
          have h125 : (125 : Int32).toInt = 125 := rfl
          have h44 : (44 : Int32).toInt = 44 := rfl
          have o93 : (oc r 0).toInt = 93 ↔ r.head? = some 93 := oc_hd 93 hchr
          have o125 : (oc r 0).toInt = 125 ↔ r.head? = some 125 := oc_hd 125 hchr
          refine xP_s rfl rfl rfl ?_
          refine xP_call rfl rfl rfl (p_isDigitN hdg (by omega) ?_)
          refine xP_s rfl rfl rfl ?_
          refine xP_s rfl rfl rfl ?_
          refine xP_call rfl rfl rfl (p_isSignN hsg (by omega) ?_)
          refine xP_s rfl rfl rfl ?_
          refine xP_s rfl rfl rfl ?_
          refine xP_s rfl rfl rfl ?_
          refine xP_s rfl rfl rfl ?_
          refine xP_if (fun hc => ?_) (fun hc => ?_)
          · have n39 := xc_t hc
            dsimp only at n39
            refine xP_s rfl rfl rfl ?_
            refine xP_s rfl rfl rfl ?_
            refine xP_s rfl rfl rfl ?_
            refine xP_if (fun hc => ?_) (fun hc => ?_)
            · have n34 := xc_t hc
              dsimp only at n34
              have solo : (c = 33 ∨ c = 59) → xP sc (d + 5) 99 153 [(0, .ref 18), (1, .int (nI c)), (2, .int (oc r 0))] [] (A, g) P := by
                intro hcc
                have e0 : lexT (c :: r) = (1, 0, [c], r) := by
                  rw [lexT_cons]
                  rw [if_neg g1, if_neg hlg, if_neg g3, if_neg g4, if_neg (by omega), if_neg (by omega), if_pos hcc]
                refine xP_s rfl rfl rfl ?_
                refine xP_s rfl rfl rfl ?_
                refine xP_get rfl h18 rfl ?_
                refine xP_s rfl rfl rfl ?_
                refine xP_s rfl rfl rfl ?_
                rw [nI_1]
                refine xP_cv rfl rfl rfl rfl rfl h18 (plain (p + 1) [c] r (by omega) (by omega) (by rw [hd, Nat.add_sub_cancel_left]; rfl) (drop_len hd1 (by omega)) (by simp; omega) (by rw [e0]; rfl) _ (fun A' z => ?_) (fun A' z => ?_))
                · repeat' first
                    | refine xP_s rfl rfl rfl ?_
                    | refine xP_ret rfl rfl rfl ?_
                  exact z
                · repeat' first
                    | refine xP_s rfl rfl rfl ?_
                    | refine xP_ret rfl rfl rfl ?_
                  exact z
              refine xP_s rfl rfl rfl ?_
              refine xP_s rfl rfl rfl ?_
              refine xP_s rfl rfl rfl ?_
              refine xP_if (fun hc => ?_) (fun hc => ?_)
              · have := xc_t hc
                dsimp only at this
                exact solo (by omega)
              · have n33 := xc_f hc
                dsimp only at n33
                refine xP_s rfl rfl rfl ?_
                refine xP_s rfl rfl rfl ?_
                refine xP_s rfl rfl rfl ?_
                refine xP_if (fun hc => ?_) (fun hc => ?_)
                · have n59 := xc_t hc
                  dsimp only at n59
                  have g7 : ¬ (c = 33 ∨ c = 59) := by omega
                  have pair : ((c = 91 ∧ r.head? = some 93) ∨ (c = 123 ∧ r.head? = some 125)) → xP sc (d + 5) 99 188 [(0, .ref 18), (1, .int (nI c)), (2, .int (oc r 0))] [] (A, g) P := by
                    intro hcc
                    have e0 : lexT (c :: r) = (1, 0, (c :: r).take 2, r.tail) := by
                      rw [lexT_cons]
                      rw [if_neg g1, if_neg hlg, if_neg g3, if_neg g4, if_neg (by omega), if_neg (by omega), if_neg g7, if_pos hcc]
                    cases r with
                    | nil =>
                      rcases hcc with z | z
                      · cases z.2
                      · cases z.2
                    | cons c2 r2 =>
                      obtain ⟨hd2, hlt2⟩ := drop_s hd1
                      refine xP_s rfl rfl rfl ?_
                      refine xP_s rfl rfl rfl ?_
                      refine xP_get rfl h18 rfl ?_
                      refine xP_s rfl rfl rfl ?_
                      refine xP_s rfl rfl rfl ?_
                      rw [show nI p + 2 = nI (p + 2) from nI_add p 2]
                      refine xP_cv rfl rfl rfl rfl rfl h18 (plain (p + 2) [c, c2] r2 (by omega) (by omega) (by rw [hd, Nat.add_sub_cancel_left]; rfl) (drop_len hd2 (by omega)) (by simp; omega) (by rw [e0]; rfl) _ (fun A' z => ?_) (fun A' z => ?_))
                      · repeat' first
                          | refine xP_s rfl rfl rfl ?_
                          | refine xP_ret rfl rfl rfl ?_
                        exact z
                      · repeat' first
                          | refine xP_s rfl rfl rfl ?_
                          | refine xP_ret rfl rfl rfl ?_
                        exact z
                  have mark : ¬ ((c = 91 ∧ r.head? = some 93) ∨ (c = 123 ∧ r.head? = some 125)) → xP sc (d + 5) 99 199 [(0, .ref 18), (1, .int (nI c)), (2, .int (oc r 0))] [] (A, g) P := by
                    intro hcc
                    cases hpn : isPn c
                    · have e0 : lexT (c :: r) = wrg := by
                        rw [lexT_cons]
                        rw [if_neg g1, if_neg hlg, if_neg g3, if_neg g4, if_neg (by omega), if_neg (by omega), if_neg g7, if_neg hcc, if_neg (by rw [hpn]; decide)]
                      repeat' first
                        | refine xP_s rfl rfl rfl ?_
                        | refine xP_call rfl rfl rfl (p_isPunctN hpn hc128 ?_)
                        | refine xP_ret rfl rfl rfl ?_
                      exact h0 _ e0 (by decide) A [] ht (by rw [List.append_nil]; exact hn) (xSame.refl _ _)
                    · have e0 : lexT (c :: r) = (5, c, [], r) := by
                        rw [lexT_cons]
                        rw [if_neg g1, if_neg hlg, if_neg g3, if_neg g4, if_neg (by omega), if_neg (by omega), if_neg g7, if_neg hcc, if_pos hpn]
                      have er : p + 1 = t.length - r.length := drop_len hd1 (by omega)
                      have fin : ∀ A' key, key = (if 5 = 5 ∧ c = 44 then 44 else 0) → xTk A' (u + 1) (p + 1) v (xTn G u 5 p (p + 1) (nI c) 1 key) → xSame A A' [18, 19, 20, 21, 22, 23, 24] → P (.inl (some (.int 1))) (A', g) := by
                        intro A' key hkey z1 z2
                        rw [e0] at k1
                        refine k1 A' _ [] (by simp) (by rw [er, hv] at z1; exact z1) (xTn_ga _ _ _ _ _ _ _ _) ⟨pk_us, pk_us, pk_us, fun h => by simp at h, fun h => by simp at h, fun h => by simp at h, fun h => by simp at h, fun _ => pk_us, fun _ => pk_lu.trans hkey⟩ (by rw [List.append_nil]; exact hn.same z2 (by decide) (by decide)) (by simp) (z2.wide (by decide))
                      refine xP_s rfl rfl rfl ?_
                      refine xP_call rfl rfl rfl (p_isPunctN hpn hc128 ?_)
                      refine xP_s rfl rfl rfl ?_
                      refine xP_s rfl rfl rfl ?_
                      refine xP_s rfl rfl rfl ?_
                      refine xP_s rfl rfl rfl ?_
                      refine xP_get rfl h18 rfl ?_
                      refine xP_s rfl rfl rfl ?_
                      refine xP_s rfl rfl rfl ?_
                      rw [nI_1]
                      refine xP_s rfl rfl rfl ?_
                      refine xP_s rfl rfl rfl ?_
                      refine xP_s rfl rfl rfl ?_
                      refine xP_s rfl rfl rfl ?_
                      refine xP_s rfl rfl rfl ?_
                      refine xP_if (fun hc => ?_) (fun hc => ?_)
                      · have z44 := xc_t hc
                        dsimp only at z44
                        refine xP_s rfl rfl rfl ?_
                        refine xP_cv rfl rfl rfl rfl rfl h18 (p_tadd ht hu (fun A1 q1 q2 => ?_))
                        repeat' first
                          | refine xP_s rfl rfl rfl ?_
                          | refine xP_ret rfl rfl rfl ?_
                        exact fin A1 0 (by rw [if_neg (by omega)]) q1 q2
                      · have z44 := xc_f hc
                        dsimp only at z44
                        refine xP_s rfl rfl rfl ?_
                        refine xP_s rfl rfl rfl ?_
                        refine xP_cv rfl rfl rfl rfl rfl h18 (p_tadd ht hu (fun A1 q1 q2 => ?_))
                        repeat' first
                          | refine xP_s rfl rfl rfl ?_
                          | refine xP_ret rfl rfl rfl ?_
                        exact fin A1 44 (by rw [if_pos ⟨rfl, by omega⟩]) q1 q2
                  have brace : ¬ (c = 91 ∧ r.head? = some 93) → xP sc (d + 5) 99 176 [(0, .ref 18), (1, .int (nI c)), (2, .int (oc r 0))] [] (A, g) P := by
                    intro hb
                    refine xP_s rfl rfl rfl ?_
                    refine xP_s rfl rfl rfl ?_
                    refine xP_s rfl rfl rfl ?_
                    refine xP_if (fun hc => ?_) (fun hc => ?_)
                    · have z1 := xc_t hc
                      dsimp only at z1
                      exact mark (fun z => by
                        rcases z with z | z
                        · exact hb z
                        · omega)
                    · have z1 := xc_f hc
                      dsimp only at z1
                      refine xP_s rfl rfl rfl ?_
                      refine xP_s rfl rfl rfl ?_
                      refine xP_s rfl rfl rfl ?_
                      refine xP_if (fun hc => ?_) (fun hc => ?_)
                      · have z2 := xc_t hc
                        dsimp only at z2
                        exact mark (fun z => by
                          rcases z with z | z
                          · exact hb z
                          · exact z2 (o125.mpr z.2))
                      · have z2 := xc_f hc
                        dsimp only at z2
                        exact pair (Or.inr ⟨by omega, o125.mp z2⟩)
                  refine xP_s rfl rfl rfl ?_
                  refine xP_s rfl rfl rfl ?_
                  refine xP_s rfl rfl rfl ?_
                  refine xP_if (fun hc => ?_) (fun hc => ?_)
                  · have z1 := xc_t hc
                    dsimp only at z1
                    exact brace (by omega)
                  · have z1 := xc_f hc
                    dsimp only at z1
                    refine xP_s rfl rfl rfl ?_
                    refine xP_s rfl rfl rfl ?_
                    refine xP_s rfl rfl rfl ?_
                    refine xP_if (fun hc => ?_) (fun hc => ?_)
                    · have z2 := xc_t hc
                      dsimp only at z2
                      exact pair (Or.inl ⟨by omega, o93.mp z2⟩)
                    · have z2 := xc_f hc
                      dsimp only at z2
                      exact brace (fun z => z2 (o93.mpr z.2))
                · have := xc_f hc
                  dsimp only at this
                  exact solo (by omega)
            · have c34 := xc_f hc
              dsimp only at c34
              have e0 : lexT (c :: r) = (match strq r with | some q => if q.1.length ≤ 12 then (4, 0, q.1, q.2) else wrg | none => wrg) := by
                rw [lexT_cons]
                rw [if_neg g1, if_neg hlg, if_neg g3, if_neg g4, if_neg (by omega), if_pos (by omega)]
                rfl
              refine xP_s rfl rfl rfl ?_
              refine xP_cv rfl rfl rfl rfl rfl h18 (p_tkString ht hs hu hd1 (by omega) (fun z => ?_) (fun A1 q q1 q2 q3 q4 => ?_))
              · repeat' first
                  | refine xP_s rfl rfl rfl ?_
                  | refine xP_ret rfl rfl rfl ?_
                refine h0 wrg ?_ (by decide) A [] ht (by rw [List.append_nil]; exact hn) (xSame.refl _ _)
                rw [e0]
                rcases z with z | ⟨q, z, z2⟩
                · rw [z]
                · rw [z]
                  dsimp only
                  rw [if_neg (by omega)]
              · repeat' first
                  | refine xP_s rfl rfl rfl ?_
                  | refine xP_ret rfl rfl rfl ?_
                rw [q1] at e0
                dsimp only at e0
                rw [if_pos q2] at e0
                obtain ⟨w, ew, hw, _⟩ := strq_sfx q1
                have hrl : r.length = w.length + q.2.length := by
                  conv => lhs; rw [ew]
                  rw [List.length_append]
                rw [e0] at k1
                refine k1 A1 _ [] (by simp) (by rw [hv] at q3; exact q3) (xTn_ga _ _ _ _ _ _ _ _) ⟨pk_us, pk_us, pk_us, fun h => by simp at h, fun h => by simp at h, fun h => by simp at h, fun _ => ⟨pk_us, pk_us⟩, fun h => by simp at h, fun _ => pk_lu⟩ (by rw [List.append_nil]; exact hn.same q4 (by decide) (by decide)) (by simp; omega) (q4.wide (by decide))
          · have c39 := xc_f hc
            dsimp only at c39
            have e0 : lexT (c :: r) = (match qt 120 r with | some q => if q.1.length ≤ 24 then (1, 0, q.1, q.2) else wrg | none => wrg) := by
              rw [lexT_cons]
              rw [if_neg g1, if_neg hlg, if_neg g3, if_neg g4, if_pos (by omega)]
              rfl
            rw [List.length_cons] at hsl hr
            refine xP_s rfl rfl rfl ?_
            refine xP_cv rfl rfl rfl rfl rfl h18 (p_addQuotedName ht hs hn hu hd1 (by omega) (by omega) (fun A1 w' z z1 z2 z3 => ?_) (fun A1 q q1 q2 q3 q4 q5 => ?_))
            · repeat' first
                | refine xP_s rfl rfl rfl ?_
                | refine xP_ret rfl rfl rfl ?_
              refine h0 wrg ?_ (by decide) A1 w' z1 z2 z3
              rw [e0]
              rcases z with z | ⟨q, z, z2⟩
              · rw [z]
              · rw [z]
                dsimp only
                rw [if_neg (by omega)]
            · repeat' first
                | refine xP_s rfl rfl rfl ?_
                | refine xP_ret rfl rfl rfl ?_
              rw [q1] at e0
              dsimp only at e0
              rw [if_pos q2] at e0
              obtain ⟨w, ew, hw⟩ := qt_sfx q1
              have hrl : r.length = w.length + q.2.length := by
                conv => lhs; rw [ew]
                rw [List.length_append]
              rw [e0] at k1
              exact k1 A1 _ q.1 (by simp) (by rw [hv] at q3; exact q3) (xTn_ga _ _ _ _ _ _ _ _) tkE_name q4 (by simp; omega) q5
        · -- signs
          obtain ⟨s1, s2, s3, s4⟩ := spn isSg hd hp
          have hwz : ((c :: r).takeWhile isSg).length + ((c :: r).dropWhile isSg).length = (c :: r).length := by rw [← List.length_append, List.takeWhile_append_dropWhile]
          have htw : (c :: r).takeWhile isSg = c :: r.takeWhile isSg := List.takeWhile_cons_of_pos hsg
          have hch2 : ∀ x ∈ (c :: r).dropWhile isSg, x < 128 := fun x hx => hch x ((List.dropWhile_sublist isSg).subset hx)
          generalize hz : (c :: r).dropWhile isSg = z at s1 s2 s3 s4 hwz hch2
          generalize hw : (c :: r).takeWhile isSg = w at s3 hwz htw
          have o32 : (oc z 0).toInt = 32 ↔ z.head? = some 32 := oc_hd 32 hch2
          have o37 : (oc z 0).toInt = 37 ↔ z.head? = some 37 := oc_hd 37 hch2
          have om : (oc z 0).toInt = -1 ↔ z.head? = none := by
            cases z with
            | nil => simp [oc]
            | cons x y =>
              have := hch2 x List.mem_cons_self
              simp [oc_0, nI_toInt (show x < 2 ^ 31 by omega)]
          have hwl : w.length = 1 + (r.takeWhile isSg).length := by rw [htw, List.length_cons]; omega
          have hcond : (t.length - z.length = p + 1 ∧ (oc (c :: r) 0).toInt = 46 ∧ ((oc z 0).toInt = 32 ∨ (oc z 0).toInt = 37 ∨ (oc z 0).toInt = -1)) ↔ (w = [46] ∧ (z.head? = none ∨ z.head? = some 32 ∨ z.head? = some 37)) := by
            rw [o32, o37, om, oc_0, hC]
            constructor
            · intro ⟨z1, z2, z3⟩
              refine ⟨?_, ?_⟩
              · have hl0 : (r.takeWhile isSg).length = 0 := by omega
                rw [htw, List.length_eq_zero_iff.mp hl0, show c = 46 by omega]
              · rcases z3 with z3 | z3 | z3
                · exact Or.inr (Or.inl z3)
                · exact Or.inr (Or.inr z3)
                · exact Or.inl z3
            · intro ⟨z1, z2⟩
              rw [htw] at z1
              have e1 := (List.cons.inj z1).1
              have e2 := (List.cons.inj z1).2
              rw [e2, List.length_nil] at hwl
              refine ⟨by omega, by omega, ?_⟩
              rcases z2 with z2 | z2 | z2
              · exact Or.inr (Or.inr z2)
              · exact Or.inl z2
              · exact Or.inr (Or.inl z2)
          have e0 : lexT (c :: r) = (if w = [46] ∧ (z.head? = none ∨ z.head? = some 32 ∨ z.head? = some 37) then (0, 0, [], z) else if w.length ≤ 24 then (1, 0, w, z) else wrg) := by
            rw [lexT_cons]
            rw [if_neg g1, if_neg hlg, if_neg g3, if_pos hsg, hw, hz]
          refine xP_s rfl rfl rfl ?_
          refine xP_call rfl rfl rfl (p_isDigitN hdg (by omega) ?_)
          refine xP_s rfl rfl rfl ?_
          refine xP_s rfl rfl rfl ?_
          refine xP_call rfl rfl rfl (p_isSignN hsg (by omega) ?_)
          refine xP_s rfl rfl rfl ?_
          refine xP_s rfl rfl rfl ?_
          refine xP_s rfl rfl rfl ?_
          refine xP_cv rfl rfl rfl rfl rfl h18 (p_behindRow (b := true) ht hs hd hp ?_)
          rw [show (c :: r).dropWhile (spf true) = z from hz]
          refine xP_s rfl rfl rfl ?_
          refine xP_s rfl rfl rfl ?_
          refine xP_s rfl rfl rfl ?_
          refine xP_cv rfl rfl rfl rfl rfl h18 (p_isEnd (b := decide (w = [46] ∧ (z.head? = none ∨ z.head? = some 32 ∨ z.head? = some 37))) ht hs hd s4 s1 s2 (by rw [decide_eq_true_eq]; exact hcond.symm) ?_)
          by_cases hE : w = [46] ∧ (z.head? = none ∨ z.head? = some 32 ∨ z.head? = some 37)
          · rw [decide_eq_true hE]
            rw [if_pos hE] at e0
            rw [e0] at k1
            refine xP_s rfl rfl rfl ?_
            refine xP_s rfl rfl rfl ?_
            refine xP_s rfl rfl rfl ?_
            refine xP_s rfl rfl rfl ?_
            refine xP_s rfl rfl rfl ?_
            refine xP_s rfl rfl rfl ?_
            refine xP_s rfl rfl rfl ?_
            refine xP_cv rfl rfl rfl rfl rfl h18 (p_tadd ht hu (fun A1 q1 q2 => ?_))
            repeat' first
              | refine xP_s rfl rfl rfl ?_
              | refine xP_ret rfl rfl rfl ?_
            exact k1 A1 _ [] (by simp) (by rw [hv] at q1; exact q1) (xTn_ga _ _ _ _ _ _ _ _) ⟨pk_us, pk_us, pk_us, fun h => by simp at h, fun h => by simp at h, fun h => by simp at h, fun h => by simp at h, fun h => by simp at h, fun _ => pk_lu⟩ (by rw [List.append_nil]; exact hn.same q2 (by decide) (by decide)) (by rw [List.length_nil]; dsimp only; omega) (q2.wide (by decide))
          · rw [decide_eq_false hE]
            rw [if_neg hE] at e0
            refine xP_s rfl rfl rfl ?_
            refine xP_s rfl rfl rfl ?_
            refine xP_s rfl rfl rfl ?_
            refine xP_cv rfl rfl rfl rfl rfl h18 (plain _ w z s1 s2 s3 rfl hwz e0 _ (fun A' y => ?_) (fun A' y => ?_))
            · repeat' first
                | refine xP_s rfl rfl rfl ?_
                | refine xP_ret rfl rfl rfl ?_
              exact y
            · repeat' first
                | refine xP_s rfl rfl rfl ?_
                | refine xP_ret rfl rfl rfl ?_
              exact y
      · -- a number
        have e0 : lexT (c :: r) = (match lexN c r with | some q => (3, q.1, [], q.2) | none => wrg) := by
          rw [lexT_cons]
          rw [if_neg g1, if_neg hlg, if_pos hdg]
          rfl
        refine xP_s rfl rfl rfl ?_
        refine xP_call rfl rfl rfl (p_isDigitN hdg (by omega) ?_)
        refine xP_s rfl rfl rfl ?_
        refine xP_s rfl rfl rfl ?_
        refine xP_s rfl rfl rfl ?_
        refine xP_s rfl rfl rfl ?_
        refine xP_cv rfl rfl rfl rfl rfl h18 (p_tkInteger ht hs hu hd (fun z => ?_) (fun A1 q q1 q2 q3 => ?_))
        · repeat' first
            | refine xP_s rfl rfl rfl ?_
            | refine xP_ret rfl rfl rfl ?_
          exact h0 wrg (by rw [e0, z]) (by decide) A [] ht (by rw [List.append_nil]; exact hn) (xSame.refl _ _)
        · repeat' first
            | refine xP_s rfl rfl rfl ?_
            | refine xP_ret rfl rfl rfl ?_
          rw [q1] at e0
          dsimp only at e0
          obtain ⟨w, ew, hw⟩ := lexN_sfx hdg q1
          have hrl : (c :: r).length = w.length + q.2.length := by
            conv => lhs; rw [ew]
            rw [List.length_append]
          rw [e0] at k1
          exact k1 A1 _ [] (by simp) (by rw [hv] at q2; exact q2) (xTn_ga _ _ _ _ _ _ _ _) ⟨pk_us, pk_us, pk_us, fun h => by simp at h, fun h => by simp at h, fun _ => pk_us, fun h => by simp at h, fun h => by simp at h, fun _ => pk_lu⟩ (by rw [List.append_nil]; exact hn.same q3 (by decide) (by decide)) (by rw [List.length_nil]; dsimp only; omega) (q3.wide (by decide))
    cases hsm : isSm c
    · have g1 : ¬ isSm c = true := by rw [hsm]; decide
      have ev : (isLg c = true ∨ c = 95) → lexT (c :: r) = (if ((c :: r).takeWhile isWd).length ≤ 24 then (2, 0, (c :: r).takeWhile isWd, (c :: r).dropWhile isWd) else wrg) := by
        intro hh
        rw [lexT_cons]
        rw [if_neg g1, if_pos hh]
      refine xP_s rfl rfl rfl ?_
      refine xP_s rfl rfl rfl ?_
      refine xP_call rfl rfl rfl (p_isSmallN hsm (by omega) ?_)
      refine xP_s rfl rfl rfl ?_
      refine xP_s rfl rfl rfl ?_
      cases hlg : isLg c
      · refine xP_call rfl rfl rfl (p_isLargeN hlg (by omega) ?_)
        refine xP_s rfl rfl rfl ?_
        refine xP_s rfl rfl rfl ?_
        refine xP_s rfl rfl rfl ?_
        refine xP_s rfl rfl rfl ?_
        refine xP_if (fun hc => ?_) (fun hc => ?_)
        · have z := xc_t hc
          dsimp only at z
          exact rest hsm (fun y => by
            rcases y with y | y
            · rw [hlg] at y
              cases y
            · omega)
        · have z := xc_f hc
          dsimp only at z
          exact vr (ev (Or.inr (by omega)))
      · refine xP_call rfl rfl rfl (p_isLargeN hlg (by omega) ?_)
        have go := vr (ev (Or.inl hlg))
        repeat' first
          | exact go
          | refine xP_s rfl rfl rfl ?_
    · obtain ⟨s1, s2, s3, s4⟩ := spn isWd hd hp
      have hwz : ((c :: r).takeWhile isWd).length + ((c :: r).dropWhile isWd).length = (c :: r).length := by rw [← List.length_append, List.takeWhile_append_dropWhile]
      have e0 : lexT (c :: r) = (if ((c :: r).takeWhile isWd).length ≤ 24 then (1, 0, (c :: r).takeWhile isWd, (c :: r).dropWhile isWd) else wrg) := by
        rw [lexT_cons]
        rw [if_pos hsm]
      refine xP_s rfl rfl rfl ?_
      refine xP_s rfl rfl rfl ?_
      refine xP_call rfl rfl rfl (p_isSmallN hsm (by omega) ?_)
      refine xP_s rfl rfl rfl ?_
      refine xP_s rfl rfl rfl ?_
      refine xP_s rfl rfl rfl ?_
      refine xP_s rfl rfl rfl ?_
      refine xP_cv rfl rfl rfl rfl rfl h18 (p_behindRow (b := false) ht hs hd hp ?_)
      refine xP_cv rfl rfl rfl rfl rfl h18 (plain _ _ _ s1 s2 s3 rfl hwz e0 _ (fun A' y => ?_) (fun A' y => ?_))
      · repeat' first
          | refine xP_s rfl rfl rfl ?_
          | refine xP_ret rfl rfl rfl ?_
        exact y
      · repeat' first
          | refine xP_s rfl rfl rfl ?_
          | refine xP_ret rfl rfl rfl ?_
        exact y
end
section
-- the text taken apart: all tokens up to the first end
def scanOK : Nat → List Nat → Bool
  | 0, _ => false
  | m + 1, s => match lay 121 s with
    | none => false
    | some s' => if 6 ≤ (lexT s').1 then false else if (lexT s').1 = 0 then true else scanOK m (lexT s').2.2.2
/-- the tokens from i on are those of s -/
def xTA (t nm : List Nat) (G : xG) (u : Nat) : Nat → Nat → List Nat → List (List Nat) → Prop
  | 0, _, _, _ => False
  | m + 1, i, s, vs => i < u ∧ ∃ s', lay 121 s = some s' ∧ (lexT s').1 < 6 ∧ tkE t nm G i (t.length - s'.length) vs (lexT s') ∧ (((lexT s').1 = 0 ∧ u = i + 1) ∨ (¬ (lexT s').1 = 0 ∧ xTA t nm G u m (i + 1) (lexT s').2.2.2 (vsx vs (lexT s'))))
set_option maxRecDepth 100000 in
theorem p_scanLoop {sc : xSc} {d g : Nat} {t : List Nat} {P : xO → xH → Prop} : ∀ (m i : Nat) (A : List xC) (p : Nat) (s nm : List Nat) (G : xG) (vs : List (List Nat)), i + m = 120 → xTk A i p vs.length G → xRw A 1 120 t → xRw A 5 4926 nm → xVT t G i vs → t.drop p = s → p ≤ t.length → nm.length + s.length ≤ 4926 →
    (∀ A' u p' v G' w', (scanOK m s = true → xTA t (nm ++ w') G' u m i s vs ∧ w'.length ≤ s.length ∧ xGa G G' i) → xTk A' u p' v G' → xRw A' 5 4926 (nm ++ w') → xSame A A' [5, 6, 18, 19, 20, 21, 22, 23, 24] → P (.inl (some (.int (xb (scanOK m s))))) (A', g)) →
    xP sc (d + 6) 83 17 [(0, .ref 18), (1, .int (nI i))] [] (A, g) P
  | 0, i, A, p, s, nm, G, vs, hm, ht, hs, hn, hvt, hd, hp, hr, k => by
    have h120 : (120 : Int32).toInt = 120 := rfl
    have hI : (nI i).toInt = (i : Int) := nI_toInt (by omega)
    refine xP_s rfl rfl rfl ?_
    refine xP_s rfl rfl rfl ?_
    refine xP_s rfl rfl rfl ?_
    refine xP_if (fun hc => ?_) (fun hc => ?_)
    · repeat' first
        | refine xP_s rfl rfl rfl ?_
        | refine xP_ret rfl rfl rfl ?_
      exact k A i p _ G [] (fun h => by cases h) ht (by rw [List.append_nil]; exact hn) (xSame.refl _ _)
    · have := xc_f hc
      dsimp only at this
      omega
  | m + 1, i, A, p, s, nm, G, vs, hm, ht, hs, hn, hvt, hd, hp, hr, k => by
    have h18 := ht.2.1
    have hl := hs.len
    have h120 : (120 : Int32).toInt = 120 := rfl
    have hI : (nI i).toInt = (i : Int) := nI_toInt (by omega)
    have hsl : s.length = t.length - p := by rw [← hd, List.length_drop]
    refine xP_s rfl rfl rfl ?_
    refine xP_s rfl rfl rfl ?_
    refine xP_s rfl rfl rfl ?_
    refine xP_if (fun hc => ?_) (fun hc => ?_)
    · have := xc_t hc
      dsimp only at this
      omega
    · refine xP_s rfl rfl rfl ?_
      refine xP_cv rfl rfl rfl rfl rfl h18 (p_skipLayout ht hs hd hp (fun A1 p1 z1 z2 => ?_))
      cases hy : lay 121 s with
      | none =>
        have e : scanOK (m + 1) s = false := by
          unfold scanOK
          rw [hy]
        rw [hy] at z1
        dsimp only at z1
        rw [e] at k
        repeat' first
          | refine xP_s rfl rfl rfl ?_
          | refine xP_ret rfl rfl rfl ?_
        exact k A1 i p1 _ G [] (fun h => by cases h) z1 (by rw [List.append_nil]; exact hn.same z2 (by decide) (by decide)) (z2.wide (by decide))
      | some s' =>
        rw [hy] at z1
        dsimp only at z1
        obtain ⟨w0, ew0⟩ := lay_len hy
        obtain ⟨y1, y2, y3⟩ := sfx_drop hd hp ew0
        have hs1 := hs.same z2 (by decide) (by decide)
        have hn1 := hn.same z2 (by decide) (by decide)
        have hsl2 : s.length = w0.length + s'.length := by
          conv => lhs; rw [ew0]
          rw [List.length_append]
        refine xP_s rfl rfl rfl ?_
        refine xP_s rfl rfl rfl ?_
        refine xP_cv rfl rfl rfl rfl rfl z1.2.1 (p_scanToken z1 hs1 hn1 hvt rfl (by omega) y1 y3 (by omega) (fun A2 u2 p2 v2 G2 w2 q1 q2 q3 q4 => ?_) (fun A2 G2 w2 q1 q2 q3 q4 q5 q6 q7 => ?_))
        · have e : scanOK (m + 1) s = false := by
            unfold scanOK
            rw [hy]
            dsimp only
            rw [if_pos q1]
          rw [e] at k
          repeat' first
            | refine xP_s rfl rfl rfl ?_
            | refine xP_ret rfl rfl rfl ?_
          exact k A2 u2 p2 v2 G2 w2 (fun h => by cases h) q2 q3 ((z2.trans q4).wide (by decide))
        · have h18b := q2.2.1
          have hsub : nI (i + 1) - 1 = nI i := by rw [← nI_1]; exact Int32.add_sub_cancel _ _
          have hk : (nI (lexT s').1).toInt = ((lexT s').1 : Int) := nI_toInt (by omega)
          have h0 : (0 : Int32).toInt = 0 := rfl
          obtain ⟨w1, ew1, hw1⟩ := lexT_sfx q1
          obtain ⟨x1, x2, x3⟩ := sfx_drop y1 y3 ew1
          have hsl3 : s'.length = w1.length + (lexT s').2.2.2.length := by
            conv => lhs; rw [ew1]
            rw [List.length_append]
          refine xP_s rfl rfl rfl ?_
          refine xP_s rfl rfl rfl ?_
          refine xP_s rfl rfl rfl ?_
          refine xP_get rfl h18b rfl ?_
          refine xP_s rfl rfl rfl ?_
          refine xP_s rfl rfl rfl ?_
          rw [hsub]
          refine xP_cv rfl rfl rfl rfl rfl h18b (p_tkind q2 (by omega) ?_)
          rw [if_pos (by omega), q4.1]
          refine xP_s rfl rfl rfl ?_
          refine xP_if (fun hc => ?_) (fun hc => ?_)
          · have hne := xc_t hc
            dsimp only at hne
            have e : scanOK (m + 1) s = scanOK m (lexT s').2.2.2 := by
              conv => lhs; unfold scanOK
              rw [hy]
              dsimp only
              rw [if_neg (by omega), if_neg (by omega)]
            have hs2 := hs.same (z2.trans q7) (by decide) (by decide)
            have go := p_scanLoop (sc := sc) (d := d) (g := g) (P := P) m (i + 1) A2 (t.length - (lexT s').2.2.2.length) (lexT s').2.2.2 (nm ++ w2) G2 (vsx vs (lexT s')) (by omega) q2 hs2 q5 (vt_step hvt q3 q4 q1) x1 x3 (by rw [List.length_append]; omega) (fun A3 u3 p3 v3 G3 w3 r1 r3 r4 r5 => by
              have r1' : scanOK m (lexT s').2.2.2 = true → xTA t (nm ++ (w2 ++ w3)) G3 u3 (m + 1) i s vs ∧ (w2 ++ w3).length ≤ s.length ∧ xGa G G3 i := by
                intro h
                obtain ⟨f1, f2, f3⟩ := r1 h
                rw [List.append_assoc] at f1
                refine ⟨⟨?_, s', hy, q1, ?_, Or.inr ⟨by omega, f1⟩⟩, by rw [List.length_append]; omega, q3.trans f3 (by omega)⟩
                · cases m with
                  | zero => exact f1.elim
                  | succ m =>
                    have := f1.1
                    omega
                · have := q4.ga (r := w3) f3 (show i < i + 1 by omega)
                  rw [List.append_assoc] at this
                  exact this
              rw [← e] at r1'
              have r := k A3 u3 p3 v3 G3 (w2 ++ w3) r1' r3 (by rw [← List.append_assoc]; exact r4) (((z2.trans q7).trans r5).wide (by decide))
              rw [e] at r
              exact r)
            rw [← nI_1] at go
            repeat' first
              | exact go
              | refine xP_s rfl rfl rfl ?_
          · have heq := xc_f hc
            dsimp only at heq
            have e : scanOK (m + 1) s = true := by
              unfold scanOK
              rw [hy]
              dsimp only
              rw [if_neg (by omega), if_pos (by omega)]
            repeat' first
              | refine xP_s rfl rfl rfl ?_
              | refine xP_ret rfl rfl rfl ?_
            have r := k A2 (i + 1) _ _ G2 w2 (fun _ => ⟨⟨by omega, s', hy, q1, q4, Or.inl ⟨by omega, rfl⟩⟩, by omega, q3⟩) q2 q5 ((z2.trans q7).wide (by decide))
            rw [e] at r
            exact r
set_option maxRecDepth 100000 in
theorem p_scan {sc : xSc} {d g u p v : Nat} {A : List xC} {G : xG} {t nm : List Nat} {P : xO → xH → Prop} (ht : xTk A u p v G) (hs : xRw A 1 120 t) (hn : xRw A 5 4926 nm) (hr : nm.length + t.length ≤ 4926)
    (k : ∀ A' u p' v G' w', (scanOK 120 t = true → xTA t (nm ++ w') G' u 120 0 t [] ∧ w'.length ≤ t.length) → xTk A' u p' v G' → xRw A' 5 4926 (nm ++ w') → xSame A A' [5, 6, 18, 19, 20, 21, 22, 23, 24] → P (.inl (some (.int (xb (scanOK 120 t))))) (A', g)) : xM1 sc (d + 6) 83 [.ref 18] (A, g) P := by
  have h18 := ht.2.1
  have t1 := ht.setO (u' := 0) (p' := p) (v' := v) (by omega)
  have t2 := t1.setO (u' := 0) (p' := 0) (v' := v) (by omega)
  have t3 := t2.setO (u' := 0) (p' := 0) (v' := 0) (by omega)
  have s3 := ((xSame.set (A := A) 18 (.inr (5, [.ref 1, .ref 5, .ref 19, .ref 20, .ref 21, .ref 22, .ref 23, .ref 24, .int (nI 0), .int (nI p), .int (nI v)]))).trans (xSame.set 18 (.inr (5, [.ref 1, .ref 5, .ref 19, .ref 20, .ref 21, .ref 22, .ref 23, .ref 24, .int (nI 0), .int (nI 0), .int (nI v)])))).trans (xSame.set 18 (.inr (5, [.ref 1, .ref 5, .ref 19, .ref 20, .ref 21, .ref 22, .ref 23, .ref 24, .int (nI 0), .int (nI 0), .int (nI 0)])))
  have go := p_scanLoop (sc := sc) (d := d) (g := g) (P := P) (t := t) 120 0 _ 0 t nm G [] rfl t3 (hs.same s3 (by decide) (by decide)) (hn.same s3 (by decide) (by decide)) ⟨fun j hj => by omega, fun i w hi => by simp at hi, fun i i' w hi => by simp at hi, by simp⟩ (by simp) (by omega) hr (fun A' u p' v G' w' z1 z2 z3 z4 => k A' u p' v G' w' (fun h => ⟨(z1 h).1, (z1 h).2.1⟩) z2 z3 ((s3.trans z4).wide (by decide)))
  unfold xM1
  refine xP_s rfl rfl rfl ?_
  refine xP_s rfl rfl rfl ?_
  refine xP_put rfl h18 (Nat.le_of_ble_eq_true rfl) rfl ?_
  refine xP_s rfl rfl rfl ?_
  refine xP_s rfl rfl rfl ?_
  refine xP_put rfl t1.2.1 (Nat.le_of_ble_eq_true rfl) rfl ?_
  refine xP_s rfl rfl rfl ?_
  refine xP_s rfl rfl rfl ?_
  refine xP_put rfl t2.2.1 (Nat.le_of_ble_eq_true rfl) rfl ?_
  repeat' first
    | exact go
    | refine xP_s rfl rfl rfl ?_
end
section
-- what a term is, in the text: a reader by levels
abbrev xSt : Type := List Nat × List (List Nat)
abbrev xRs : Type := List xIt × Nat × xSt × Nat
/-- the next token -/
def nx (s : List Nat) : xTok := match lay 121 s with
  | none => wrg
  | some s' => lexT s'
/-- is it in quotes? -/
def qd (s : List Nat) : Bool := match lay 121 s with
  | some (c :: _) => decide (c = 39)
  | _ => false
/-- its key -/
def tK (q : xTok) : Int64 := if q.1 = 1 then kL q.2.2.1 else if q.1 = 5 ∧ q.2.1 = 44 then 44 else 0
def dgH (r : List Nat) : Bool := match r with
  | c :: _ => isDg c
  | [] => false
def isMin (s : List Nat) (q : xTok) : Bool := decide (q.1 = 1) && (decide (q.2.2.1 = [45]) && (!(qd s) && dgH q.2.2.2))
def isCal (q : xTok) : Bool := decide (q.1 = 1) && decide (q.2.2.2.head? = some 40)
def bgn (q : xTok) : Bool := decide (q.1 < 6) && bgT q.1 q.2.1
def opP (sl : List xSl) (key : Int64) : Option xSl := slE sl (fnd true key sl 0)
def opB (sl : List xSl) (key : Int64) : Option xSl := slE sl (fnd false key sl 0)
def bare (sl : List xSl) (s : List Nat) : Bool := decide ((nx s).1 = 1) && (!(isCal (nx s)) && (!(isMin s (nx s)) && ((opB sl (tK (nx s))).isSome && !(opP sl (tK (nx s))).isSome)))
/-- the operator that is taken here with an argument behind it -/
def pfx (sl : List xSl) (most : Int) (s : List Nat) : Option xSl :=
  if (nx s).1 = 1 ∧ isCal (nx s) = false ∧ isMin s (nx s) = false then (match opP sl (tK (nx s)) with
    | some e => if (e.2.1 : Int) ≤ most ∧ bgn (nx (nx s).2.2.2) = true ∧ bare sl (nx s).2.2.2 = false then some e else none
    | none => none) else none
def nmOf (q : xTok) : List Nat := if q.1 = 1 then q.2.2.1 else [44]
/-- on behind a term -/
def rst (sl : List xSl) (T : Int → xSt → Option xRs) : Nat → Int → xRs → Option xRs
  | 0, _, _ => none
  | n + 1, most, (L, D, st, pr) => if (nx st.1).1 = 7 then none else (match opB sl (tK (nx st.1)) with
    | none => some (L, D, st, pr)
    | some e => if (e.2.1 : Int) ≤ most ∧ (pr : Int) ≤ oLeft (some e) then
        (if oInf (some e) = true then (if bgn (nx (nx st.1).2.2.2) = true then (match T (oRight (some e)) ((nx st.1).2.2.2, st.2) with
            | none => none
            | some (R, DR, st', _) => rst sl T n most ((3, 0, nmOf (nx st.1), 2) :: (L ++ R), max D DR + 1, st', e.2.1)) else some (L, D, st, pr))
        else rst sl T n most ((3, 0, (nx st.1).2.2.1, 1) :: L, D + 1, ((nx st.1).2.2.2, st.2), e.2.1))
      else some (L, D, st, pr))
/-- a mark of this character is next -/
def isMk (s : List Nat) (c : Nat) : Bool := decide ((nx s).1 = 5) && decide ((nx s).2.1 = c)
def args (T : Int → xSt → Option xRs) : Nat → xSt → Option (List xIt × Nat × Nat × xSt)
  | 0, _ => none
  | n + 1, st => match T 999 st with
    | none => none
    | some (R, DR, st', _) => if isMk st'.1 44 = true then (match args T n ((nx st'.1).2.2.2, st'.2) with
        | none => none
        | some (As, k, DA, st2) => some (R ++ As, k + 1, max DR DA, st2))
      else if isMk st'.1 41 = true then some (R, 1, DR, ((nx st'.1).2.2.2, st'.2)) else none
def nilP : xIt := (2, 0, [91, 93], 0)
def dotP : xIt := (3, 0, [46], 2)
def lst (T : Int → xSt → Option xRs) : Nat → xSt → Option (List xIt × Nat × xSt)
  | 0, _ => none
  | n + 1, st => match T 999 st with
    | none => none
    | some (E, DE, st', _) => if isMk st'.1 44 = true then (match lst T n ((nx st'.1).2.2.2, st'.2) with
        | none => none
        | some (M, DM, st2) => some (dotP :: (E ++ M), max DE DM + 1, st2))
      else if isMk st'.1 124 = true then (match T 999 ((nx st'.1).2.2.2, st'.2) with
        | none => none
        | some (M, DM, st2, _) => if isMk st2.1 93 = true then some (dotP :: (E ++ M), max DE DM + 1, ((nx st2.1).2.2.2, st2.2)) else none)
      else if isMk st'.1 93 = true then some (dotP :: (E ++ [nilP]), max DE 1 + 1, ((nx st'.1).2.2.2, st'.2)) else none
def strL : List Nat → List xIt
  | [] => [nilP]
  | c :: w => dotP :: (1, (c : Int), [], 0) :: strL w
def fst1 (sl : List xSl) (T : Int → xSt → Option xRs) (most : Int) (st : xSt) : Option xRs :=
  if (nx st.1).1 = 3 then some ([(1, ((nx st.1).2.1 : Int), [], 0)], 1, ((nx st.1).2.2.2, st.2), 0)
  else if (nx st.1).1 = 2 then some ([(0, (vno st.2 (nx st.1).2.2.1 : Int), [], 0)], 1, ((nx st.1).2.2.2, vnx st.2 (nx st.1).2.2.1), 0)
  else if (nx st.1).1 = 4 then some (strL (nx st.1).2.2.1, (nx st.1).2.2.1.length + 1, ((nx st.1).2.2.2, st.2), 0)
  else if (nx st.1).1 = 1 then (if isMin st.1 (nx st.1) = true then (if (nx (nx st.1).2.2.2).1 = 3 then some ([(1, -((nx (nx st.1).2.2.2).2.1 : Int), [], 0)], 1, ((nx (nx st.1).2.2.2).2.2.2, st.2), 0) else none)
    else if isCal (nx st.1) = true then (match args T 6 ((nx st.1).2.2.2.tail, st.2) with
      | none => none
      | some (As, k, DA, st') => some ((3, 0, (nx st.1).2.2.1, k) :: As, DA + 1, st', 0))
    else (match pfx sl most st.1 with
      | some e => (match T (oRight (some e)) ((nx st.1).2.2.2, st.2) with
        | none => none
        | some (R, DR, st', _) => some ((3, 0, (nx st.1).2.2.1, 1) :: R, DR + 1, st', e.2.1))
      | none => some ([(2, 0, (nx st.1).2.2.1, 0)], 1, ((nx st.1).2.2.2, st.2), 0)))
  else if isMk st.1 40 = true then (match T 1200 ((nx st.1).2.2.2, st.2) with
    | none => none
    | some (R, DR, st', _) => if isMk st'.1 41 = true then some (R, DR, ((nx st'.1).2.2.2, st'.2), 0) else none)
  else if isMk st.1 123 = true then (match T 1200 ((nx st.1).2.2.2, st.2) with
    | none => none
    | some (R, DR, st', _) => if isMk st'.1 125 = true then some ((3, 0, [123, 125], 1) :: R, DR + 1, ((nx st'.1).2.2.2, st'.2), 0) else none)
  else if isMk st.1 91 = true then (match lst T 120 ((nx st.1).2.2.2, st.2) with
    | none => none
    | some (M, DM, st') => some (M, DM, st', 0))
  else none
/-- a term, n levels being left -/
def tmF (sl : List xSl) : Nat → Int → xSt → Option xRs
  | 0, _, _ => none
  | n + 1, most, st => (fst1 sl (tmF sl n) most st).bind (rst sl (tmF sl n) 120 most)
end
section
-- what the reader takes: suffixes and numbers of parts
theorem lexT_str {s : List Nat} (h : (lexT s).1 = 4) : ∃ w, s = w ++ (lexT s).2.2.2 ∧ (lexT s).2.2.1.length + 2 ≤ w.length ∧ (lexT s).2.2.1.length ≤ 12 ∧ (s.drop 1).take (lexT s).2.2.1.length = (lexT s).2.2.1 := by
  cases s with
  | nil => exact absurd h (by decide)
  | cons c r =>
    generalize hq : lexT (c :: r) = q at h ⊢
    rw [lexT_cons] at hq
    repeat' split at hq
    all_goals subst hq
    all_goals first
      | (exfalso; revert h; simp [wrg]; done)
      | skip
    rename_i q hs hle
    obtain ⟨w, e1, e2, e3⟩ := strq_sfx hs
    refine ⟨c :: w, ?_, ?_, hle, e3⟩
    · dsimp only
      rw [List.cons_append, ← e1]
    · rw [List.length_cons]
      dsimp only
      omega
theorem nx_lay {s : List Nat} (h : (nx s).1 < 6) : ∃ s', lay 121 s = some s' ∧ nx s = lexT s' := by
  unfold nx at h ⊢
  cases hy : lay 121 s with
  | none =>
    rw [hy] at h
    exact absurd h (by decide)
  | some s' => exact ⟨s', rfl, rfl⟩
theorem nx_sfx {s : List Nat} (h : (nx s).1 < 6) : ∃ w, s = w ++ (nx s).2.2.2 ∧ 1 ≤ w.length := by
  obtain ⟨s', h1, h2⟩ := nx_lay h
  rw [h2] at h ⊢
  obtain ⟨w, e, hw⟩ := lexT_sfx h
  obtain ⟨w0, e0⟩ := lay_len h1
  exact ⟨w0 ++ w, by rw [e0, List.append_assoc, ← e], by rw [List.length_append]; omega⟩
theorem nx_str {s : List Nat} (h : (nx s).1 = 4) : ∃ w, s = w ++ (nx s).2.2.2 ∧ (nx s).2.2.1.length + 2 ≤ w.length ∧ (nx s).2.2.1.length ≤ 12 := by
  obtain ⟨s', h1, h2⟩ := nx_lay (s := s) (by omega)
  rw [h2] at h ⊢
  obtain ⟨w, e, hw, hw2, _⟩ := lexT_str h
  obtain ⟨w0, e0⟩ := lay_len h1
  exact ⟨w0 ++ w, by rw [e0, List.append_assoc, ← e], by rw [List.length_append]; omega, hw2⟩
theorem strL_len : ∀ w, (strL w).length = 2 * w.length + 1
  | [] => rfl
  | c :: w => by
    rw [strL, List.length_cons, List.length_cons, strL_len w, List.length_cons]
    omega
/-- s' is left of s, and n parts cost no more than twice the characters between -/
def tk2 (s : List Nat) (n : Nat) (s' : List Nat) : Prop := ∃ w, s = w ++ s' ∧ n ≤ 2 * w.length
theorem tk2.len {s s' : List Nat} {n : Nat} (h : tk2 s n s') : n + 2 * s'.length ≤ 2 * s.length := by
  obtain ⟨w, e, hw⟩ := h
  rw [e, List.length_append]
  omega
theorem tk2.sfx {s s' : List Nat} {n : Nat} (h : tk2 s n s') : ∃ w, s = w ++ s' := by
  obtain ⟨w, e, _⟩ := h
  exact ⟨w, e⟩
theorem tk2.trans {s s' s2 : List Nat} {n m : Nat} (h : tk2 s n s') (h' : tk2 s' m s2) : tk2 s (n + m) s2 := by
  obtain ⟨w, e, hw⟩ := h
  obtain ⟨w', e', hw'⟩ := h'
  exact ⟨w ++ w', by rw [e, e', List.append_assoc], by rw [List.length_append]; omega⟩
theorem tk2.le {s s' : List Nat} {n m : Nat} (h : tk2 s n s') (hm : m ≤ n) : tk2 s m s' := by
  obtain ⟨w, e, hw⟩ := h
  exact ⟨w, e, by omega⟩
theorem nx_tk2 {s : List Nat} (h : (nx s).1 < 6) : tk2 s 2 (nx s).2.2.2 := by
  obtain ⟨w, e, hw⟩ := nx_sfx h
  exact ⟨w, e, by omega⟩
theorem isMk_k {s : List Nat} {c : Nat} (h : isMk s c = true) : (nx s).1 = 5 ∧ (nx s).2.1 = c := by
  simpa [isMk] using h
def rsI (s : List Nat) (x : xRs) : Prop := tk2 s x.1.length x.2.2.1.1 ∧ 1 ≤ x.1.length ∧ 1 ≤ x.2.1 ∧ x.2.2.2 ≤ 1200
theorem opB_k {sl : List xSl} {q : xTok} {e : xSl} (hsl : ∀ e ∈ sl, ¬ e.1 = 0) (h : opB sl (tK q) = some e) : q.1 < 6 := by
  unfold opB at h
  rcases Nat.lt_or_ge q.1 6 with z | z
  · exact z
  · exfalso
    have hk : tK q = 0 := by
      unfold tK
      rw [if_neg (by omega), if_neg (by omega)]
    rw [hk] at h
    cases hf : fnd false 0 sl 0 with
    | none =>
      rw [hf] at h
      cases h
    | some i =>
      obtain ⟨_, e', h1, h2, _⟩ := fnd_some hf
      exact hsl e' (List.mem_of_getElem? h1) h2
theorem slE_mem {sl : List xSl} {o : Option Nat} {e : xSl} (h : slE sl o = some e) : e ∈ sl := by
  cases o with
  | none => cases h
  | some i => exact List.mem_of_getElem? h
theorem rst_I {sl : List xSl} {T : Int → xSt → Option xRs} (hsl : ∀ e ∈ sl, ¬ e.1 = 0 ∧ e.2.1 ≤ 1200) (hT : ∀ most st x, T most st = some x → rsI st.1 x) : ∀ (n : Nat) (most : Int) (s : List Nat) (y x : xRs), rsI s y → rst sl T n most y = some x → rsI s x
  | 0, most, s, y, x, hy, h => by cases h
  | n + 1, most, s, (L, D, st, pr), x, hy, h => by
    unfold rst at h
    split at h
    · cases h
    · cases ho : opB sl (tK (nx st.1)) with
      | none =>
        rw [ho] at h
        cases h
        exact hy
      | some e =>
        rw [ho] at h
        dsimp only at h
        have hk := opB_k (fun e he => (hsl e he).1) ho
        have h2 := nx_tk2 hk
        have hp := (hsl e (slE_mem ho)).2
        obtain ⟨y1, y2, y3, y4⟩ := hy
        dsimp only at y1 y2 y3 y4
        split at h
        · split at h
          · split at h
            · cases hr : T (oRight (some e)) ((nx st.1).2.2.2, st.2) with
              | none =>
                rw [hr] at h
                cases h
              | some z =>
                obtain ⟨R, DR, st', pr'⟩ := z
                rw [hr] at h
                obtain ⟨z1, z2, z3, z4⟩ := hT _ _ _ hr
                dsimp only at z1 z2 z3 z4 h
                refine rst_I hsl hT n most s _ x ⟨?_, by simp, by dsimp only; omega, hp⟩ h
                refine ((y1.trans h2).trans z1).le ?_
                simp <;> omega
            · cases h
              exact ⟨y1, y2, y3, y4⟩
          · refine rst_I hsl hT n most s _ x ⟨?_, by simp, by dsimp only; omega, hp⟩ h
            refine (y1.trans h2).le ?_
            simp <;> omega
        · cases h
          exact ⟨y1, y2, y3, y4⟩
theorem args_I {T : Int → xSt → Option xRs} (hT : ∀ most st x, T most st = some x → rsI st.1 x) : ∀ (n : Nat) (st : xSt) (x : List xIt × Nat × Nat × xSt), args T n st = some x → tk2 st.1 (x.1.length + 1) x.2.2.2.1 ∧ 1 ≤ x.2.1 ∧ x.2.1 ≤ n ∧ 1 ≤ x.2.2.1
  | 0, st, x, h => by cases h
  | n + 1, st, x, h => by
    unfold args at h
    cases hr : T 999 st with
    | none =>
      rw [hr] at h
      cases h
    | some z =>
      obtain ⟨R, DR, st', pr'⟩ := z
      rw [hr] at h
      obtain ⟨z1, z2, z3, z4⟩ := hT _ _ _ hr
      dsimp only at z1 z2 z3 z4 h
      split at h
      next hm =>
        have h2 := nx_tk2 (s := st'.1) (by rw [(isMk_k hm).1]; omega)
        cases ha : args T n ((nx st'.1).2.2.2, st'.2) with
        | none =>
          rw [ha] at h
          cases h
        | some y =>
          obtain ⟨As, k, DA, st2⟩ := y
          rw [ha] at h
          cases h
          obtain ⟨a1, a2, a3, a4⟩ := args_I hT n _ _ ha
          dsimp only at a1 a2 a3 a4 ⊢
          refine ⟨((z1.trans h2).trans a1).le (by simp <;> omega), by omega, by omega, by omega⟩
      next =>
        split at h
        next hm =>
          have h2 := nx_tk2 (s := st'.1) (by rw [(isMk_k hm).1]; omega)
          cases h
          dsimp only
          exact ⟨(z1.trans h2).le (by omega), by omega, by omega, by omega⟩
        next => cases h
theorem lst_I {T : Int → xSt → Option xRs} (hT : ∀ most st x, T most st = some x → rsI st.1 x) : ∀ (n : Nat) (st : xSt) (x : List xIt × Nat × xSt), lst T n st = some x → tk2 st.1 (x.1.length) x.2.2.1 ∧ 1 ≤ x.1.length ∧ 1 ≤ x.2.1
  | 0, st, x, h => by cases h
  | n + 1, st, x, h => by
    unfold lst at h
    cases hr : T 999 st with
    | none =>
      rw [hr] at h
      cases h
    | some z =>
      obtain ⟨E, DE, st', pr'⟩ := z
      rw [hr] at h
      obtain ⟨z1, z2, z3, z4⟩ := hT _ _ _ hr
      dsimp only at z1 z2 z3 z4 h
      split at h
      next hm =>
        have h2 := nx_tk2 (s := st'.1) (by rw [(isMk_k hm).1]; omega)
        cases ha : lst T n ((nx st'.1).2.2.2, st'.2) with
        | none =>
          rw [ha] at h
          cases h
        | some y =>
          obtain ⟨M, DM, st2⟩ := y
          rw [ha] at h
          cases h
          obtain ⟨a1, a2, a3⟩ := lst_I hT n _ _ ha
          dsimp only at a1 a2 a3 ⊢
          exact ⟨((z1.trans h2).trans a1).le (by simp <;> omega), by simp, by omega⟩
      next =>
        split at h
        next hm =>
          have h2 := nx_tk2 (s := st'.1) (by rw [(isMk_k hm).1]; omega)
          cases ha : T 999 ((nx st'.1).2.2.2, st'.2) with
          | none =>
            rw [ha] at h
            cases h
          | some y =>
            obtain ⟨M, DM, st2, pr2⟩ := y
            rw [ha] at h
            obtain ⟨a1, a2, a3, a4⟩ := hT _ _ _ ha
            dsimp only at a1 a2 a3 a4 h
            split at h
            next hm2 =>
              have h3 := nx_tk2 (s := st2.1) (by rw [(isMk_k hm2).1]; omega)
              cases h
              dsimp only
              exact ⟨(((z1.trans h2).trans a1).trans h3).le (by simp <;> omega), by simp, by omega⟩
            next => cases h
        next =>
          split at h
          next hm =>
            have h2 := nx_tk2 (s := st'.1) (by rw [(isMk_k hm).1]; omega)
            cases h
            dsimp only
            exact ⟨(z1.trans h2).le (by simp <;> omega), by simp, by omega⟩
          next => cases h
theorem fst1_I {sl : List xSl} {T : Int → xSt → Option xRs} (hsl : ∀ e ∈ sl, ¬ e.1 = 0 ∧ e.2.1 ≤ 1200) (hT : ∀ most st x, T most st = some x → rsI st.1 x) {most : Int} {st : xSt} {x : xRs} (h : fst1 sl T most st = some x) : rsI st.1 x := by
  unfold fst1 at h
  split at h
  next h1 =>
    have h2 := nx_tk2 (s := st.1) (by omega)
    cases h
    exact ⟨h2.le (by simp), by simp, by simp, by simp⟩
  next h1 =>
    split at h
    next h3 =>
      have h2 := nx_tk2 (s := st.1) (by omega)
      cases h
      exact ⟨h2.le (by simp), by simp, by simp, by simp⟩
    next h3 =>
      split at h
      next h4 =>
        obtain ⟨w, e, hw, _⟩ := nx_str h4
        cases h
        refine ⟨⟨w, e, ?_⟩, ?_, by simp, by simp⟩
        · dsimp only
          rw [strL_len]
          omega
        · dsimp only
          rw [strL_len]
          omega
      next h4 =>
        split at h
        next h5 =>
          have h2 := nx_tk2 (s := st.1) (by omega)
          split at h
          · split at h
            next h6 =>
              have h7 := nx_tk2 (s := (nx st.1).2.2.2) (by omega)
              cases h
              exact ⟨(h2.trans h7).le (by simp), by simp, by simp, by simp⟩
            next => cases h
          · split at h
            next h6 =>
              have hc : (nx st.1).2.2.2.head? = some 40 := by
                simp [isCal] at h6
                exact h6.2
              cases ha : args T 6 ((nx st.1).2.2.2.tail, st.2) with
              | none =>
                rw [ha] at h
                cases h
              | some y =>
                obtain ⟨As, k, DA, st'⟩ := y
                rw [ha] at h
                cases h
                obtain ⟨a1, a2, a3, a4⟩ := args_I hT 6 _ _ ha
                dsimp only at a1 a2 a3 a4
                have ht : tk2 (nx st.1).2.2.2 2 (nx st.1).2.2.2.tail := by
                  cases hr : (nx st.1).2.2.2 with
                  | nil =>
                    rw [hr] at hc
                    cases hc
                  | cons c r => exact ⟨[c], rfl, by simp⟩
                exact ⟨((h2.trans ht).trans a1).le (by simp <;> omega), by simp, by dsimp only; omega, by simp⟩
            next =>
              cases hp : pfx sl most st.1 with
              | none =>
                rw [hp] at h
                cases h
                exact ⟨h2.le (by simp), by simp, by simp, by simp⟩
              | some e =>
                rw [hp] at h
                dsimp only at h
                cases hr : T (oRight (some e)) ((nx st.1).2.2.2, st.2) with
                | none =>
                  rw [hr] at h
                  cases h
                | some z =>
                  obtain ⟨R, DR, st', pr'⟩ := z
                  rw [hr] at h
                  cases h
                  obtain ⟨z1, z2, z3, z4⟩ := hT _ _ _ hr
                  dsimp only at z1 z2 z3 z4
                  have he : e ∈ sl := by
                    unfold pfx at hp
                    split at hp
                    · cases hx : opP sl (tK (nx st.1)) with
                      | none =>
                        rw [hx] at hp
                        cases hp
                      | some e' =>
                        rw [hx] at hp
                        dsimp only at hp
                        split at hp
                        · cases hp
                          exact slE_mem hx
                        · cases hp
                    · cases hp
                  exact ⟨(h2.trans z1).le (by simp <;> omega), by simp, by dsimp only; omega, (hsl e he).2⟩
        next h5 =>
          split at h
          next hm =>
            have h2 := nx_tk2 (s := st.1) (by rw [(isMk_k hm).1]; omega)
            cases hr : T 1200 ((nx st.1).2.2.2, st.2) with
            | none =>
              rw [hr] at h
              cases h
            | some z =>
              obtain ⟨R, DR, st', pr'⟩ := z
              rw [hr] at h
              obtain ⟨z1, z2, z3, z4⟩ := hT _ _ _ hr
              dsimp only at z1 z2 z3 z4 h
              split at h
              next hm2 =>
                have h3 := nx_tk2 (s := st'.1) (by rw [(isMk_k hm2).1]; omega)
                cases h
                exact ⟨((h2.trans z1).trans h3).le (by dsimp only; omega), z2, z3, by simp⟩
              next => cases h
          next =>
            split at h
            next hm =>
              have h2 := nx_tk2 (s := st.1) (by rw [(isMk_k hm).1]; omega)
              cases hr : T 1200 ((nx st.1).2.2.2, st.2) with
              | none =>
                rw [hr] at h
                cases h
              | some z =>
                obtain ⟨R, DR, st', pr'⟩ := z
                rw [hr] at h
                obtain ⟨z1, z2, z3, z4⟩ := hT _ _ _ hr
                dsimp only at z1 z2 z3 z4 h
                split at h
                next hm2 =>
                  have h3 := nx_tk2 (s := st'.1) (by rw [(isMk_k hm2).1]; omega)
                  cases h
                  exact ⟨((h2.trans z1).trans h3).le (by simp <;> omega), by simp, by dsimp only; omega, by simp⟩
                next => cases h
            next =>
              split at h
              next hm =>
                have h2 := nx_tk2 (s := st.1) (by rw [(isMk_k hm).1]; omega)
                cases ha : lst T 120 ((nx st.1).2.2.2, st.2) with
                | none =>
                  rw [ha] at h
                  cases h
                | some y =>
                  obtain ⟨M, DM, st'⟩ := y
                  rw [ha] at h
                  cases h
                  obtain ⟨a1, a2, a3⟩ := lst_I hT 120 _ _ ha
                  dsimp only at a1 a2 a3
                  exact ⟨(h2.trans a1).le (by dsimp only; omega), a2, a3, by simp⟩
              next => cases h
theorem tmF_I {sl : List xSl} (hsl : ∀ e ∈ sl, ¬ e.1 = 0 ∧ e.2.1 ≤ 1200) : ∀ (n : Nat) (most : Int) (st : xSt) (x : xRs), tmF sl n most st = some x → rsI st.1 x
  | 0, most, st, x, h => by cases h
  | n + 1, most, st, x, h => by
    unfold tmF at h
    cases hf : fst1 sl (tmF sl n) most st with
    | none =>
      rw [hf] at h
      cases h
    | some y =>
      rw [hf] at h
      exact rst_I hsl (tmF_I hsl n) 120 most st.1 y x (fst1_I hsl (tmF_I hsl n) hf) h
end
section
-- what the rows of tokens say of the text
theorem lexT_mark {s : List Nat} (h : (lexT s).1 = 5) : s = (lexT s).2.1 :: (lexT s).2.2.2 := by
  cases s with
  | nil => exact absurd h (by decide)
  | cons c r =>
    generalize hq : lexT (c :: r) = q at h ⊢
    rw [lexT_cons] at hq
    repeat' split at hq
    all_goals subst hq
    all_goals first
      | (exfalso; revert h; simp [wrg]; done)
      | rfl
theorem lexT_num {s : List Nat} (h : (lexT s).1 = 3) : dgH s = true := by
  cases s with
  | nil => exact absurd h (by decide)
  | cons c r =>
    generalize hq : lexT (c :: r) = q at h
    rw [lexT_cons] at hq
    repeat' split at hq
    all_goals subst hq
    all_goals first
      | (exfalso; revert h; simp [wrg]; done)
      | assumption
theorem dg_not {c : Nat} (h : isDg c = true) : isSm c = false ∧ isLg c = false ∧ ¬ c = 95 ∧ ¬ c = 32 ∧ ¬ c = 37 ∧ ¬ c = 47 := by
  simp [isDg] at h
  refine ⟨?_, ?_, by omega, by omega, by omega, by omega⟩
  · simp [isSm]
    omega
  · simp [isLg]
    omega
theorem lexT_dig {s : List Nat} (h : dgH s = true) : (lexT s).1 = 3 ∨ (lexT s).1 = 7 := by
  cases s with
  | nil => cases h
  | cons c r =>
    have hd : isDg c = true := h
    obtain ⟨h1, h2, h3, _⟩ := dg_not hd
    rw [lexT_cons, if_neg (by rw [h1]; decide), if_neg (by rw [h2]; simp [h3]), if_pos hd]
    cases lexN c r with
    | none => exact Or.inr rfl
    | some q => exact Or.inl rfl
theorem lay_stay {n c : Nat} {r : List Nat} (h1 : ¬ c = 32) (h2 : ¬ c = 37) (h3 : ¬ c = 47) : lay (n + 1) (c :: r) = some (c :: r) := by
  unfold lay
  rw [if_neg h1, if_neg h2, if_neg (fun z => h3 z.1)]
theorem kL_eq {l k : List Nat} (hl : ∀ c ∈ l, c < 256 ∧ ¬ c = 0) (hk : ∀ c ∈ k, c < 256 ∧ ¬ c = 0) (h1 : 1 ≤ k.length) (h8 : k.length ≤ 8) : kL l = lN (pn k) ↔ l = k := by
  constructor
  · intro h
    unfold kL at h
    split at h
    next hh => exact lNpn_inj hl hk hh.2 h8 h
    next =>
      exfalso
      have e : lN (pn []) = lN (pn k) := h
      have := lNpn_inj (fun c hc => absurd hc List.not_mem_nil) hk (by simp) h8 e
      rw [← this] at h1
      simp at h1
  · intro h
    subst h
    unfold kL
    rw [if_pos ⟨h1, h8⟩]
theorem qt_chr : ∀ {n : Nat} {s : List Nat} {q : List Nat × List Nat}, qt n s = some q → (∀ c ∈ s, 32 ≤ c ∧ c ≤ 126) → ∀ c ∈ q.1, 9 ≤ c ∧ c ≤ 126
  | 0, s, q, h, _ => by cases h
  | n + 1, [], q, h, _ => by cases h
  | n + 1, c :: r, q, h, hs => by
    have hr : ∀ x ∈ r, 32 ≤ x ∧ x ≤ 126 := fun x hx => hs x (List.mem_cons_of_mem _ hx)
    have hc := hs c List.mem_cons_self
    unfold qt at h
    split at h
    · split at h
      next hh =>
        cases hq : qt n r.tail with
        | none =>
          rw [hq] at h
          cases h
        | some q' =>
          rw [hq] at h
          cases h
          intro x hx
          rcases List.mem_cons.mp hx with e | e
          · omega
          · exact qt_chr hq (fun y hy => hr y (List.mem_of_mem_tail hy)) x e
      next =>
        cases h
        intro x hx
        exact absurd hx List.not_mem_nil
    · split at h
      · cases r with
        | nil => cases h
        | cons d r2 =>
          dsimp only at h
          cases hx : esc d with
          | none =>
            rw [hx] at h
            cases h
          | some x =>
            rw [hx] at h
            dsimp only at h
            cases hq : qt n r2 with
            | none =>
              rw [hq] at h
              cases h
            | some q' =>
              rw [hq] at h
              cases h
              have hd := hr d List.mem_cons_self
              have hx9 : 9 ≤ x ∧ x ≤ 126 := by
                unfold esc at hx
                split at hx
                · cases hx; omega
                · split at hx
                  · cases hx; omega
                  · split at hx
                    · cases hx; omega
                    · cases hx
              intro y hy
              rcases List.mem_cons.mp hy with e | e
              · omega
              · exact qt_chr hq (fun z hz => hr z (List.mem_cons_of_mem _ hz)) y e
      · cases hq : qt n r with
        | none =>
          rw [hq] at h
          cases h
        | some q' =>
          rw [hq] at h
          cases h
          intro x hx
          rcases List.mem_cons.mp hx with e | e
          · omega
          · exact qt_chr hq hr x e
theorem lexT_chr {s : List Nat} (hs : ∀ c ∈ s, 32 ≤ c ∧ c ≤ 126) : ∀ c ∈ (lexT s).2.2.1, 9 ≤ c ∧ c ≤ 126 := by
  have hsub : ∀ {l : List Nat}, (∀ c ∈ l, c ∈ s) → ∀ c ∈ l, 9 ≤ c ∧ c ≤ 126 := fun h c hc => by
    have := hs c (h c hc)
    omega
  cases s with
  | nil =>
    intro c hc
    exact absurd hc List.not_mem_nil
  | cons c r =>
    generalize hq : lexT (c :: r) = q
    rw [lexT_cons] at hq
    repeat' split at hq
    all_goals subst hq
    all_goals first
      | (intro x hx; exact absurd hx List.not_mem_nil)
      | exact hsub (fun x hx => (List.takeWhile_sublist _).subset hx)
      | exact hsub (fun x hx => List.mem_of_mem_take hx)
      | exact fun x hx => hsub (l := [c]) (fun y hy => (List.mem_singleton.mp hy).symm ▸ List.mem_cons_self) x hx
      | (rename_i hq _; exact qt_chr hq (fun x hx => hs x (List.mem_cons_of_mem _ hx)))
      | (rename_i hq _; obtain ⟨w, e1, e2, e3⟩ := strq_sfx hq; exact hsub (fun x hx => by
          rw [← e3] at hx
          exact List.mem_cons_of_mem _ (List.mem_of_mem_take hx)))
      | skip
/-- s is what is left of t -/
def sfx (t s : List Nat) : Prop := ∃ w, t = w ++ s
theorem sfx.trans {t s r : List Nat} (h : sfx t s) (h' : sfx s r) : sfx t r := by
  obtain ⟨w, e⟩ := h
  obtain ⟨w', e'⟩ := h'
  exact ⟨w ++ w', by rw [e, e', List.append_assoc]⟩
theorem sfx.drop {t s : List Nat} (h : sfx t s) : t.drop (t.length - s.length) = s ∧ s.length ≤ t.length := by
  obtain ⟨w, e⟩ := h
  have hl : t.length = w.length + s.length := by rw [e, List.length_append]
  refine ⟨?_, by omega⟩
  rw [show t.length - s.length = w.length by omega, e, List.drop_left]
theorem sfx.mem {t s : List Nat} (h : sfx t s) : ∀ c ∈ s, c ∈ t := by
  obtain ⟨w, e⟩ := h
  intro c hc
  rw [e]
  exact List.mem_append_right _ hc
theorem sfx.eq {s r : List Nat} (h : sfx s r) (hl : s.length = r.length) : s = r := by
  obtain ⟨w, e⟩ := h
  have : w.length = 0 := by
    rw [e, List.length_append] at hl
    omega
  rw [e, List.length_eq_zero_iff.mp this, List.nil_append]
theorem nx_sfx' {s : List Nat} (h : (nx s).1 < 6) : sfx s (nx s).2.2.2 := by
  obtain ⟨w, e, _⟩ := nx_sfx h
  exact ⟨w, e⟩
theorem lay_sfx {n : Nat} {s s' : List Nat} (h : lay n s = some s') : sfx s s' := lay_len h
theorem nx_chr {s : List Nat} (hs : ∀ c ∈ s, 32 ≤ c ∧ c ≤ 126) : ∀ c ∈ (nx s).2.2.1, 9 ≤ c ∧ c ≤ 126 := by
  unfold nx
  cases hy : lay 121 s with
  | none =>
    intro c hc
    exact absurd hc List.not_mem_nil
  | some s' => exact lexT_chr (fun c hc => hs c ((lay_sfx hy).mem c hc))
theorem nx_stay {c : Nat} {r : List Nat} (h1 : ¬ c = 32) (h2 : ¬ c = 37) (h3 : ¬ c = 47) : nx (c :: r) = lexT (c :: r) := by
  unfold nx
  rw [lay_stay h1 h2 h3]
section TA
variable {t nm : List Nat} {G : xG} {u m a : Nat} {s : List Nat} {vs : List (List Nat)}
theorem TA_E (h : xTA t nm G u m a s vs) : a < u ∧ (nx s).1 < 6 ∧ ∃ s', lay 121 s = some s' ∧ nx s = lexT s' ∧ tkE t nm G a (t.length - s'.length) vs (nx s) := by
  cases m with
  | zero => exact h.elim
  | succ m =>
    obtain ⟨h1, s', h2, h3, h4, h5⟩ := h
    have e : nx s = lexT s' := by
      unfold nx
      rw [h2]
    rw [e]
    exact ⟨h1, h3, s', h2, rfl, h4⟩
theorem TA_next (h : xTA t nm G u m a s vs) (hk : ¬ (nx s).1 = 0) : ∃ m', xTA t nm G u m' (a + 1) (nx s).2.2.2 (vsx vs (nx s)) := by
  cases m with
  | zero => exact h.elim
  | succ m =>
    obtain ⟨h1, s', h2, h3, h4, h5⟩ := h
    have e : nx s = lexT s' := by
      unfold nx
      rw [h2]
    rw [e] at hk ⊢
    rcases h5 with h5 | h5
    · exact absurd h5.1 hk
    · exact ⟨m, h5.2⟩
theorem TA_end (h : xTA t nm G u m a s vs) (hk : (nx s).1 = 0) : u = a + 1 := by
  cases m with
  | zero => exact h.elim
  | succ m =>
    obtain ⟨h1, s', h2, h3, h4, h5⟩ := h
    have e : nx s = lexT s' := by
      unfold nx
      rw [h2]
    rw [e] at hk
    rcases h5 with h5 | h5
    · exact h5.2
    · exact absurd hk h5.1
theorem TA_kind (h : xTA t nm G u m a s vs) : (G.1 a).toInt = ((nx s).1 : Int) := by
  obtain ⟨_, h2, s', _, _, h5⟩ := TA_E h
  rw [h5.1, nI_toInt (by omega)]
theorem TA_key (h : xTA t nm G u m a s vs) : G.2.2.2.2.2 a = tK (nx s) := by
  obtain ⟨_, h2, s', _, _, h5⟩ := TA_E h
  unfold tK
  split
  next h1 =>
    obtain ⟨z, _, _, _, z4⟩ := h5.2.2.2.1 h1
    exact z4
  next h1 => exact h5.2.2.2.2.2.2.2.2 h1
theorem TA_val (h : xTA t nm G u m a s vs) (hk : (nx s).1 = 5 ∨ (nx s).1 = 3) : G.2.2.2.1 a = nI (nx s).2.1 := by
  obtain ⟨_, h2, s', _, _, h5⟩ := TA_E h
  rcases hk with hk | hk
  · exact h5.2.2.2.2.2.2.2.1 hk
  · exact h5.2.2.2.2.2.1 hk
end TA
theorem mk_lt {s : List Nat} (hs : ∀ c ∈ s, 32 ≤ c ∧ c ≤ 126) (h : (nx s).1 = 5) : (nx s).2.1 ≤ 126 := by
  obtain ⟨s', h1, h2⟩ := nx_lay (s := s) (by omega)
  rw [h2] at h ⊢
  have e := lexT_mark h
  have : (lexT s').2.1 ∈ (lexT s').2.1 :: (lexT s').2.2.2 := List.mem_cons_self
  rw [← e] at this
  exact (hs _ ((lay_sfx h1).mem _ this)).2
theorem TA_bgn {t nm : List Nat} {G : xG} {u m a : Nat} {s : List Nat} {vs : List (List Nat)} (h : xTA t nm G u m a s vs) (hs : ∀ c ∈ s, 32 ≤ c ∧ c ≤ 126) : (if a < u then bgT (G.1 a).toInt (G.2.2.2.1 a).toInt else false) = bgn (nx s) := by
  obtain ⟨h1, h2, _⟩ := TA_E h
  rw [if_pos h1, TA_kind h]
  unfold bgn
  rw [decide_eq_true h2, Bool.true_and]
  by_cases h5 : (nx s).1 = 5
  · rw [TA_val h (Or.inl h5), nI_toInt (by have := mk_lt hs h5; omega)]
  · unfold bgT
    have e5 : ¬ ((nx s).1 : Int) = 5 := by omega
    rw [if_neg e5, if_neg e5]
end
section
-- Parser: calls, minus, marks, operators ahead
theorem lexT_40 (r : List Nat) : lexT (40 :: r) = (5, 40, [], r) := rfl
section TB
variable {t nm : List Nat} {G : xG} {u m a : Nat} {s : List Nat} {vs : List (List Nat)}
/-- the token behind, and whether it stands at once behind -/
theorem TA_adj (h : xTA t nm G u m a s vs) (hl : t.length ≤ 120) (hsx : sfx t s) (hk : ¬ (nx s).1 = 0) : ∃ m' s2, xTA t nm G u m' (a + 1) (nx s).2.2.2 (vsx vs (nx s)) ∧ a + 1 < u ∧ lay 121 (nx s).2.2.2 = some s2 ∧ nx (nx s).2.2.2 = lexT s2 ∧ ((G.2.2.1 a).toInt = (G.2.1 (a + 1)).toInt ↔ (nx s).2.2.2 = s2) := by
  obtain ⟨h1, h2, s', h3, h4, h5⟩ := TA_E h
  obtain ⟨m', h'⟩ := TA_next h hk
  obtain ⟨k1, k2, s2, k3, k4, k5⟩ := TA_E h'
  have sx1 : sfx t (nx s).2.2.2 := hsx.trans (nx_sfx' h2)
  have sx2 : sfx (nx s).2.2.2 s2 := lay_sfx k3
  have l1 := sx1.drop.2
  have l2 := sx2.drop.2
  refine ⟨m', s2, h', k1, k3, k4, ?_⟩
  rw [h5.2.2.1, k5.2.1, nI_toInt (by omega), nI_toInt (by omega)]
  constructor
  · intro z
    exact sx2.eq (by omega)
  · intro z
    rw [← z]
theorem TA_call (h : xTA t nm G u m a s vs) (hl : t.length ≤ 120) (hsx : sfx t s) (hch : ∀ c ∈ t, 32 ≤ c ∧ c ≤ 126) : isCal (nx s) = true ↔ (a + 1 < u ∧ (G.1 a).toInt = 1 ∧ (G.2.2.1 a).toInt = (G.2.1 (a + 1)).toInt ∧ (G.1 (a + 1)).toInt = 5 ∧ (G.2.2.2.1 (a + 1)).toInt = 40) := by
  have hk := TA_kind h
  obtain ⟨_, h6, _⟩ := TA_E h
  constructor
  · intro hc
    simp [isCal] at hc
    obtain ⟨m', s2, h', h1, h2, h3, h4⟩ := TA_adj h hl hsx (by omega)
    cases hr : (nx s).2.2.2 with
    | nil =>
      rw [hr] at hc
      cases hc.2
    | cons c r =>
      rw [hr] at hc h2 h3 h4 h'
      have hc40 : c = 40 := Option.some.inj hc.2
      subst hc40
      rw [lay_stay (by decide) (by decide) (by decide)] at h2
      cases h2
      have hn : nx (40 :: r) = (5, 40, [], r) := h3
      have k1 := TA_kind h'
      have k2 := TA_val h' (Or.inl (by rw [hn]))
      rw [hn] at k1 k2
      refine ⟨h1, by rw [hk, hc.1]; rfl, h4.mpr rfl, k1, ?_⟩
      rw [k2]
      rfl
  · intro ⟨h1, h2, h3, h4, h5⟩
    have hk1 : (nx s).1 = 1 := by omega
    obtain ⟨m', s2, h', _, y1, y2, y3⟩ := TA_adj h hl hsx (by omega)
    have hr := y3.mp h3
    have k1 := TA_kind h'
    have k5 : (nx (nx s).2.2.2).1 = 5 := by omega
    have hsr : ∀ c ∈ (nx s).2.2.2, 32 ≤ c ∧ c ≤ 126 := fun c hc => hch c ((hsx.trans (nx_sfx' h6)).mem c hc)
    have kv := TA_val h' (Or.inl k5)
    rw [kv, nI_toInt (by have := mk_lt hsr k5; omega)] at h5
    rw [y2] at k5 h5
    have e := lexT_mark k5
    simp only [isCal, Bool.and_eq_true, decide_eq_true_eq]
    refine ⟨hk1, ?_⟩
    rw [hr, e, List.head?_cons]
    congr 1
    omega
theorem TA_min (h : xTA t nm G u m a s vs) (hl : t.length ≤ 120) (hsx : sfx t s) (hch : ∀ c ∈ t, 32 ≤ c ∧ c ≤ 126) : isMin s (nx s) = true ↔ (a + 1 < u ∧ (G.1 a).toInt = 1 ∧ G.2.2.2.2.2 a = 45 ∧ (G.2.2.1 a).toInt = (G.2.1 (a + 1)).toInt ∧ (G.1 (a + 1)).toInt = 3 ∧ ¬ (cAt t (G.2.1 a)).toInt = 39) := by
  have hk := TA_kind h
  obtain ⟨_, h6, s', y1, y2, y3⟩ := TA_E h
  have hss : ∀ c ∈ s, 32 ≤ c ∧ c ≤ 126 := fun c hc => hch c (hsx.mem c hc)
  have hss' : ∀ c ∈ s', c < 128 := fun c hc => by
    have := hss c ((lay_sfx y1).mem c hc)
    omega
  have hnm : ∀ c ∈ (nx s).2.2.1, c < 256 ∧ ¬ c = 0 := fun c hc => by
    have := nx_chr hss c hc
    omega
  have dr := (hsx.trans (lay_sfx y1)).drop
  have hq : (cAt t (G.2.1 a)).toInt = 39 ↔ qd s = true := by
    rw [y3.2.1, cAt_sfx0 dr.1 (by omega)]
    unfold qd
    rw [y1]
    cases s' with
    | nil =>
      simp [oc_nil]
    | cons c r =>
      have := hss' c List.mem_cons_self
      simp [oc_0, nI_toInt (show c < 2 ^ 31 by omega)]
      omega
  have hkey : (nx s).1 = 1 → (G.2.2.2.2.2 a = 45 ↔ (nx s).2.2.1 = [45]) := by
    intro h1
    rw [TA_key h]
    unfold tK
    rw [if_pos h1]
    exact kL_eq (k := [45]) hnm (by decide) (by decide) (by decide)
  rw [hq]
  simp only [isMin, Bool.and_eq_true, decide_eq_true_eq, Bool.not_eq_true']
  constructor
  · intro ⟨c1, c2, c3, c4⟩
    obtain ⟨m', s2, h', h1, h2, h3, h4⟩ := TA_adj h hl hsx (by omega)
    cases hr : (nx s).2.2.2 with
    | nil =>
      rw [hr] at c4
      cases c4
    | cons c r =>
      rw [hr] at c4 h2 h3 h4 h'
      have hd : isDg c = true := c4
      obtain ⟨_, _, _, d1, d2, d3⟩ := dg_not hd
      rw [lay_stay d1 d2 d3] at h2
      cases h2
      have k1 := TA_kind h'
      obtain ⟨_, k6, _⟩ := TA_E h'
      rw [h3] at k1 k6
      have := lexT_dig (s := c :: r) c4
      refine ⟨h1, by omega, (hkey c1).mpr c2, h4.mpr rfl, by omega, by rw [c3]; decide⟩
  · intro ⟨h1, h2, h3, h4, h5, h7⟩
    have hk1 : (nx s).1 = 1 := by omega
    obtain ⟨m', s2, h', _, z1, z2, z3⟩ := TA_adj h hl hsx (by omega)
    have hr := z3.mp h4
    have k1 := TA_kind h'
    rw [z2] at k1
    refine ⟨hk1, (hkey hk1).mp h3, by simpa using h7, ?_⟩
    rw [hr]
    exact lexT_num (by omega)
end TB
def xPa (A : List xC) (a pr : Nat) : Prop := A[25]? = some (.inr (3, [.ref 18, .ref 7, .ref 11, .int (nI a), .int (nI pr)]))
/-- all that the reader of terms stands on -/
def xWd (A : List xC) (t nm : List Nat) (sl : List xSl) (u p v : Nat) (G : xG) (n : Nat) (F : xF) (a pr : Nat) : Prop := xRw A 1 120 t ∧ xRw A 5 4926 nm ∧ xOp A sl ∧ xTk A u p v G ∧ xPt A n F ∧ xPa A a pr ∧ pr ≤ 1200
theorem xWd.setA {A : List xC} {t nm : List Nat} {sl : List xSl} {u p v : Nat} {G : xG} {n : Nat} {F : xF} {a pr : Nat} (h : xWd A t nm sl u p v G n F a pr) (a' pr' : Nat) (hp : pr' ≤ 1200) : xWd (A.set 25 (.inr (3, [.ref 18, .ref 7, .ref 11, .int (nI a'), .int (nI pr')]))) t nm sl u p v G n F a' pr' := by
  obtain ⟨h1, h2, h3, h4, h5, h6, h7⟩ := h
  have s := xSame.set (A := A) 25 (.inr (3, [.ref 18, .ref 7, .ref 11, .int (nI a'), .int (nI pr')]))
  exact ⟨h1.same s (by decide) (by decide), h2.same s (by decide) (by decide), h3.same s (by decide) (by decide) (by decide) (by decide), h4.same s (by decide), h5.same s (by decide) (by decide) (by decide) (by decide) (by decide) (by decide) (by decide), xset_eq h6, hp⟩
/-- with other parts -/
theorem xWd.setP {A A' : List xC} {t nm : List Nat} {sl : List xSl} {u p v : Nat} {G : xG} {n n' : Nat} {F F' : xF} {a pr : Nat} (h : xWd A t nm sl u p v G n F a pr) (hp : xPt A' n' F') (s : xSame A A' [11, 12, 13, 14, 15, 16, 17]) : xWd A' t nm sl u p v G n' F' a pr := by
  obtain ⟨h1, h2, h3, h4, h5, h6, h7⟩ := h
  exact ⟨h1.same s (by decide) (by decide), h2.same s (by decide) (by decide), h3.same s (by decide) (by decide) (by decide) (by decide), h4.same s (by decide), hp, (s.2 25 (by decide)).trans h6, h7⟩
section PA
variable {sc : xSc} {d g : Nat} {A : List xC} {t nm : List Nat} {sl : List xSl} {u p v : Nat} {G : xG} {n : Nat} {F : xF} {a pr : Nat} {m : Nat} {s : List Nat} {vs : List (List Nat)} {P : xO → xH → Prop}
set_option maxRecDepth 100000 in
theorem p_takeG {c : Int32} (hw : xWd A t nm sl u p v G n F a pr) (ha : a < 2 ^ 30) (k : ∀ A' a' b, xWd A' t nm sl u p v G n F a' pr → a' ≤ a + 1 → xSame A A' [25] → P (.inl (some (.int (xb b)))) (A', g)) : xM1 sc (d + 3) 52 [.ref 25, .int c] (A, g) P := by
  obtain ⟨hs, hn, ho, ht, hp, h25, hpr⟩ := id hw
  unfold xPa at h25
  obtain ⟨b, hb⟩ : ∃ b : Bool, b = true ↔ a < u ∧ (G.1 a).toInt = 5 ∧ (G.2.2.2.1 a).toInt = c.toInt := ⟨decide (a < u ∧ (G.1 a).toInt = 5 ∧ (G.2.2.2.1 a).toInt = c.toInt), decide_eq_true_iff⟩
  unfold xM1
  refine xP_s rfl rfl rfl ?_
  refine xP_get rfl h25 rfl ?_
  refine xP_s rfl rfl rfl ?_
  refine xP_get rfl h25 rfl ?_
  refine xP_s rfl rfl rfl ?_
  refine xP_cv rfl rfl rfl rfl rfl ht.2.1 (p_isMark ht (by omega) hb ?_)
  cases b
  · repeat' first
      | refine xP_s rfl rfl rfl ?_
      | refine xP_ret rfl rfl rfl ?_
    exact k A a false hw (by omega) (xSame.refl _ _)
  · refine xP_s rfl rfl rfl ?_
    refine xP_s rfl rfl rfl ?_
    refine xP_s rfl rfl rfl ?_
    refine xP_get rfl h25 rfl ?_
    refine xP_s rfl rfl rfl ?_
    refine xP_s rfl rfl rfl ?_
    refine xP_put rfl h25 (Nat.le_of_ble_eq_true rfl) rfl ?_
    rw [show nI a + 1 = nI (a + 1) from nI_1 a]
    repeat' first
      | refine xP_s rfl rfl rfl ?_
      | refine xP_ret rfl rfl rfl ?_
    exact k _ (a + 1) true (hw.setA (a + 1) pr hpr) (by omega) (xSame.set _ _)
set_option maxRecDepth 100000 in
theorem p_take {c : Nat} (hw : xWd A t nm sl u p v G n F a pr) (hta : xTA t nm G u m a s vs) (hss : ∀ c ∈ s, 32 ≤ c ∧ c ≤ 126) (hc : c < 128)
    (k0 : isMk s c = false → P (.inl (some (.int 0))) (A, g))
    (k1 : isMk s c = true → ∀ A' m', xWd A' t nm sl u p v G n F (a + 1) pr → xTA t nm G u m' (a + 1) (nx s).2.2.2 vs → xSame A A' [25] → P (.inl (some (.int 1))) (A', g)) : xM1 sc (d + 3) 52 [.ref 25, .int (nI c)] (A, g) P := by
  obtain ⟨hs, hn, ho, ht, hp, h25, hpr⟩ := id hw
  unfold xPa at h25
  obtain ⟨q1, q2, _⟩ := TA_E hta
  have hu := ht.1
  have hb : isMk s c = true ↔ a < u ∧ (G.1 a).toInt = 5 ∧ (G.2.2.2.1 a).toInt = (nI c).toInt := by
    rw [TA_kind hta, nI_toInt (show c < 2 ^ 31 by omega)]
    unfold isMk
    simp only [Bool.and_eq_true, decide_eq_true_eq]
    constructor
    · intro ⟨z1, z2⟩
      refine ⟨q1, by omega, ?_⟩
      rw [TA_val hta (Or.inl z1), nI_toInt (by omega)]
      omega
    · intro ⟨_, z1, z2⟩
      have z5 : (nx s).1 = 5 := by omega
      rw [TA_val hta (Or.inl z5), nI_toInt (by have := mk_lt hss z5; omega)] at z2
      exact ⟨z5, by omega⟩
  unfold xM1
  refine xP_s rfl rfl rfl ?_
  refine xP_get rfl h25 rfl ?_
  refine xP_s rfl rfl rfl ?_
  refine xP_get rfl h25 rfl ?_
  refine xP_s rfl rfl rfl ?_
  refine xP_cv rfl rfl rfl rfl rfl ht.2.1 (p_isMark ht (by omega) hb ?_)
  cases hm : isMk s c
  · repeat' first
      | refine xP_s rfl rfl rfl ?_
      | refine xP_ret rfl rfl rfl ?_
    exact k0 hm
  · have z5 := (isMk_k hm).1
    obtain ⟨m', h'⟩ := TA_next hta (by omega)
    unfold vsx at h'
    rw [if_neg (by omega)] at h'
    refine xP_s rfl rfl rfl ?_
    refine xP_s rfl rfl rfl ?_
    refine xP_s rfl rfl rfl ?_
    refine xP_get rfl h25 rfl ?_
    refine xP_s rfl rfl rfl ?_
    refine xP_s rfl rfl rfl ?_
    refine xP_put rfl h25 (Nat.le_of_ble_eq_true rfl) rfl ?_
    rw [show nI a + 1 = nI (a + 1) from nI_1 a]
    repeat' first
      | refine xP_s rfl rfl rfl ?_
      | refine xP_ret rfl rfl rfl ?_
    exact k1 hm _ m' (hw.setA (a + 1) pr hpr) h' (xSame.set _ _)
set_option maxRecDepth 100000 in
theorem p_isBareBehind (hw : xWd A t nm sl u p v G n F a pr) {i : Nat} (hta : xTA t nm G u m i s vs) (hsx : sfx t s) (hch : ∀ c ∈ t, 32 ≤ c ∧ c ≤ 126) (k : P (.inl (some (.int (xb (bare sl s))))) (A, g)) : xM1 sc (d + 4) 42 [.ref 25, .int (nI i)] (A, g) P := by
  obtain ⟨hs, hn, ho, ht, hp, h25, hpr⟩ := id hw
  unfold xPa at h25
  obtain ⟨q1, q2, _⟩ := TA_E hta
  have hu := ht.1
  have hl := hs.len
  have h1 : (1 : Int32).toInt = 1 := rfl
  have hkd := TA_kind hta
  have hky := TA_key hta
  have hF := sI_none _ (fun j h => (fnd_lt ho (pre := false) (key := tK (nx s)) h).2)
  have hB := sI_none _ (fun j h => (fnd_lt ho (pre := true) (key := tK (nx s)) h).2)
  have hm1 : (-1 : Int32).toInt = -1 := rfl
  have eF : (opB sl (tK (nx s))).isSome = true ↔ ¬ fnd false (tK (nx s)) sl 0 = none := by
    unfold opB
    cases hf : fnd false (tK (nx s)) sl 0 with
    | none => simp [slE]
    | some j =>
      have := (fnd_lt ho hf).1
      simp [slE, this]
  have eB : (opP sl (tK (nx s))).isSome = true ↔ ¬ fnd true (tK (nx s)) sl 0 = none := by
    unfold opP
    cases hf : fnd true (tK (nx s)) sl 0 with
    | none => simp [slE]
    | some j =>
      have := (fnd_lt ho hf).1
      simp [slE, this]
  unfold xM1
  refine xP_s rfl rfl rfl ?_
  refine xP_get rfl h25 rfl ?_
  refine xP_s rfl rfl rfl ?_
  refine xP_cv rfl rfl rfl rfl rfl ht.2.1 (p_tkind ht (by omega) ?_)
  rw [if_pos q1]
  refine xP_s rfl rfl rfl ?_
  refine xP_s rfl rfl rfl ?_
  refine xP_if (fun hc => ?_) (fun hc => ?_)
  · have z := xc_t hc
    dsimp only at z
    have e : bare sl s = false := by
      unfold bare
      rw [decide_eq_false (by omega), Bool.false_and]
    rw [e] at k
    repeat' first
      | refine xP_s rfl rfl rfl ?_
      | refine xP_ret rfl rfl rfl ?_
    exact k
  · have z := xc_f hc
    dsimp only at z
    have hk1 : (nx s).1 = 1 := by omega
    refine xP_s rfl rfl rfl ?_
    refine xP_get rfl h25 rfl ?_
    refine xP_s rfl rfl rfl ?_
    refine xP_cv rfl rfl rfl rfl rfl ht.2.1 (p_isCall ht (by omega) (TA_call hta hl hsx hch) ?_)
    cases hcal : isCal (nx s)
    · refine xP_s rfl rfl rfl ?_
      refine xP_s rfl rfl rfl ?_
      refine xP_get rfl h25 rfl ?_
      refine xP_s rfl rfl rfl ?_
      refine xP_cv rfl rfl rfl rfl rfl ht.2.1 (p_isMinusOfInteger ht hs (by omega) (TA_min hta hl hsx hch) ?_)
      cases hmin : isMin s (nx s)
      · refine xP_s rfl rfl rfl ?_
        refine xP_s rfl rfl rfl ?_
        refine xP_get rfl h25 rfl ?_
        refine xP_s rfl rfl rfl ?_
        refine xP_cv rfl rfl rfl rfl rfl ht.2.1 (p_tkey ht (by omega) ?_)
        rw [if_pos q1, hky]
        refine xP_s rfl rfl rfl ?_
        refine xP_s rfl rfl rfl ?_
        refine xP_get rfl h25 rfl ?_
        refine xP_s rfl rfl rfl ?_
        refine xP_cv rfl rfl rfl rfl rfl ho.obj (p_behind ho ?_)
        refine xP_s rfl rfl rfl ?_
        refine xP_s rfl rfl rfl ?_
        have e : bare sl s = ((opB sl (tK (nx s))).isSome && !(opP sl (tK (nx s))).isSome) := by
          unfold bare
          rw [decide_eq_true hk1, hcal, hmin]
          simp
        rw [e] at k
        refine xP_if (fun hc => ?_) (fun hc => ?_)
        · have y := xc_t hc
          dsimp only at y
          rw [hm1, hF] at y
          rw [show (opB sl (tK (nx s))).isSome = false from Bool.not_eq_true _ ▸ fun q => (eF.mp q) y, Bool.false_and] at k
          repeat' first
            | refine xP_s rfl rfl rfl ?_
            | refine xP_ret rfl rfl rfl ?_
          exact k
        · have y := xc_f hc
          dsimp only at y
          rw [hm1, hF] at y
          rw [eF.mpr y, Bool.true_and] at k
          refine xP_s rfl rfl rfl ?_
          refine xP_get rfl h25 rfl ?_
          refine xP_s rfl rfl rfl ?_
          refine xP_cv rfl rfl rfl rfl rfl ho.obj (p_prefix ho ?_)
          refine xP_s rfl rfl rfl ?_
          refine xP_s rfl rfl rfl ?_
          refine xP_if (fun hc => ?_) (fun hc => ?_)
          · have w := xc_t hc
            dsimp only at w
            rw [hm1, hB] at w
            rw [eB.mpr w] at k
            repeat' first
              | refine xP_s rfl rfl rfl ?_
              | refine xP_ret rfl rfl rfl ?_
            exact k
          · have w := xc_f hc
            dsimp only at w
            rw [hm1, hB] at w
            rw [show (opP sl (tK (nx s))).isSome = false from Bool.not_eq_true _ ▸ fun q => (eB.mp q) w] at k
            repeat' first
              | refine xP_s rfl rfl rfl ?_
              | refine xP_ret rfl rfl rfl ?_
            exact k
      · have e : bare sl s = false := by
          unfold bare
          rw [hmin]
          simp
        rw [e] at k
        repeat' first
          | refine xP_s rfl rfl rfl ?_
          | refine xP_ret rfl rfl rfl ?_
        exact k
    · have e : bare sl s = false := by
        unfold bare
        rw [hcal]
        simp
      rw [e] at k
      repeat' first
        | refine xP_s rfl rfl rfl ?_
        | refine xP_ret rfl rfl rfl ?_
      exact k
end PA
end
section
-- trees that grow; operators ahead
def xA0 (F F' : xF) (n : Nat) : Prop := ∀ j, j < n → F'.1 j = F.1 j ∧ F'.2.1 j = F.2.1 j ∧ F'.2.2.1 j = F.2.2.1 j ∧ F'.2.2.2.1 j = F.2.2.2.1 j ∧ F'.2.2.2.2.1 j = F.2.2.2.2.1 j ∧ F'.2.2.2.2.2 j = F.2.2.2.2.2 j
theorem xA0.refl (F : xF) (n : Nat) : xA0 F F n := fun _ _ => ⟨rfl, rfl, rfl, rfl, rfl, rfl⟩
theorem xA0.trans {F F' F2 : xF} {n n' : Nat} (h : xA0 F F' n) (h' : xA0 F' F2 n') (hn : n ≤ n') : xA0 F F2 n := fun j hj => by
  obtain ⟨a1, a2, a3, a4, a5, a6⟩ := h j hj
  obtain ⟨b1, b2, b3, b4, b5, b6⟩ := h' j (by omega)
  exact ⟨b1.trans a1, b2.trans a2, b3.trans a3, b4.trans a4, b5.trans a5, b6.trans a6⟩
theorem xA0_add (F : xF) (n : Nat) (x1 x2 x3 x4 x5 : Int32) {k : Nat} (hk : k ≤ n) : xA0 F (xAdd F n x1 x2 x3 x4 x5) k := fun j hj => by
  have h : j ≠ n := by omega
  exact ⟨pk_un h, pk_un h, pk_un h, pk_un h, pk_un h, pk_un h⟩
theorem xA0_lk (F : xF) {l r k : Nat} (hl : k ≤ l) (hr : k ≤ r) : xA0 F (xLk F l r) k := fun j hj => by
  have h1 : j ≠ l := by omega
  have h2 : j ≠ r := by omega
  refine ⟨rfl, rfl, rfl, rfl, ?_, rfl⟩
  show upd (upd F.2.2.2.2.1 l (nI r)) r (-1) j = _
  rw [pk_un h2, pk_un h1]
theorem xA0.ag {F F' : xF} {n lo hi : Nat} (h : xA0 F F' n) (hh : hi ≤ n) : xAg F F' lo hi := fun j _ h2 => by
  obtain ⟨a1, a2, a3, a4, a5, a6⟩ := h j (by omega)
  exact ⟨a1, a2, a3, a4, fun _ => a5⟩
theorem xTr.same0 {F F' : xF} {nm : List Nat} {e lo hi n : Nat} {L : List xIt} (h : xTr F nm e lo hi L) (hg : xA0 F F' n) (hh : hi ≤ n) : xTr F' nm e lo hi L := by
  have := h.frame (r := []) (hg.ag (lo := lo) hh)
  rwa [List.append_nil] at this
theorem xTr.frame0 {F F' : xF} {nm : List Nat} {e lo hi : Nat} {L : List xIt} (h : xTr F nm e lo hi L) (hg : xAg F F' lo hi) : xTr F' nm e lo hi L := by
  have := h.frame (r := []) hg
  rwa [List.append_nil] at this
/-- a part without arguments -/
theorem tr_leaf {F : xF} {nm : List Nat} {n : Nat} {x1 x2 x3 x5 : Int32} {p : xIt} (hk : x1 = nI p.1) (h3 : p.1 < 3) (hok : okIt p) (hv : p.1 < 2 → x2.toInt = p.2.1) (hn : 2 ≤ p.1 → ∃ z, x2 = nI z ∧ x3 = nI p.2.2.1.length ∧ nmAt nm z p.2.2.1) : xTr (xAdd F n x1 x2 x3 (-1) x5) nm 1 n (n + 1) [p] := by
  refine ⟨by omega, p, [], rfl, hok, ⟨?_, by omega, ?_, ?_⟩, ?_⟩
  · show upd F.1 n x1 n = _
    rw [pk_us]
    exact hk
  · intro h
    show (upd F.2.1 n x2 n).toInt = _
    rw [pk_us]
    exact hv h
  · intro h
    obtain ⟨z, z1, z2, z3⟩ := hn h
    refine ⟨z, ?_, ?_, z3⟩
    · show upd F.2.1 n x2 n = _
      rw [pk_us]
      exact z1
    · show upd F.2.2.1 n x3 n = _
      rw [pk_us]
      exact z2
  · rw [hok.1 h3]
    refine ⟨?_, rfl⟩
    show upd F.2.2.2.1 n (-1) n = -1
    rw [pk_us]
/-- a part with arguments that stand there -/
theorem tr_many {F : xF} {nm : List Nat} {e lo n k z : Nat} {x4 x5 : Int32} {w : List Nat} {L : List xIt} (hc : xCh F (fun a b l => xTr F nm e a b l) k x4 lo n L) (hk : 1 ≤ k ∧ k ≤ 6) (hlo : lo < n) (hz : nmAt nm z w) : xTr (xAdd F n 3 (nI z) (nI w.length) x4 x5) nm (e + 1) lo (n + 1) ((3, 0, w, k) :: L) := by
  refine ⟨by omega, (3, 0, w, k), L, rfl, ⟨fun h => by simp at h, fun _ => hk, fun h => by simp at h, fun _ => rfl⟩, ⟨?_, by simp, fun h => by simp at h, fun _ => ⟨z, ?_, ?_, hz⟩⟩, ?_⟩
  · show upd F.1 n 3 n = _
    rw [pk_us]
    rfl
  · show upd F.2.1 n (nI z) n = _
    rw [pk_us]
  · show upd F.2.2.1 n (nI w.length) n = _
    rw [pk_us]
  · show xCh _ _ k (upd F.2.2.2.1 n x4 n) lo n L
    rw [pk_us]
    refine xCh_map (fun j h1 h2 => ?_) (fun a b l h1 h2 ht => ht.same0 (xA0_add F n 3 (nI z) (nI w.length) x4 x5 (Nat.le_refl _)) h2) hc
    show upd F.2.2.2.2.1 n (-1) j = _
    rw [pk_un (by omega)]
theorem tr_one {F : xF} {nm : List Nat} {e lo n z : Nat} {x5 : Int32} {w : List Nat} {R : List xIt} (ht : xTr F nm e lo n R) (hx : F.2.2.2.2.1 (n - 1) = -1) (hz : nmAt nm z w) : xTr (xAdd F n 3 (nI z) (nI w.length) (nI (n - 1)) x5) nm (e + 1) lo (n + 1) ((3, 0, w, 1) :: R) :=
  tr_many ⟨lo, n, R, [], Nat.le_refl _, ht.root, Nat.le_refl _, rfl, ht, (List.append_nil _).symm, hx, rfl⟩ ⟨by omega, by omega⟩ ht.root hz
theorem tr_pair {F : xF} {nm : List Nat} {e1 e2 lo n l1 l2 r1 r2 z : Nat} {x5 : Int32} {w : List Nat} {L R : List xIt} (hl : xTr F nm e1 l1 l2 L) (hr : xTr F nm e2 r1 r2 R) (hd : l2 ≤ r1 ∨ r2 ≤ l1) (h1 : lo ≤ l1) (h2 : lo ≤ r1) (h3 : l2 ≤ n) (h4 : r2 ≤ n) (hz : nmAt nm z w) : xTr (xAdd (xLk F (l2 - 1) (r2 - 1)) n 3 (nI z) (nI w.length) (nI (l2 - 1)) x5) nm (max e1 e2 + 1) lo (n + 1) ((3, 0, w, 2) :: (L ++ R)) := by
  have q1 := hl.root
  have q2 := hr.root
  have fx : ∀ j, (xLk F (l2 - 1) (r2 - 1)).2.2.2.2.1 j = upd (upd F.2.2.2.2.1 (l2 - 1) (nI (r2 - 1))) (r2 - 1) (-1) j := fun _ => rfl
  have aL : xAg F (xLk F (l2 - 1) (r2 - 1)) l1 l2 := fun j z1 z2 => ⟨rfl, rfl, rfl, rfl, fun z3 => by
    rw [fx, pk_un (by omega), pk_un (by omega)]⟩
  have aR : xAg F (xLk F (l2 - 1) (r2 - 1)) r1 r2 := fun j z1 z2 => ⟨rfl, rfl, rfl, rfl, fun z3 => by
    rw [fx, pk_un (by omega), pk_un (by omega)]⟩
  refine tr_many (k := 2) ⟨l1, l2, L, R, h1, q1, h3, rfl, (hl.frame0 aL).le (by omega), rfl, r1, r2, R, [], h2, q2, h4, ?_, (hr.frame0 aR).le (by omega), (List.append_nil _).symm, ?_, rfl⟩ ⟨by omega, by omega⟩ (by omega) hz
  · rw [fx, pk_un (by omega), pk_us]
  · rw [fx, pk_us]
section PB
variable {sc : xSc} {d g : Nat} {A : List xC} {t nm : List Nat} {sl : List xSl} {u p v : Nat} {G : xG} {n : Nat} {F : xF} {a pr : Nat} {m : Nat} {s : List Nat} {vs : List (List Nat)} {P : xO → xH → Prop}
set_option maxRecDepth 100000 in
theorem p_isPrefixed (hw : xWd A t nm sl u p v G n F a pr) (hta : xTA t nm G u m a s vs) (hsx : sfx t s) (hch : ∀ c ∈ t, 32 ≤ c ∧ c ≤ 126) {x : Int32} {most : Int} (hx : x.toInt = most) (k : P (.inl (some (.int (xb (pfx sl most s).isSome)))) (A, g)) : xM1 sc (d + 5) 41 [.ref 25, .int x] (A, g) P := by
  obtain ⟨hs, hn, ho, ht, hp, h25, hpr⟩ := id hw
  unfold xPa at h25
  obtain ⟨q1, q2, _⟩ := TA_E hta
  have hu := ht.1
  have hl := hs.len
  have h1 : (1 : Int32).toInt = 1 := rfl
  have hm1 : (-1 : Int32).toInt = -1 := rfl
  have hkd := TA_kind hta
  have hky := TA_key hta
  have hB := sI_none _ (fun j h => (fnd_lt ho (pre := true) (key := tK (nx s)) h).2)
  have hv := fun j h => (fnd_lt ho (pre := true) (key := tK (nx s)) (i := j) h).1
  unfold xM1
  refine xP_s rfl rfl rfl ?_
  refine xP_get rfl h25 rfl ?_
  refine xP_s rfl rfl rfl ?_
  refine xP_get rfl h25 rfl ?_
  refine xP_cv rfl rfl rfl rfl rfl ht.2.1 (p_tkind ht (by omega) ?_)
  rw [if_pos q1]
  refine xP_s rfl rfl rfl ?_
  refine xP_s rfl rfl rfl ?_
  refine xP_if (fun hc => ?_) (fun hc => ?_)
  · have z := xc_t hc
    dsimp only at z
    have e : pfx sl most s = none := by
      unfold pfx
      rw [if_neg (fun q => by omega)]
    rw [e] at k
    repeat' first
      | refine xP_s rfl rfl rfl ?_
      | refine xP_ret rfl rfl rfl ?_
    exact k
  · have z := xc_f hc
    dsimp only at z
    have hk1 : (nx s).1 = 1 := by omega
    refine xP_s rfl rfl rfl ?_
    refine xP_get rfl h25 rfl ?_
    refine xP_s rfl rfl rfl ?_
    refine xP_get rfl h25 rfl ?_
    refine xP_cv rfl rfl rfl rfl rfl ht.2.1 (p_isCall ht (by omega) (TA_call hta hl hsx hch) ?_)
    cases hcal : isCal (nx s)
    · refine xP_s rfl rfl rfl ?_
      refine xP_s rfl rfl rfl ?_
      refine xP_get rfl h25 rfl ?_
      refine xP_s rfl rfl rfl ?_
      refine xP_get rfl h25 rfl ?_
      refine xP_cv rfl rfl rfl rfl rfl ht.2.1 (p_isMinusOfInteger ht hs (by omega) (TA_min hta hl hsx hch) ?_)
      cases hmin : isMin s (nx s)
      · have e : pfx sl most s = (match opP sl (tK (nx s)) with
          | some e => if (e.2.1 : Int) ≤ most ∧ bgn (nx (nx s).2.2.2) = true ∧ bare sl (nx s).2.2.2 = false then some e else none
          | none => none) := by
          unfold pfx
          rw [if_pos ⟨hk1, hcal, hmin⟩]
          rfl
        obtain ⟨m', h'⟩ := TA_next hta (by omega)
        have hsx' : sfx t (nx s).2.2.2 := hsx.trans (nx_sfx' q2)
        have hss' : ∀ c ∈ (nx s).2.2.2, 32 ≤ c ∧ c ≤ 126 := fun c hc => hch c (hsx'.mem c hc)
        obtain ⟨r1, r2, _⟩ := TA_E h'
        refine xP_s rfl rfl rfl ?_
        refine xP_s rfl rfl rfl ?_
        refine xP_get rfl h25 rfl ?_
        refine xP_s rfl rfl rfl ?_
        refine xP_get rfl h25 rfl ?_
        refine xP_s rfl rfl rfl ?_
        refine xP_get rfl h25 rfl ?_
        refine xP_cv rfl rfl rfl rfl rfl ht.2.1 (p_tkey ht (by omega) ?_)
        rw [if_pos q1, hky]
        refine xP_cv rfl rfl rfl rfl rfl ho.obj (p_prefix ho ?_)
        refine xP_s rfl rfl rfl ?_
        refine xP_s rfl rfl rfl ?_
        refine xP_s rfl rfl rfl ?_
        refine xP_s rfl rfl rfl ?_
        unfold opP at e
        refine xP_if (fun hc => ?_) (fun hc => ?_)
        · have y := xc_t hc
          dsimp only at y
          rw [hm1, hB] at y
          rw [y] at e
          rw [e] at k
          repeat' first
            | refine xP_s rfl rfl rfl ?_
            | refine xP_ret rfl rfl rfl ?_
          exact k
        · have y := xc_f hc
          dsimp only at y
          rw [hm1, hB] at y
          cases hf : fnd true (tK (nx s)) sl 0 with
          | none => exact absurd hf y
          | some j =>
            have hj := hv j hf
            obtain ⟨en, hen⟩ : ∃ en, sl[j]? = some en := ⟨sl[j]'hj, List.getElem?_eq_getElem hj⟩
            have hsE : slE sl (some j) = some en := hen
            rw [hf, hsE] at e
            dsimp only at e
            have hent := ho.ent hen
            have hEn : (nI en.2.1).toInt = (en.2.1 : Int) := nI_toInt (by omega)
            refine xP_s rfl rfl rfl ?_
            refine xP_get rfl h25 rfl ?_
            refine xP_s rfl rfl rfl ?_
            refine xP_cv rfl rfl rfl rfl rfl ho.obj (p_priority (o := some j) ho (fun i h => Option.some.inj h ▸ hj) ?_)
            rw [hsE]
            refine xP_s rfl rfl rfl ?_
            refine xP_s rfl rfl rfl ?_
            refine xP_if (fun hc => ?_) (fun hc => ?_)
            · have w := xc_t hc
              dsimp only [slP] at w
              rw [if_neg (fun q => by omega)] at e
              rw [e] at k
              repeat' first
                | refine xP_s rfl rfl rfl ?_
                | refine xP_ret rfl rfl rfl ?_
              exact k
            · have w := xc_f hc
              dsimp only [slP] at w
              refine xP_s rfl rfl rfl ?_
              refine xP_get rfl h25 rfl ?_
              refine xP_s rfl rfl rfl ?_
              refine xP_get rfl h25 rfl ?_
              refine xP_s rfl rfl rfl ?_
              refine xP_s rfl rfl rfl ?_
              rw [nI_1]
              refine xP_cv rfl rfl rfl rfl rfl ht.2.1 (p_beginsTerm ht (by omega) ?_)
              rw [TA_bgn h' hss']
              cases hbg : bgn (nx (nx s).2.2.2)
              · rw [if_neg (fun q => by rw [hbg] at q; exact absurd q.2.1 (by decide))] at e
                rw [e] at k
                repeat' first
                  | refine xP_s rfl rfl rfl ?_
                  | refine xP_ret rfl rfl rfl ?_
                exact k
              · refine xP_s rfl rfl rfl ?_
                refine xP_s rfl rfl rfl ?_
                refine xP_s rfl rfl rfl ?_
                refine xP_get rfl h25 rfl ?_
                refine xP_s rfl rfl rfl ?_
                refine xP_s rfl rfl rfl ?_
                rw [nI_1]
                refine xP_cv rfl rfl rfl rfl rfl h25 (p_isBareBehind hw h' hsx' hch ?_)
                cases hba : bare sl (nx s).2.2.2
                · rw [if_pos ⟨by omega, hbg, hba⟩] at e
                  rw [e] at k
                  repeat' first
                    | refine xP_s rfl rfl rfl ?_
                    | refine xP_ret rfl rfl rfl ?_
                  exact k
                · rw [if_neg (fun q => by rw [hba] at q; exact absurd q.2.2 (by decide))] at e
                  rw [e] at k
                  repeat' first
                    | refine xP_s rfl rfl rfl ?_
                    | refine xP_ret rfl rfl rfl ?_
                  exact k
      · have e : pfx sl most s = none := by
          unfold pfx
          rw [if_neg (fun q => by rw [hmin] at q; exact absurd q.2.2 (by decide))]
        rw [e] at k
        repeat' first
          | refine xP_s rfl rfl rfl ?_
          | refine xP_ret rfl rfl rfl ?_
        exact k
    · have e : pfx sl most s = none := by
        unfold pfx
        rw [if_neg (fun q => by rw [hcal] at q; exact absurd q.2.1 (by decide))]
      rw [e] at k
      repeat' first
        | refine xP_s rfl rfl rfl ?_
        | refine xP_ret rfl rfl rfl ?_
      exact k
end PB
end
section
-- Parser: what a term's reader promises; operators and their arguments
abbrev pL : List Nat := [11, 12, 13, 14, 15, 16, 17, 25]
/-- a term stands behind the parts that were there -/
def xGd (A A' : List xC) (t nm : List Nat) (sl : List xSl) (u p v : Nat) (G : xG) (n : Nat) (F F' : xF) (a' m' : Nat) (r : xRs) : Prop := xWd A' t nm sl u p v G (n + r.1.length) F' a' r.2.2.2 ∧ xTA t nm G u m' a' r.2.2.1.1 r.2.2.1.2 ∧ xTr F' nm r.2.1 n (n + r.1.length) r.1 ∧ F'.2.2.2.2.2 (n + r.1.length - 1) = nI r.2.1 ∧ F'.2.2.2.2.1 (n + r.1.length - 1) = -1 ∧ xA0 F F' n ∧ xSame A A' pL
/-- nothing stands there, but nothing is lost -/
def xBd (A A' : List xC) (t nm : List Nat) (sl : List xSl) (u p v : Nat) (G : xG) (n : Nat) (F : xF) (e : Nat) : Prop := ∃ n' F' a' pr', xWd A' t nm sl u p v G n' F' a' pr' ∧ n ≤ n' ∧ xA0 F F' n ∧ a' ≤ 120 + 3 * e ∧ xSame A A' pL
def noR (o : Option xRs) : Prop := o = none ∨ ∃ r, o = some r ∧ 14 < r.2.1
def xTmC (sc : xSc) (dd g : Nat) (t nm : List Nat) (sl : List xSl) (u p v : Nat) (G : xG) (e lv : Nat) : Prop :=
  ∀ (A : List xC) (n : Nat) (F : xF) (a pr m : Nat) (s : List Nat) (vs : List (List Nat)) (x : Int32) (most : Int) (P : xO → xH → Prop),
    x.toInt = most → 0 ≤ most → most ≤ 1200 → xWd A t nm sl u p v G n F a pr → xTA t nm G u m a s vs → sfx t s → n + 2 * s.length ≤ 840 →
    (∀ A', noR (tmF sl e most (s, vs)) → xBd A A' t nm sl u p v G n F e → P (.inl (some (.int (-1)))) (A', g)) →
    (∀ A' F' a' m' r, tmF sl e most (s, vs) = some r → r.2.1 ≤ 14 → xGd A A' t nm sl u p v G n F F' a' m' r → P (.inl (some (.int (nI (n + r.1.length - 1))))) (A', g)) →
    xM1 sc dd 40 [.ref 25, .int x, .int (nI lv)] (A, g) P
def nm0 (nm : List Nat) : Prop := nmAt nm 0 [46] ∧ nmAt nm 1 [91, 93] ∧ nmAt nm 3 [123, 125] ∧ nmAt nm 5 [44]
section PC
variable {sc : xSc} {d g : Nat} {A : List xC} {t nm : List Nat} {sl : List xSl} {u p v : Nat} {G : xG} {n : Nat} {F : xF} {a pr : Nat} {m : Nat} {s : List Nat} {vs : List (List Nat)} {P : xO → xH → Prop}
/-- where a name begins, and how long it is -/
theorem TA_name (h : xTA t nm G u m a s vs) (hk : (nx s).1 = 1) : ∃ z, G.2.2.2.1 a = nI z ∧ G.2.2.2.2.1 a = nI (nx s).2.2.1.length ∧ nmAt nm z (nx s).2.2.1 := by
  obtain ⟨_, _, s', _, _, h5⟩ := TA_E h
  obtain ⟨z, z1, z2, z3, _⟩ := h5.2.2.2.1 hk
  exact ⟨z, z1, z2, z3⟩
set_option maxRecDepth 100000 in
theorem p_named {i l1 l2 r1 r2 Dl Dr : Nat} {L R : List xIt} (hw : xWd A t nm sl u p v G n F a pr) (h0 : nm0 nm) (hta : xTA t nm G u m i s vs) (hk : (nx s).1 = 1 ∨ (nx s).1 = 5)
    (hl : xTr F nm Dl l1 l2 L) (hr : xTr F nm Dr r1 r2 R) (hlr : l2 ≤ r1) (hrn : r2 = n) (hDl : F.2.2.2.2.2 (l2 - 1) = nI Dl) (hDl2 : 0 < Dl ∧ Dl ≤ 14) (hDr : F.2.2.2.2.2 (r2 - 1) = nI Dr) (hDr2 : 0 < Dr ∧ Dr ≤ 14) (hn8 : n < 840)
    (k0 : 14 < max Dl Dr + 1 → ∀ A' F', xWd A' t nm sl u p v G n F' a pr → xA0 F F' l1 → xSame A A' pL → P (.inl (some (.int (-1)))) (A', g))
    (k1 : max Dl Dr + 1 ≤ 14 → ∀ A' F', xWd A' t nm sl u p v G (n + 1) F' a pr → xTr F' nm (max Dl Dr + 1) l1 (n + 1) ((3, 0, nmOf (nx s), 2) :: (L ++ R)) → F'.2.2.2.2.2 n = nI (max Dl Dr + 1) → F'.2.2.2.2.1 n = -1 → xA0 F F' l1 → xSame A A' pL → P (.inl (some (.int (nI n)))) (A', g)) : xM1 sc (d + 11) 46 [.ref 25, .int (nI i), .int (nI (l2 - 1)), .int (nI (r2 - 1))] (A, g) P := by
  obtain ⟨hs, hn, ho, ht, hp, h25, hpr⟩ := id hw
  unfold xPa at h25
  obtain ⟨q1, q2, _⟩ := TA_E hta
  have hu := ht.1
  have g1 := hl.root
  have g2 := hr.root
  have h1 : (1 : Int32).toInt = 1 := rfl
  have hkd := TA_kind hta
  have fin : ∀ z w, nmAt nm z w → nmOf (nx s) = w → ∀ (P' : xO → xH → Prop), (∀ v A', P (.inl (some (.int v))) (A', g) → P' (.inl (some (.int v))) (A', g)) → xM1 sc (d + 10) 79 [.ref 11, .int (nI z), .int (nI w.length), .int (nI (l2 - 1)), .int (nI (r2 - 1))] (A, g) P' := by
    intro z w hz hw' P' hP
    refine p_addPair hp (by omega) (by omega) (by omega) hDl hDl2 hDr hDr2 (fun hc A' z1 z2 => hP _ _ ?_) (fun hc hd A' z1 z2 => hP _ _ ?_)
    · exact k0 (by omega) A' _ (hw.setP z1 z2) (xA0_lk F (by omega) (by omega)) (z2.wide (by decide))
    · rw [hw'] at k1
      refine k1 (by omega) A' _ (hw.setP z1 z2) (tr_pair hl hr (Or.inl hlr) (Nat.le_refl _) (by omega) (by omega) (by omega) hz) pk_us pk_us ?_ (z2.wide (by decide))
      exact (xA0_lk F (by omega) (by omega)).trans (xA0_add _ n _ _ _ _ _ (Nat.le_refl _)) (by omega)
  unfold xM1
  refine xP_s rfl rfl rfl ?_
  refine xP_get rfl h25 rfl ?_
  refine xP_s rfl rfl rfl ?_
  refine xP_cv rfl rfl rfl rfl rfl ht.2.1 (p_tkind ht (by omega) ?_)
  rw [if_pos q1]
  refine xP_s rfl rfl rfl ?_
  refine xP_s rfl rfl rfl ?_
  refine xP_if (fun hc => ?_) (fun hc => ?_)
  · have z := xc_t hc
    dsimp only at z
    refine xP_s rfl rfl rfl ?_
    refine xP_get rfl h25 rfl ?_
    refine xP_s rfl rfl rfl ?_
    refine xP_s rfl rfl rfl ?_
    refine xP_s rfl rfl rfl ?_
    refine xP_s rfl rfl rfl ?_
    refine xP_cv rfl rfl rfl rfl rfl hp.2.1 (fin 5 [44] h0.2.2.2 (by unfold nmOf; rw [if_neg (by omega)]) _ (fun y A' hy => ?_))
    repeat' first
      | refine xP_s rfl rfl rfl ?_
      | refine xP_ret rfl rfl rfl ?_
    exact hy
  · have z := xc_f hc
    dsimp only at z
    have hk1 : (nx s).1 = 1 := by omega
    obtain ⟨zz, z1, z2, z3⟩ := TA_name hta hk1
    refine xP_s rfl rfl rfl ?_
    refine xP_get rfl h25 rfl ?_
    refine xP_s rfl rfl rfl ?_
    refine xP_get rfl h25 rfl ?_
    refine xP_s rfl rfl rfl ?_
    refine xP_cv rfl rfl rfl rfl rfl ht.2.1 (p_tvalue ht (by omega) ?_)
    rw [if_pos q1, z1]
    refine xP_s rfl rfl rfl ?_
    refine xP_get rfl h25 rfl ?_
    refine xP_s rfl rfl rfl ?_
    refine xP_cv rfl rfl rfl rfl rfl ht.2.1 (p_tsize ht (by omega) ?_)
    rw [if_pos q1, z2]
    refine xP_s rfl rfl rfl ?_
    refine xP_s rfl rfl rfl ?_
    refine xP_cv rfl rfl rfl rfl rfl hp.2.1 (fin zz (nx s).2.2.1 z3 (by unfold nmOf; rw [if_pos hk1]) _ (fun y A' hy => ?_))
    repeat' first
      | refine xP_s rfl rfl rfl ?_
      | refine xP_ret rfl rfl rfl ?_
    exact hy
-- the same where one argument is wanting
set_option maxRecDepth 100000 in
theorem p_named0 {i : Nat} {ol : Option Nat} (hw : xWd A t nm sl u p v G n F a pr) (hta : xTA t nm G u m i s vs) (hol : ∀ j, ol = some j → j < n)
    (k : P (.inl (some (.int (-1)))) (A, g)) : xM1 sc (d + 11) 46 [.ref 25, .int (nI i), .int (sI ol), .int (-1)] (A, g) P := by
  obtain ⟨hs, hn, ho, ht, hp, h25, hpr⟩ := id hw
  unfold xPa at h25
  obtain ⟨q1, q2, _⟩ := TA_E hta
  have hu := ht.1
  unfold xM1
  refine xP_s rfl rfl rfl ?_
  refine xP_get rfl h25 rfl ?_
  refine xP_s rfl rfl rfl ?_
  refine xP_cv rfl rfl rfl rfl rfl ht.2.1 (p_tkind ht (by omega) ?_)
  rw [if_pos q1]
  refine xP_s rfl rfl rfl ?_
  refine xP_s rfl rfl rfl ?_
  refine xP_if (fun hc => ?_) (fun hc => ?_)
  · refine xP_s rfl rfl rfl ?_
    refine xP_get rfl h25 rfl ?_
    refine xP_s rfl rfl rfl ?_
    refine xP_s rfl rfl rfl ?_
    refine xP_s rfl rfl rfl ?_
    refine xP_s rfl rfl rfl ?_
    refine xP_cv rfl rfl rfl rfl rfl hp.2.1 (p_addPair0 (or := none) hp hol (Or.inr rfl) ?_)
    repeat' first
      | refine xP_s rfl rfl rfl ?_
      | refine xP_ret rfl rfl rfl ?_
    exact k
  · refine xP_s rfl rfl rfl ?_
    refine xP_get rfl h25 rfl ?_
    refine xP_s rfl rfl rfl ?_
    refine xP_get rfl h25 rfl ?_
    refine xP_s rfl rfl rfl ?_
    refine xP_cv rfl rfl rfl rfl rfl ht.2.1 (p_tvalue ht (by omega) ?_)
    refine xP_s rfl rfl rfl ?_
    refine xP_get rfl h25 rfl ?_
    refine xP_s rfl rfl rfl ?_
    refine xP_cv rfl rfl rfl rfl rfl ht.2.1 (p_tsize ht (by omega) ?_)
    refine xP_s rfl rfl rfl ?_
    refine xP_s rfl rfl rfl ?_
    refine xP_cv rfl rfl rfl rfl rfl hp.2.1 (p_addPair0 (or := none) hp hol (Or.inr rfl) ?_)
    repeat' first
      | refine xP_s rfl rfl rfl ?_
      | refine xP_ret rfl rfl rfl ?_
    exact k
set_option maxRecDepth 100000 in
theorem p_infixed {e lv j D l1 : Nat} {en : xSl} {L : List xIt} (hd : 4 * e ≤ d) (IH : ∀ dd, 4 * e + 10 ≤ dd → xTmC sc dd g t nm sl u p v G e (lv + 1)) (hw : xWd A t nm sl u p v G n F a pr) (h0 : nm0 nm) (hsl : ∀ e ∈ sl, ¬ e.1 = 0 ∧ 1 ≤ e.2.1 ∧ e.2.1 ≤ 1200) (hta : xTA t nm G u m a s vs) (hsx : sfx t s) (hq : (nx s).1 = 1 ∨ (nx s).1 = 5) (hen : sl[j]? = some en)
    (hl : xTr F nm D l1 n L) (hD : F.2.2.2.2.2 (n - 1) = nI D) (hD2 : 0 < D ∧ D ≤ 14) (hbud : n + 2 * s.length ≤ 840)
    (k0 : ∀ A', (noR (tmF sl e (oRight (some en)) ((nx s).2.2.2, vs)) ∨ ∃ r, tmF sl e (oRight (some en)) ((nx s).2.2.2, vs) = some r ∧ r.2.1 ≤ 14 ∧ 14 < max D r.2.1 + 1) → xBd A A' t nm sl u p v G l1 F e → P (.inl (some (.int (-1)))) (A', g))
    (k1 : ∀ A' F' a' m' r, tmF sl e (oRight (some en)) ((nx s).2.2.2, vs) = some r → max D r.2.1 + 1 ≤ 14 → xWd A' t nm sl u p v G (n + r.1.length + 1) F' a' r.2.2.2 → xTA t nm G u m' a' r.2.2.1.1 r.2.2.1.2 → xTr F' nm (max D r.2.1 + 1) l1 (n + r.1.length + 1) ((3, 0, nmOf (nx s), 2) :: (L ++ r.1)) → F'.2.2.2.2.2 (n + r.1.length) = nI (max D r.2.1 + 1) → F'.2.2.2.2.1 (n + r.1.length) = -1 → xA0 F F' l1 → xSame A A' pL → P (.inl (some (.int (nI (n + r.1.length))))) (A', g)) : xM1 sc (d + 12) 45 [.ref 25, .int (nI (n - 1)), .int (nI j), .int (nI lv)] (A, g) P := by
  obtain ⟨hs, hn, ho, ht, hp, h25, hpr⟩ := id hw
  unfold xPa at h25
  obtain ⟨q1, q2, _⟩ := TA_E hta
  have hu := ht.1
  have g1 := hl.root
  have hj : j < sl.length := (List.getElem?_eq_some_iff.mp hen).1
  have hsE : slE sl (some j) = some en := hen
  have hmem := hsl en (List.mem_of_getElem? hen)
  obtain ⟨m1, h1⟩ := TA_next hta (by omega)
  have hvs : vsx vs (nx s) = vs := by unfold vsx; rw [if_neg (by omega)]
  rw [hvs] at h1
  have hw1 := hw.setA (a + 1) pr hpr
  have s1 := xSame.set (A := A) 25 (.inr (3, [.ref 18, .ref 7, .ref 11, .int (nI (a + 1)), .int (nI pr)]))
  have tk := nx_tk2 q2
  have hlen := tk.len
  have hor : 0 ≤ oRight (some en) ∧ oRight (some en) ≤ 1200 := by
    unfold oRight
    dsimp only [slP]
    split <;> omega
  unfold xM1
  refine xP_s rfl rfl rfl ?_
  refine xP_get rfl h25 rfl ?_
  refine xP_s rfl rfl rfl ?_
  refine xP_s rfl rfl rfl ?_
  refine xP_s rfl rfl rfl ?_
  refine xP_get rfl h25 rfl ?_
  refine xP_s rfl rfl rfl ?_
  refine xP_s rfl rfl rfl ?_
  refine xP_put rfl h25 (Nat.le_of_ble_eq_true rfl) rfl ?_
  rw [show nI a + 1 = nI (a + 1) from nI_1 a]
  obtain ⟨hs', hn', ho', ht', hp', h25', _⟩ := id hw1
  unfold xPa at h25'
  refine xP_s rfl rfl rfl ?_
  refine xP_s rfl rfl rfl ?_
  refine xP_get rfl h25' rfl ?_
  refine xP_s rfl rfl rfl ?_
  refine xP_cv rfl rfl rfl rfl rfl ho'.obj (p_rightMost (o := some j) ho' (fun i h => Option.some.inj h ▸ hj) (fun x hx => ?_))
  rw [hsE] at hx
  refine xP_s rfl rfl rfl ?_
  refine xP_s rfl rfl rfl ?_
  refine xP_s rfl rfl rfl ?_
  rw [nI_1]
  refine xP_cv rfl rfl rfl rfl rfl h25' (IH (d + 11) (by omega) _ n F (a + 1) pr m1 _ vs x _ _ hx hor.1 hor.2 hw1 h1 (hsx.trans (nx_sfx' q2)) (by omega) (fun A2 z1 z2 => ?_) (fun A2 F2 a2 m2 r z1 z2 z3 => ?_))
  · obtain ⟨n', F', a', pr', y1, y2, y3, y4, y5⟩ := z2
    obtain ⟨ys, yn, yo, yt, yp, y25, ypr⟩ := id y1
    unfold xPa at y25
    refine xP_s rfl rfl rfl ?_
    refine xP_s rfl rfl rfl ?_
    refine xP_s rfl rfl rfl ?_
    refine xP_s rfl rfl rfl ?_
    refine xP_s rfl rfl rfl ?_
    refine xP_cv rfl rfl rfl rfl rfl y25 (p_named0 (ol := some (n - 1)) y1 hta (fun i h => by have := Option.some.inj h; omega) ?_)
    repeat' first
      | refine xP_s rfl rfl rfl ?_
      | refine xP_ret rfl rfl rfl ?_
    exact k0 A2 (Or.inl z1) ⟨n', F', a', pr', y1, by omega, fun j hj => y3 j (by omega), y4, (s1.trans y5).wide (by decide)⟩
  · obtain ⟨y1, y2, y3, y4, y5, y6, y7⟩ := z3
    obtain ⟨ys, yn, yo, yt, yp, y25, ypr⟩ := id y1
    unfold xPa at y25
    have rI := tmF_I (fun e he => ⟨(hsl e he).1, (hsl e he).2.2⟩) e _ _ _ z1
    obtain ⟨i1, i2, i3, i4⟩ := rI
    have i1l := i1.len
    have hua := (TA_E y2).1
    refine xP_s rfl rfl rfl ?_
    refine xP_s rfl rfl rfl ?_
    refine xP_s rfl rfl rfl ?_
    refine xP_s rfl rfl rfl ?_
    refine xP_s rfl rfl rfl ?_
    refine xP_cv rfl rfl rfl rfl rfl y25 (p_named (l1 := l1) (l2 := n) (r1 := n) (r2 := n + r.1.length) (Dl := D) (Dr := r.2.1) y1 h0 hta hq (hl.same0 y6 (Nat.le_refl _)) y3 (Nat.le_refl _) rfl (by rw [(y6 (n - 1) (by omega)).2.2.2.2.2]; exact hD) hD2 y4 ⟨by omega, z2⟩ (by dsimp only at i1l; omega) (fun hc A3 F3 x1 x2 x3 => ?_) (fun hc A3 F3 x1 x2 x3 x4 x5 x6 => ?_))
    · repeat' first
        | refine xP_s rfl rfl rfl ?_
        | refine xP_ret rfl rfl rfl ?_
      refine k0 A3 (Or.inr ⟨r, z1, z2, hc⟩) ⟨_, F3, a2, _, x1, by omega, ?_, by omega, ((s1.trans y7).trans x3).wide (by decide)⟩
      exact xA0.trans (fun j hj => y6 j (by omega)) x2 (Nat.le_refl _)
    · repeat' first
        | refine xP_s rfl rfl rfl ?_
        | refine xP_ret rfl rfl rfl ?_
      refine k1 A3 F3 a2 m2 r z1 hc x1 y2 x2 x3 x4 ?_ (((s1.trans y7).trans x6).wide (by decide))
      exact xA0.trans (fun j hj => y6 j (by omega)) x5 (Nat.le_refl _)
set_option maxRecDepth 100000 in
theorem p_postfixed {D l1 : Nat} {L : List xIt} (hw : xWd A t nm sl u p v G n F a pr) (hta : xTA t nm G u m a s vs) (hq : (nx s).1 = 1)
    (hl : xTr F nm D l1 n L) (hD : F.2.2.2.2.2 (n - 1) = nI D) (hD2 : 0 < D ∧ D ≤ 14) (hX : F.2.2.2.2.1 (n - 1) = -1) (hn8 : n < 840)
    (k0 : 14 < D + 1 → ∀ A', xWd A' t nm sl u p v G n F (a + 1) pr → xSame A A' pL → P (.inl (some (.int (-1)))) (A', g))
    (k1 : D + 1 ≤ 14 → ∀ A' F', xWd A' t nm sl u p v G (n + 1) F' (a + 1) pr → xTr F' nm (D + 1) l1 (n + 1) ((3, 0, (nx s).2.2.1, 1) :: L) → F'.2.2.2.2.2 n = nI (D + 1) → F'.2.2.2.2.1 n = -1 → xA0 F F' l1 → xSame A A' pL → P (.inl (some (.int (nI n)))) (A', g)) : xM1 sc (d + 12) 47 [.ref 25, .int (nI (n - 1))] (A, g) P := by
  obtain ⟨hs, hn, ho, ht, hp, h25, hpr⟩ := id hw
  unfold xPa at h25
  obtain ⟨q1, q2, _⟩ := TA_E hta
  have hu := ht.1
  have g1 := hl.root
  have hw1 := hw.setA (a + 1) pr hpr
  have s1 := xSame.set (A := A) 25 (.inr (3, [.ref 18, .ref 7, .ref 11, .int (nI (a + 1)), .int (nI pr)]))
  obtain ⟨zz, z1, z2, z3⟩ := TA_name hta hq
  unfold xM1
  refine xP_s rfl rfl rfl ?_
  refine xP_get rfl h25 rfl ?_
  refine xP_s rfl rfl rfl ?_
  refine xP_s rfl rfl rfl ?_
  refine xP_s rfl rfl rfl ?_
  refine xP_get rfl h25 rfl ?_
  refine xP_s rfl rfl rfl ?_
  refine xP_s rfl rfl rfl ?_
  refine xP_put rfl h25 (Nat.le_of_ble_eq_true rfl) rfl ?_
  rw [show nI a + 1 = nI (a + 1) from nI_1 a]
  obtain ⟨hs', hn', ho', ht', hp', h25', _⟩ := id hw1
  unfold xPa at h25'
  refine xP_s rfl rfl rfl ?_
  refine xP_get rfl h25' rfl ?_
  refine xP_s rfl rfl rfl ?_
  refine xP_get rfl h25' rfl ?_
  refine xP_s rfl rfl rfl ?_
  refine xP_cv rfl rfl rfl rfl rfl ht'.2.1 (p_tvalue ht' (by omega) ?_)
  rw [if_pos q1, z1]
  refine xP_s rfl rfl rfl ?_
  refine xP_get rfl h25' rfl ?_
  refine xP_s rfl rfl rfl ?_
  refine xP_cv rfl rfl rfl rfl rfl ht'.2.1 (p_tsize ht' (by omega) ?_)
  rw [if_pos q1, z2]
  refine xP_s rfl rfl rfl ?_
  refine xP_cv rfl rfl rfl rfl rfl hp'.2.1 (p_addCompound (c := 1) (m := D) hp' (by decide) ⟨n - 1, D, 0, by omega, rfl, hD, hD2.2, by omega, hX, rfl⟩ (fun hc => ?_) (fun c1 c2 c3 A2 x1 x2 => ?_))
  · repeat' first
      | refine xP_s rfl rfl rfl ?_
      | refine xP_ret rfl rfl rfl ?_
    exact k0 (by omega) _ hw1 (s1.wide (by decide))
  · repeat' first
      | refine xP_s rfl rfl rfl ?_
      | refine xP_ret rfl rfl rfl ?_
    refine k1 (by omega) A2 _ (hw1.setP x1 x2) (tr_one hl hX z3) pk_us pk_us (xA0_add F n _ _ _ _ _ (by omega)) ((s1.trans x2).wide (by decide))
set_option maxRecDepth 100000 in
theorem p_prefixed {e lv : Nat} {en : xSl} {most : Int} (hd : 4 * e ≤ d) (IH : ∀ dd, 4 * e + 10 ≤ dd → xTmC sc dd g t nm sl u p v G e (lv + 1)) (hw : xWd A t nm sl u p v G n F a pr) (hsl : ∀ e ∈ sl, ¬ e.1 = 0 ∧ 1 ≤ e.2.1 ∧ e.2.1 ≤ 1200) (hta : xTA t nm G u m a s vs) (hsx : sfx t s) (hpf : pfx sl most s = some en) (hbud : n + 2 * s.length ≤ 840)
    (k0 : ∀ A', (noR (tmF sl e (oRight (some en)) ((nx s).2.2.2, vs)) ∨ ∃ r, tmF sl e (oRight (some en)) ((nx s).2.2.2, vs) = some r ∧ 14 < r.2.1 + 1) → xBd A A' t nm sl u p v G n F e → P (.inl (some (.int (-1)))) (A', g))
    (k1 : ∀ A' F' a' m' r, tmF sl e (oRight (some en)) ((nx s).2.2.2, vs) = some r → r.2.1 + 1 ≤ 14 → xWd A' t nm sl u p v G (n + r.1.length + 1) F' a' en.2.1 → xTA t nm G u m' a' r.2.2.1.1 r.2.2.1.2 → xTr F' nm (r.2.1 + 1) n (n + r.1.length + 1) ((3, 0, (nx s).2.2.1, 1) :: r.1) → F'.2.2.2.2.2 (n + r.1.length) = nI (r.2.1 + 1) → F'.2.2.2.2.1 (n + r.1.length) = -1 → xA0 F F' n → xSame A A' pL → P (.inl (some (.int (nI (n + r.1.length))))) (A', g)) : xM1 sc (d + 13) 43 [.ref 25, .int (nI lv)] (A, g) P := by
  obtain ⟨hs, hn, ho, ht, hp, h25, hpr⟩ := id hw
  unfold xPa at h25
  obtain ⟨q1, q2, _⟩ := TA_E hta
  have hu := ht.1
  obtain ⟨hk1, j, hf, hen⟩ : (nx s).1 = 1 ∧ ∃ j, fnd true (tK (nx s)) sl 0 = some j ∧ sl[j]? = some en := by
    unfold pfx at hpf
    split at hpf
    next hh =>
      refine ⟨hh.1, ?_⟩
      unfold opP at hpf
      cases hf : fnd true (tK (nx s)) sl 0 with
      | none =>
        rw [hf] at hpf
        cases hpf
      | some j =>
        have hj := (fnd_lt ho hf).1
        rw [hf, show slE sl (some j) = some (sl[j]'hj) from List.getElem?_eq_getElem hj] at hpf
        dsimp only at hpf
        split at hpf
        · cases hpf
          exact ⟨j, rfl, List.getElem?_eq_getElem hj⟩
        · cases hpf
    next => cases hpf
  have hj : j < sl.length := (List.getElem?_eq_some_iff.mp hen).1
  have hsE : slE sl (some j) = some en := hen
  have hmem := hsl en (List.mem_of_getElem? hen)
  obtain ⟨m1, h1⟩ := TA_next hta (by omega)
  have hvs : vsx vs (nx s) = vs := by unfold vsx; rw [if_neg (by omega)]
  rw [hvs] at h1
  have hw1 := hw.setA (a + 1) pr hpr
  have s1 := xSame.set (A := A) 25 (.inr (3, [.ref 18, .ref 7, .ref 11, .int (nI (a + 1)), .int (nI pr)]))
  have tk := nx_tk2 q2
  have hlen := tk.len
  have hor : 0 ≤ oRight (some en) ∧ oRight (some en) ≤ 1200 := by
    unfold oRight
    dsimp only [slP]
    split <;> omega
  obtain ⟨zz, n1, n2, n3⟩ := TA_name hta hk1
  unfold xM1
  refine xP_s rfl rfl rfl ?_
  refine xP_get rfl h25 rfl ?_
  refine xP_s rfl rfl rfl ?_
  refine xP_s rfl rfl rfl ?_
  refine xP_get rfl h25 rfl ?_
  refine xP_s rfl rfl rfl ?_
  refine xP_get rfl h25 rfl ?_
  refine xP_s rfl rfl rfl ?_
  refine xP_cv rfl rfl rfl rfl rfl ht.2.1 (p_tkey ht (by omega) ?_)
  rw [if_pos q1, TA_key hta]
  refine xP_cv rfl rfl rfl rfl rfl ho.obj (p_prefix ho ?_)
  rw [hf]
  refine xP_s rfl rfl rfl ?_
  refine xP_s rfl rfl rfl ?_
  refine xP_s rfl rfl rfl ?_
  refine xP_get rfl h25 rfl ?_
  refine xP_s rfl rfl rfl ?_
  refine xP_s rfl rfl rfl ?_
  refine xP_put rfl h25 (Nat.le_of_ble_eq_true rfl) rfl ?_
  rw [show nI a + 1 = nI (a + 1) from nI_1 a]
  obtain ⟨hs', hn', ho', ht', hp', h25', _⟩ := id hw1
  unfold xPa at h25'
  refine xP_s rfl rfl rfl ?_
  refine xP_s rfl rfl rfl ?_
  refine xP_get rfl h25' rfl ?_
  refine xP_s rfl rfl rfl ?_
  refine xP_cv rfl rfl rfl rfl rfl ho'.obj (p_rightMost (o := some j) ho' (fun i h => Option.some.inj h ▸ hj) (fun x hx => ?_))
  rw [hsE] at hx
  refine xP_s rfl rfl rfl ?_
  refine xP_s rfl rfl rfl ?_
  refine xP_s rfl rfl rfl ?_
  rw [nI_1]
  have tail : ∀ A2 n2' F2 a2 pr2 y, xWd A2 t nm sl u p v G n2' F2 a2 pr2 → xWd (A2.set 25 (.inr (3, [.ref 18, .ref 7, .ref 11, .int (nI a2), .int (nI en.2.1)]))) t nm sl u p v G n2' F2 a2 en.2.1 → (∀ (P' : xO → xH → Prop), (∀ v A', P (.inl (some (.int v))) (A', g) → P' (.inl (some (.int v))) (A', g)) → xM1 sc (d + 12) 78 [.ref 11, .int (nI zz), .int (nI (nx s).2.2.1.length), .int y] (A2.set 25 (.inr (3, [.ref 18, .ref 7, .ref 11, .int (nI a2), .int (nI en.2.1)])), g) P') → xP sc (d + 13) 43 46 [(0, .ref 25), (1, .int (nI lv)), (2, .int (nI a)), (3, .int (sI (some j)))] [.int y] (A2, g) P := by
    intro A2 n2' F2 a2 pr2 y hw2 hw3 hfin
    obtain ⟨ys, yn, yo, yt, yp, y25, ypr⟩ := id hw2
    unfold xPa at y25
    obtain ⟨zs, zn, zo, zt, zp, z25, zpr⟩ := id hw3
    unfold xPa at z25
    refine xP_s rfl rfl rfl ?_
    refine xP_s rfl rfl rfl ?_
    refine xP_s rfl rfl rfl ?_
    refine xP_get rfl y25 rfl ?_
    refine xP_s rfl rfl rfl ?_
    refine xP_cv rfl rfl rfl rfl rfl yo.obj (p_priority (o := some j) yo (fun i h => Option.some.inj h ▸ hj) ?_)
    rw [hsE]
    refine xP_put rfl y25 (Nat.le_of_ble_eq_true rfl) rfl ?_
    refine xP_s rfl rfl rfl ?_
    refine xP_get rfl z25 rfl ?_
    refine xP_s rfl rfl rfl ?_
    refine xP_get rfl z25 rfl ?_
    refine xP_s rfl rfl rfl ?_
    refine xP_cv rfl rfl rfl rfl rfl zt.2.1 (p_tvalue zt (by omega) ?_)
    rw [if_pos q1, n1]
    refine xP_s rfl rfl rfl ?_
    refine xP_get rfl z25 rfl ?_
    refine xP_s rfl rfl rfl ?_
    refine xP_cv rfl rfl rfl rfl rfl zt.2.1 (p_tsize zt (by omega) ?_)
    rw [if_pos q1, n2]
    refine xP_s rfl rfl rfl ?_
    refine xP_cv rfl rfl rfl rfl rfl zp.2.1 (hfin _ (fun v A' hv => ?_))
    repeat' first
      | refine xP_s rfl rfl rfl ?_
      | refine xP_ret rfl rfl rfl ?_
    exact hv
  refine xP_cv rfl rfl rfl rfl rfl h25' (IH (d + 12) (by omega) _ n F (a + 1) pr m1 _ vs x _ _ hx hor.1 hor.2 hw1 h1 (hsx.trans (nx_sfx' q2)) (by omega) (fun A2 z1 z2 => ?_) (fun A2 F2 a2 m2 r z1 z2 z3 => ?_))
  · obtain ⟨n', F', a', pr', y1, y2, y3, y4, y5⟩ := z2
    have hw3 := y1.setA a' en.2.1 hmem.2.2
    have s3 := xSame.set (A := A2) 25 (.inr (3, [.ref 18, .ref 7, .ref 11, .int (nI a'), .int (nI en.2.1)]))
    have go := tail A2 n' F' a' pr' (-1) y1 hw3 (fun P' hP => p_addCompound (c := 0) (m := 0) hw3.2.2.2.2.1 (by decide) ⟨rfl, rfl⟩ (fun _ => hP _ _ (k0 _ (Or.inl z1) ⟨n', F', a', _, hw3, y2, y3, y4, ((s1.trans y5).trans s3).wide (by decide)⟩)) (fun _ h0 => absurd h0 (by omega)))
    exact go
  · obtain ⟨y1, y2, y3, y4, y5, y6, y7⟩ := z3
    have rI := tmF_I (fun e he => ⟨(hsl e he).1, (hsl e he).2.2⟩) e _ _ _ z1
    obtain ⟨i1, i2, i3, i4⟩ := rI
    have i1l := i1.len
    dsimp only at i1l
    have hua := (TA_E y2).1
    have hw3 := y1.setA a2 en.2.1 hmem.2.2
    have s3 := xSame.set (A := A2) 25 (.inr (3, [.ref 18, .ref 7, .ref 11, .int (nI a2), .int (nI en.2.1)]))
    have go := tail A2 _ F2 a2 _ (nI (n + r.1.length - 1)) y1 hw3 (fun P' hP => p_addCompound (c := 1) (m := r.2.1) hw3.2.2.2.2.1 (by decide) ⟨n + r.1.length - 1, r.2.1, 0, by omega, rfl, y4, z2, by omega, y5, rfl⟩ (fun hc => hP _ _ (k0 _ (Or.inr ⟨r, z1, by omega⟩) ⟨_, F2, a2, _, hw3, by omega, y6, by omega, ((s1.trans y7).trans s3).wide (by decide)⟩)) (fun c1 c2 c3 A3 x1 x2 => hP _ _ (k1 A3 _ a2 m2 r z1 (by omega) (hw3.setP x1 x2) y2 (tr_one y3 y5 n3) pk_us pk_us (y6.trans (xA0_add F2 _ _ _ _ _ _ (Nat.le_refl _)) (by omega)) (((s1.trans y7).trans (s3.trans x2)).wide (by decide)))))
    exact go
end PC
end
section
-- Parser: on behind a term
theorem rst_dp {sl : List xSl} {T : Int → xSt → Option xRs} : ∀ (k : Nat) (most : Int) (y r : xRs), rst sl T k most y = some r → y.2.1 ≤ r.2.1
  | 0, most, y, r, h => by cases h
  | k + 1, most, (L, D, st, pr), r, h => by
    unfold rst at h
    split at h
    · cases h
    · cases ho : opB sl (tK (nx st.1)) with
      | none =>
        rw [ho] at h
        cases h
        exact Nat.le_refl _
      | some e =>
        rw [ho] at h
        dsimp only at h
        split at h
        · split at h
          · split at h
            · cases hr : T (oRight (some e)) ((nx st.1).2.2.2, st.2) with
              | none =>
                rw [hr] at h
                cases h
              | some z =>
                obtain ⟨R, DR, st', pr'⟩ := z
                rw [hr] at h
                have := rst_dp k most _ r h
                dsimp only at this ⊢
                omega
            · cases h
              exact Nat.le_refl _
          · have := rst_dp k most _ r h
            dsimp only at this ⊢
            omega
        · cases h
          exact Nat.le_refl _
theorem noR_deep {sl : List xSl} {T : Int → xSt → Option xRs} {k : Nat} {most : Int} {y : xRs} (h : 14 < y.2.1) : noR (rst sl T k most y) := by
  cases hr : rst sl T k most y with
  | none => exact Or.inl rfl
  | some r =>
    have := rst_dp k most y r hr
    exact Or.inr ⟨r, rfl, by omega⟩
section PR
variable {sc : xSc} {d g : Nat} {t nm : List Nat} {sl : List xSl} {u p v : Nat} {G : xG} {P : xO → xH → Prop}
set_option maxHeartbeats 4000000 in
set_option maxRecDepth 100000 in
theorem p_restLoop {e lv n : Nat} {x y : Int32} {most : Int} {A0 : List xC} {F0 : xF} {s0 : List Nat} (hd : 4 * e ≤ d) (IH : ∀ dd, 4 * e + 10 ≤ dd → xTmC sc dd g t nm sl u p v G e (lv + 1)) (h0 : nm0 nm) (hsl : ∀ e ∈ sl, ¬ e.1 = 0 ∧ 1 ≤ e.2.1 ∧ e.2.1 ≤ 1200) (h44 : ∀ e ∈ sl, e.1 = 44 → e.2.2 = 1) (hch : ∀ c ∈ t, 32 ≤ c ∧ c ≤ 126) (hx : x.toInt = most) (hbud : n + 2 * s0.length ≤ 840) (hs0 : s0.length ≤ 120) (hsx0 : sfx t s0) :
    ∀ (k i : Nat) (A : List xC) (F : xF) (a m : Nat) (L : List xIt) (D : Nat) (st : xSt) (pr : Nat), i + k = 120 → xGd A0 A t nm sl u p v G n F0 F a m (L, D, st, pr) → D ≤ 14 → rsI s0 (L, D, st, pr) → st.1.length + i + 1 ≤ s0.length →
    (∀ A', noR (rst sl (tmF sl e) k most (L, D, st, pr)) → xBd A0 A' t nm sl u p v G n F0 (e + 1) → P (.inl (some (.int (-1)))) (A', g)) →
    (∀ A' F' a' m' r, rst sl (tmF sl e) k most (L, D, st, pr) = some r → r.2.1 ≤ 14 → xGd A0 A' t nm sl u p v G n F0 F' a' m' r → P (.inl (some (.int (nI (n + r.1.length - 1))))) (A', g)) →
    xP sc (d + 13) 44 6 [(0, .ref 25), (1, .int y), (2, .int x), (3, .int (nI lv)), (4, .int (nI (n + L.length - 1))), (5, .int (nI i))] [] (A, g) P
  | 0, i, A, F, a, m, L, D, st, pr, hi, hg, hD, hI, hc, kb, ko => by omega
  | k + 1, i, A, F, a, m, L, D, st, pr, hi, hg, hD, hI, hc, kb, ko => by
    obtain ⟨hw, hta, htr, hdp, hnx, hag, hsm⟩ := id hg
    dsimp only at hw hta htr hdp hnx
    obtain ⟨hs, hn, ho, ht, hp, h25, hpr⟩ := id hw
    unfold xPa at h25
    obtain ⟨q1, q2, _⟩ := TA_E hta
    obtain ⟨i1, i2, i3, i4⟩ := id hI
    dsimp only at i1 i2 i3 i4
    have i1l := i1.len
    have hu := ht.1
    have hroot := htr.root
    have hsx : sfx t st.1 := hsx0.trans i1.sfx
    have hss : ∀ c ∈ st.1, 32 ≤ c ∧ c ≤ 126 := fun c hc => hch c (hsx.mem c hc)
    have h120 : (120 : Int32).toInt = 120 := rfl
    have hm1 : (-1 : Int32).toInt = -1 := rfl
    have hII : (nI i).toInt = (i : Int) := nI_toInt (by omega)
    have hpn := hp.1
    have hF := sI_none _ (fun j h => (fnd_lt ho (pre := false) (key := tK (nx st.1)) h).2)
    have hv := fun j h => (fnd_lt ho (pre := false) (key := tK (nx st.1)) (i := j) h).1
    have tk := nx_tk2 q2
    have tkl := tk.len
    obtain ⟨w1, ew1, hw1⟩ := nx_sfx q2
    have hrl : (nx st.1).2.2.2.length + 1 ≤ st.1.length := by
      have := congrArg List.length ew1
      rw [List.length_append] at this
      omega
    have eq0 : rst sl (tmF sl e) (k + 1) most (L, D, st, pr) = (match opB sl (tK (nx st.1)) with
      | none => some (L, D, st, pr)
      | some e1 => if (e1.2.1 : Int) ≤ most ∧ (pr : Int) ≤ oLeft (some e1) then
          (if oInf (some e1) = true then (if bgn (nx (nx st.1).2.2.2) = true then (match tmF sl e (oRight (some e1)) ((nx st.1).2.2.2, st.2) with
              | none => none
              | some (R, DR, st', _) => rst sl (tmF sl e) k most ((3, 0, nmOf (nx st.1), 2) :: (L ++ R), max D DR + 1, st', e1.2.1)) else some (L, D, st, pr))
          else rst sl (tmF sl e) k most ((3, 0, (nx st.1).2.2.1, 1) :: L, D + 1, ((nx st.1).2.2.2, st.2), e1.2.1))
        else some (L, D, st, pr)) := by
      conv => lhs; unfold rst
      rw [if_neg (by omega)]
      rfl
    have stay : rst sl (tmF sl e) (k + 1) most (L, D, st, pr) = some (L, D, st, pr) → ∀ x6 x7, xP sc (d + 13) 44 114 [(0, .ref 25), (1, .int y), (2, .int x), (3, .int (nI lv)), (4, .int (nI (n + L.length - 1))), (5, .int (nI i)), (6, .int x6), (7, .int x7)] [] (A, g) P := by
      intro hst x6 x7
      repeat' first
        | refine xP_s rfl rfl rfl ?_
        | refine xP_ret rfl rfl rfl ?_
      exact ko A F a m _ hst hD hg
    have nofit : rst sl (tmF sl e) (k + 1) most (L, D, st, pr) = some (L, D, st, pr) → ∀ x6, xP sc (d + 13) 44 78 [(0, .ref 25), (1, .int y), (2, .int x), (3, .int (nI lv)), (4, .int (nI (n + L.length - 1))), (5, .int (nI i)), (6, .int x6)] [] (A, g) P := by
      intro hst x6
      have go := stay hst x6 0
      repeat' first
        | exact go
        | refine xP_s rfl rfl rfl ?_
    refine xP_s rfl rfl rfl ?_
    refine xP_s rfl rfl rfl ?_
    refine xP_s rfl rfl rfl ?_
    refine xP_if (fun hc => ?_) (fun hc => ?_)
    · have := xc_t hc
      dsimp only at this
      omega
    · refine xP_s rfl rfl rfl ?_
      refine xP_s rfl rfl rfl ?_
      refine xP_s rfl rfl rfl ?_
      refine xP_if (fun hc => ?_) (fun hc => ?_)
      · exact absurd (xc_t hc) (nI_neg1 (by omega))
      · refine xP_s rfl rfl rfl ?_
        refine xP_get rfl h25 rfl ?_
        refine xP_s rfl rfl rfl ?_
        refine xP_get rfl h25 rfl ?_
        refine xP_s rfl rfl rfl ?_
        refine xP_get rfl h25 rfl ?_
        refine xP_cv rfl rfl rfl rfl rfl ht.2.1 (p_tkey ht (by omega) ?_)
        rw [if_pos q1, TA_key hta]
        refine xP_cv rfl rfl rfl rfl rfl ho.obj (p_behind ho ?_)
        refine xP_s rfl rfl rfl ?_
        refine xP_s rfl rfl rfl ?_
        refine xP_s rfl rfl rfl ?_
        refine xP_s rfl rfl rfl ?_
        unfold opB at eq0
        refine xP_if (fun hc => ?_) (fun hc => ?_)
        · have z := xc_t hc
          dsimp only at z
          rw [hm1, hF] at z
          rw [z] at eq0 ⊢
          exact nofit eq0 _
        · have z := xc_f hc
          dsimp only at z
          rw [hm1, hF] at z
          cases hf : fnd false (tK (nx st.1)) sl 0 with
          | none => exact absurd hf z
          | some j =>
            have hj := hv j hf
            obtain ⟨en, hen⟩ : ∃ en, sl[j]? = some en := ⟨sl[j]'hj, List.getElem?_eq_getElem hj⟩
            have hsE : slE sl (some j) = some en := hen
            have hent := hsl en (List.mem_of_getElem? hen)
            have hEn : (nI en.2.1).toInt = (en.2.1 : Int) := nI_toInt (by omega)
            have hPr : (nI pr).toInt = (pr : Int) := nI_toInt (by omega)
            have hvj : ∀ i, some j = some i → i < sl.length := fun i h => Option.some.inj h ▸ hj
            have hkk : (nx st.1).1 = 1 ∨ (nx st.1).1 = 5 := by
              obtain ⟨_, e', g1, g2, _⟩ := fnd_some hf
              have hne := (hsl e' (List.mem_of_getElem? g1)).1
              rw [g2] at hne
              unfold tK at hne
              rcases Nat.eq_or_lt_of_le (Nat.zero_le (nx st.1).1) with g | g
              · rw [if_neg (by omega), if_neg (by omega)] at hne
                exact absurd rfl hne
              · by_cases c1 : (nx st.1).1 = 1
                · exact Or.inl c1
                · by_cases c5 : (nx st.1).1 = 5
                  · exact Or.inr c5
                  · rw [if_neg c1, if_neg (by omega)] at hne
                    exact absurd rfl hne
            rw [hf, hsE] at eq0
            dsimp only at eq0
            refine xP_s rfl rfl rfl ?_
            refine xP_get rfl h25 rfl ?_
            refine xP_s rfl rfl rfl ?_
            refine xP_cv rfl rfl rfl rfl rfl ho.obj (p_priority (o := some j) ho hvj ?_)
            rw [hsE]
            refine xP_s rfl rfl rfl ?_
            refine xP_s rfl rfl rfl ?_
            refine xP_if (fun hc => ?_) (fun hc => ?_)
            · have z2 := xc_t hc
              dsimp only [slP] at z2
              rw [if_neg (fun q => by omega)] at eq0
              exact nofit eq0 _
            · have z2 := xc_f hc
              dsimp only [slP] at z2
              refine xP_s rfl rfl rfl ?_
              refine xP_get rfl h25 rfl ?_
              refine xP_s rfl rfl rfl ?_
              refine xP_get rfl h25 rfl ?_
              refine xP_s rfl rfl rfl ?_
              refine xP_cv rfl rfl rfl rfl rfl ho.obj (p_leftMost (o := some j) ho hvj (fun xl hxl => ?_))
              rw [hsE] at hxl
              refine xP_s rfl rfl rfl ?_
              refine xP_if (fun hc => ?_) (fun hc => ?_)
              · have z3 := xc_t hc
                dsimp only at z3
                rw [if_neg (fun q => by omega)] at eq0
                exact nofit eq0 _
              · have z3 := xc_f hc
                dsimp only at z3
                rw [if_pos ⟨by omega, by omega⟩] at eq0
                -- behind a step: the priority, and around
                have fail : ∀ (A2 : List xC) (n2 : Nat) (F2 : xF) (a2 pr2 : Nat), xWd A2 t nm sl u p v G n2 F2 a2 pr2 → P (.inl (some (.int (-1)))) (A2.set 25 (.inr (3, [.ref 18, .ref 7, .ref 11, .int (nI a2), .int (nI en.2.1)])), g) → xP sc (d + 13) 44 147 [(0, .ref 25), (1, .int y), (2, .int x), (3, .int (nI lv)), (4, .int (nI (n + L.length - 1))), (5, .int (nI i)), (6, .int (sI (some j))), (7, .int 1)] [.int (-1)] (A2, g) P := by
                  intro A2 n2 F2 a2 pr2 hw2 hP
                  obtain ⟨ys, yn, yo, yt, yp, y25, ypr⟩ := id hw2
                  unfold xPa at y25
                  have hI1 : (nI (i + 1)).toInt = ((i + 1 : Nat) : Int) := nI_toInt (by omega)
                  refine xP_s rfl rfl rfl ?_
                  refine xP_s rfl rfl rfl ?_
                  refine xP_s rfl rfl rfl ?_
                  refine xP_get rfl y25 rfl ?_
                  refine xP_s rfl rfl rfl ?_
                  refine xP_cv rfl rfl rfl rfl rfl yo.obj (p_priority (o := some j) yo hvj ?_)
                  rw [hsE]
                  refine xP_put rfl y25 (Nat.le_of_ble_eq_true rfl) rfl ?_
                  refine xP_s rfl rfl rfl ?_
                  refine xP_s rfl rfl rfl ?_
                  refine xP_s rfl rfl rfl ?_
                  refine xP_s rfl rfl rfl ?_
                  refine xP_s rfl rfl rfl ?_
                  refine xP_if (fun hc => ?_) (fun hc => ?_)
                  · repeat' first
                      | refine xP_s rfl rfl rfl ?_
                      | refine xP_ret rfl rfl rfl ?_
                    exact hP
                  · repeat' first
                      | refine xP_s rfl rfl rfl ?_
                      | refine xP_ret rfl rfl rfl ?_
                    exact hP
                have good : ∀ (A2 : List xC) (F2 : xF) (a2 m2 : Nat) (L2 : List xIt) (D2 : Nat) (st2 : xSt) (pr2 : Nat), D2 ≤ 14 → xWd A2 t nm sl u p v G (n + L2.length) F2 a2 pr2 → xTA t nm G u m2 a2 st2.1 st2.2 → xTr F2 nm D2 n (n + L2.length) L2 → F2.2.2.2.2.2 (n + L2.length - 1) = nI D2 → F2.2.2.2.2.1 (n + L2.length - 1) = -1 → xA0 F F2 n → xSame A A2 pL → rsI s0 (L2, D2, st2, en.2.1) → st2.1.length + (i + 1) + 1 ≤ s0.length → rst sl (tmF sl e) (k + 1) most (L, D, st, pr) = rst sl (tmF sl e) k most (L2, D2, st2, en.2.1) → xP sc (d + 13) 44 147 [(0, .ref 25), (1, .int y), (2, .int x), (3, .int (nI lv)), (4, .int (nI (n + L.length - 1))), (5, .int (nI i)), (6, .int (sI (some j))), (7, .int 1)] [.int (nI (n + L2.length - 1))] (A2, g) P := by
                  intro A2 F2 a2 m2 L2 D2 st2 pr2 hD2 hw2 hta2 htr2 hdp2 hnx2 hag2 hsm2 hI2 hl2 hreq
                  obtain ⟨ys, yn, yo, yt, yp, y25, ypr⟩ := id hw2
                  unfold xPa at y25
                  have hw3 := hw2.setA a2 en.2.1 hent.2.2
                  have s3 := xSame.set (A := A2) 25 (.inr (3, [.ref 18, .ref 7, .ref 11, .int (nI a2), .int (nI en.2.1)]))
                  rw [hreq] at kb ko
                  have go := p_restLoop (y := y) hd IH h0 hsl h44 hch hx hbud hs0 hsx0 k (i + 1) _ F2 a2 m2 L2 D2 st2 en.2.1 (by omega) ⟨hw3, hta2, htr2, hdp2, hnx2, hag.trans hag2 (Nat.le_refl _), ((hsm.trans hsm2).trans s3).wide (by decide)⟩ hD2 hI2 hl2 kb ko
                  rw [← nI_1 i] at go
                  have go1 := xP_more [(6, .int (sI (some j))), (7, .int 1)] rfl go
                  refine xP_s rfl rfl rfl ?_
                  refine xP_s rfl rfl rfl ?_
                  refine xP_s rfl rfl rfl ?_
                  refine xP_get rfl y25 rfl ?_
                  refine xP_s rfl rfl rfl ?_
                  refine xP_cv rfl rfl rfl rfl rfl yo.obj (p_priority (o := some j) yo hvj ?_)
                  rw [hsE]
                  refine xP_put rfl y25 (Nat.le_of_ble_eq_true rfl) rfl ?_
                  repeat' first
                    | exact go1
                    | refine xP_s rfl rfl rfl ?_
                refine xP_s rfl rfl rfl ?_
                refine xP_s rfl rfl rfl ?_
                refine xP_s rfl rfl rfl ?_
                refine xP_s rfl rfl rfl ?_
                refine xP_s rfl rfl rfl ?_
                refine xP_s rfl rfl rfl ?_
                refine xP_get rfl h25 rfl ?_
                refine xP_s rfl rfl rfl ?_
                refine xP_cv rfl rfl rfl rfl rfl ho.obj (p_isInfix (o := some j) ho hvj ?_)
                rw [hsE]
                cases hinf : oInf (some en)
                · -- behind its argument
                  rw [if_neg (by rw [hinf]; decide)] at eq0
                  have hk1 : (nx st.1).1 = 1 := by
                    rcases hkk with g | g
                    · exact g
                    · exfalso
                      obtain ⟨_, e', g1, g2, _⟩ := fnd_some hf
                      have ee : e' = en := by
                        rw [Nat.sub_zero, hen] at g1
                        exact (Option.some.inj g1).symm
                      subst ee
                      have hne := hent.1
                      rw [g2] at hne
                      have ht44 : tK (nx st.1) = 44 := by
                        unfold tK at hne ⊢
                        rw [if_neg (by omega)] at hne ⊢
                        split
                        · rfl
                        next c5 =>
                          rw [if_neg c5] at hne
                          exact absurd rfl hne
                      have h1 := h44 e' (List.mem_of_getElem? hen) (by rw [g2, ht44])
                      have : oInf (some e') = true := by
                        simp [oInf, slT, h1]
                      rw [this] at hinf
                      cases hinf
                  obtain ⟨m1, h1⟩ := TA_next hta (by omega)
                  have hvs : vsx st.2 (nx st.1) = st.2 := by unfold vsx; rw [if_neg (by omega)]
                  rw [hvs] at h1
                  refine xP_s rfl rfl rfl ?_
                  refine xP_s rfl rfl rfl ?_
                  refine xP_get rfl h25 rfl ?_
                  refine xP_s rfl rfl rfl ?_
                  refine xP_cv rfl rfl rfl rfl rfl ho.obj (p_isInfix (o := some j) ho hvj ?_)
                  rw [hsE, hinf]
                  refine xP_s rfl rfl rfl ?_
                  refine xP_s rfl rfl rfl ?_
                  refine xP_s rfl rfl rfl ?_
                  refine xP_cv rfl rfl rfl rfl rfl h25 (p_postfixed hw hta hk1 htr hdp ⟨i3, hD⟩ hnx (by omega) (fun c1 A2 x1 x2 => ?_) (fun c1 A2 F2 x1 x2 x3 x4 x5 x6 => ?_))
                  · refine fail A2 _ F _ _ x1 ?_
                    have hw3 := x1.setA (a + 1) en.2.1 hent.2.2
                    refine kb _ ?_ ⟨_, F, _, _, hw3, by omega, hag, by omega, ((hsm.trans x2).trans (xSame.set _ _)).wide (by decide)⟩
                    rw [eq0]
                    exact noR_deep (by dsimp only; omega)
                  · have go := good A2 F2 (a + 1) m1 ((3, 0, (nx st.1).2.2.1, 1) :: L) (D + 1) ((nx st.1).2.2.2, st.2) pr c1 x1 h1 x2 x3 x4 x5 x6 ⟨((i1.trans tk).le (by simp <;> omega)), by simp, by dsimp only; omega, hent.2.2⟩ (by dsimp only; omega) eq0
                    exact go
                · rw [if_pos hinf] at eq0
                  obtain ⟨m1, h1⟩ := TA_next hta (by omega)
                  have hvs : vsx st.2 (nx st.1) = st.2 := by unfold vsx; rw [if_neg (by omega)]
                  rw [hvs] at h1
                  have hsx1 : sfx t (nx st.1).2.2.2 := hsx.trans (nx_sfx' q2)
                  refine xP_s rfl rfl rfl ?_
                  refine xP_s rfl rfl rfl ?_
                  refine xP_get rfl h25 rfl ?_
                  refine xP_s rfl rfl rfl ?_
                  refine xP_get rfl h25 rfl ?_
                  refine xP_s rfl rfl rfl ?_
                  refine xP_s rfl rfl rfl ?_
                  rw [nI_1]
                  refine xP_cv rfl rfl rfl rfl rfl ht.2.1 (p_beginsTerm ht (by omega) ?_)
                  rw [TA_bgn h1 (fun c hc => hch c (hsx1.mem c hc))]
                  cases hbg : bgn (nx (nx st.1).2.2.2)
                  · rw [if_neg (by rw [hbg]; decide)] at eq0
                    have go := stay eq0 (sI (some j)) 1
                    repeat' first
                      | exact go
                      | refine xP_s rfl rfl rfl ?_
                  · rw [if_pos hbg] at eq0
                    refine xP_s rfl rfl rfl ?_
                    refine xP_s rfl rfl rfl ?_
                    refine xP_get rfl h25 rfl ?_
                    refine xP_s rfl rfl rfl ?_
                    refine xP_cv rfl rfl rfl rfl rfl ho.obj (p_isInfix (o := some j) ho hvj ?_)
                    rw [hsE, hinf]
                    refine xP_s rfl rfl rfl ?_
                    refine xP_s rfl rfl rfl ?_
                    refine xP_s rfl rfl rfl ?_
                    refine xP_s rfl rfl rfl ?_
                    refine xP_s rfl rfl rfl ?_
                    refine xP_cv rfl rfl rfl rfl rfl h25 (p_infixed (l1 := n) (D := D) (L := L) hd IH hw h0 hsl hta hsx hkk hen htr hdp ⟨i3, hD⟩ (by omega) (fun A2 z1 z2 => ?_) (fun A2 F2 a2 m2 r z1 z2 z3 z4 z5 z6 z7 z8 z9 => ?_))
                    · obtain ⟨n', F', a', pr', y1, y2, y3, y4, y5⟩ := z2
                      have hw3 := y1.setA a' en.2.1 hent.2.2
                      have fl := fail A2 n' F' a' pr' y1 (kb _ (by
                        rw [eq0]
                        rcases z1 with (z1 | ⟨⟨R, DR, st', pr'⟩, z1, z2⟩) | ⟨⟨R, DR, st', pr'⟩, z1, z2, z3⟩
                        · rw [z1]
                          exact Or.inl rfl
                        · rw [z1]
                          exact noR_deep (by dsimp only at z2 ⊢; omega)
                        · rw [z1]
                          exact noR_deep (by dsimp only at z3 ⊢; omega)) ⟨n', F', a', _, hw3, by omega, hag.trans y3 (Nat.le_refl _), by omega, ((hsm.trans y5).trans (xSame.set _ _)).wide (by decide)⟩)
                      repeat' first
                        | exact fl
                        | refine xP_s rfl rfl rfl ?_
                    · obtain ⟨R, DR, st', pr'⟩ := r
                      dsimp only at z2 z3 z4 z5 z6 z7
                      rw [z1] at eq0
                      dsimp only at eq0
                      have rI := tmF_I (fun e he => ⟨(hsl e he).1, (hsl e he).2.2⟩) e _ _ _ z1
                      obtain ⟨g1, g2, g3, g4⟩ := rI
                      dsimp only at g1 g2 g3 g4
                      have g1l := g1.len
                      have hl2 : ((3, 0, nmOf (nx st.1), 2) :: (L ++ R) : List xIt).length = L.length + R.length + 1 := by simp
                      have e1 : n + L.length + R.length + 1 = n + ((3, 0, nmOf (nx st.1), 2) :: (L ++ R) : List xIt).length := by rw [hl2]; omega
                      have e2 : n + L.length + R.length = n + ((3, 0, nmOf (nx st.1), 2) :: (L ++ R) : List xIt).length - 1 := by rw [hl2]; omega
                      rw [e1] at z3 z5
                      rw [e2] at z6 z7
                      have go := good A2 F2 a2 m2 _ (max D DR + 1) st' pr' z2 z3 z4 z5 z6 z7 z8 z9 ⟨((i1.trans tk).trans g1).le (by dsimp only; rw [hl2]; omega), by dsimp only; rw [hl2]; omega, by dsimp only; omega, hent.2.2⟩ (by
                        obtain ⟨ww, we, _⟩ := g1
                        have := congrArg List.length we
                        rw [List.length_append] at this
                        omega) eq0
                      rw [← e2] at go
                      dsimp only at go ⊢
                      repeat' first
                        | exact go
                        | refine xP_s rfl rfl rfl ?_
end PR
end
section
-- Parser: arguments
/-- k terms in a chain that goes on at y, and their greatest depth -/
def xSg (F : xF) (nm : List Nat) : Nat → Int32 → Nat → Nat → List xIt → Nat → Int32 → Prop
  | 0, x, _, _, L, m, y => x = y ∧ L = [] ∧ m = 0
  | k + 1, x, lo, hi, L, m, y => ∃ a b D m' L1 L2, lo ≤ a ∧ a < b ∧ b ≤ hi ∧ x = nI (b - 1) ∧ xTr F nm D a b L1 ∧ F.2.2.2.2.2 (b - 1) = nI D ∧ 1 ≤ D ∧ D ≤ 14 ∧ m = max D m' ∧ L = L1 ++ L2 ∧ xSg F nm k (F.2.2.2.2.1 (b - 1)) lo hi L2 m' y
theorem xSg.same {F F' : xF} {nm : List Nat} {lo hi : Nat} {y : Int32} (hg : xA0 F F' hi) : ∀ {k : Nat} {x : Int32} {L : List xIt} {m : Nat}, xSg F nm k x lo hi L m y → xSg F' nm k x lo hi L m y
  | 0, x, L, m, h => h
  | k + 1, x, L, m, h => by
    obtain ⟨a, b, D, m', L1, L2, h1, h2, h3, h4, h5, h6, h7, h8, h9, h10, h11⟩ := h
    obtain ⟨g1, g2, g3, g4, g5, g6⟩ := hg (b - 1) (by omega)
    exact ⟨a, b, D, m', L1, L2, h1, h2, h3, h4, h5.same0 hg h3, g6.trans h6, h7, h8, h9, h10, by rw [g5]; exact h11.same hg⟩
theorem xSg.wide {F : xF} {nm : List Nat} {lo hi hi' : Nat} {y : Int32} (hh : hi ≤ hi') : ∀ {k : Nat} {x : Int32} {L : List xIt} {m : Nat}, xSg F nm k x lo hi L m y → xSg F nm k x lo hi' L m y
  | 0, x, L, m, h => h
  | k + 1, x, L, m, h => by
    obtain ⟨a, b, D, m', L1, L2, h1, h2, h3, h4, h5, h6, h7, h8, h9, h10, h11⟩ := h
    exact ⟨a, b, D, m', L1, L2, h1, h2, by omega, h4, h5, h6, h7, h8, h9, h10, h11.wide hh⟩
theorem xSg.snoc {F : xF} {nm : List Nat} {lo hi a b D : Nat} {R : List xIt} {y : Int32} (h1 : lo ≤ a) (h2 : a < b) (h3 : b ≤ hi) (h4 : xTr F nm D a b R) (h5 : F.2.2.2.2.2 (b - 1) = nI D) (h6 : 1 ≤ D ∧ D ≤ 14) (h7 : F.2.2.2.2.1 (b - 1) = y) : ∀ {k : Nat} {x : Int32} {L : List xIt} {m : Nat}, xSg F nm k x lo hi L m (nI (b - 1)) → xSg F nm (k + 1) x lo hi (L ++ R) (max m D) y
  | 0, x, L, m, h => by
    obtain ⟨q1, q2, q3⟩ := h
    subst q1 q2 q3
    exact ⟨a, b, D, 0, R, [], h1, h2, h3, rfl, h4, h5, h6.1, h6.2, by omega, by simp, h7, rfl, rfl⟩
  | k + 1, x, L, m, h => by
    obtain ⟨a', b', D', m', L1, L2, q1, q2, q3, q4, q5, q6, q7, q8, q9, q10, q11⟩ := h
    exact ⟨a', b', D', max m' D, L1, L2 ++ R, q1, q2, q3, q4, q5, q6, q7, q8, by omega, by rw [q10, List.append_assoc], xSg.snoc h1 h2 h3 h4 h5 h6 h7 q11⟩
theorem xSg.cd {F : xF} {nm : List Nat} {lo hi n : Nat} (hn : hi ≤ n) : ∀ {k : Nat} {x : Int32} {L : List xIt} {m : Nat}, xSg F nm k x lo hi L m (-1) → xCd F n x k m
  | 0, x, L, m, h => ⟨h.1, h.2.2⟩
  | k + 1, x, L, m, h => by
    obtain ⟨a, b, D, m', L1, L2, h1, h2, h3, h4, h5, h6, h7, h8, h9, h10, h11⟩ := h
    exact ⟨b - 1, D, m', by omega, h4, h6, h8, h9, h11.cd hn⟩
theorem xSg.ch {F : xF} {nm : List Nat} {lo hi E : Nat} : ∀ {k : Nat} {x : Int32} {L : List xIt} {m : Nat}, xSg F nm k x lo hi L m (-1) → m ≤ E → xCh F (fun a b l => xTr F nm E a b l) k x lo hi L
  | 0, x, L, m, h, _ => ⟨h.1, h.2.1⟩
  | k + 1, x, L, m, h, hE => by
    obtain ⟨a, b, D, m', L1, L2, h1, h2, h3, h4, h5, h6, h7, h8, h9, h10, h11⟩ := h
    exact ⟨a, b, L1, L2, h1, h2, h3, h4, h5.le (by omega), h10, h11.ch (by omega)⟩
theorem xSg.m14 {F : xF} {nm : List Nat} {lo hi : Nat} {y : Int32} : ∀ {k : Nat} {x : Int32} {L : List xIt} {m : Nat}, xSg F nm k x lo hi L m y → m ≤ 14
  | 0, x, L, m, h => by have := h.2.2; omega
  | k + 1, x, L, m, h => by
    obtain ⟨a, b, D, m', L1, L2, h1, h2, h3, h4, h5, h6, h7, h8, h9, h10, h11⟩ := h
    have := h11.m14
    omega
/-- the arguments that have been read: none, or a chain and the last of them -/
def xAr (F : xF) (nm : List Nat) (i : Nat) (xf xl : Int32) (n c : Nat) (L : List xIt) (M : Nat) : Prop :=
  (i = 0 ∧ xf = -1 ∧ xl = -1 ∧ c = n ∧ L = [] ∧ M = 0) ∨
  (∃ k mid Ls Ml Rl Dl, i = k + 1 ∧ xl = nI (c - 1) ∧ n ≤ mid ∧ mid < c ∧ xSg F nm k xf n mid Ls Ml (nI (c - 1)) ∧ xTr F nm Dl mid c Rl ∧ F.2.2.2.2.2 (c - 1) = nI Dl ∧ 1 ≤ Dl ∧ Dl ≤ 14 ∧ F.2.2.2.2.1 (c - 1) = -1 ∧ L = Ls ++ Rl ∧ M = max Ml Dl)
section PS
variable {sc : xSc} {d g : Nat} {t nm : List Nat} {sl : List xSl} {u p v : Nat} {G : xG} {P : xO → xH → Prop}
set_option maxHeartbeats 4000000 in
set_option maxRecDepth 100000 in
theorem p_argsLoop {e lv n : Nat} {A0 : List xC} {F0 : xF} (hd : 4 * e ≤ d) (IH : ∀ dd, 4 * e + 10 ≤ dd → xTmC sc dd g t nm sl u p v G e (lv + 1)) (hsl : ∀ e ∈ sl, ¬ e.1 = 0 ∧ 1 ≤ e.2.1 ∧ e.2.1 ≤ 1200) (hch : ∀ c ∈ t, 32 ≤ c ∧ c ≤ 126) :
    ∀ (k i : Nat) (A : List xC) (F : xF) (a m c pr : Nat) (xf xl : Int32) (L : List xIt) (M : Nat) (st : xSt), i + k = 6 → xWd A t nm sl u p v G c F a pr → c = n + L.length → xAr F nm i xf xl n c L M → xTA t nm G u m a st.1 st.2 → sfx t st.1 → c + 2 * st.1.length ≤ 840 → xA0 F0 F n → xSame A0 A pL →
    (∀ A', (args (tmF sl e) k st = none ∨ ∃ r, args (tmF sl e) k st = some r ∧ 14 < max M r.2.2.1) → xBd A0 A' t nm sl u p v G n F0 (e + 1) → P (.inl (some (.int (-1)))) (A', g)) →
    (∀ A' F' a' m' pr' x r, args (tmF sl e) k st = some r → max M r.2.2.1 ≤ 14 → xWd A' t nm sl u p v G (n + (L ++ r.1).length) F' a' pr' → xTA t nm G u m' a' r.2.2.2.1 r.2.2.2.2 → xSg F' nm (i + r.2.1) x n (n + (L ++ r.1).length) (L ++ r.1) (max M r.2.2.1) (-1) → xA0 F0 F' n → xSame A0 A' pL → P (.inl (some (.int x))) (A', g)) →
    xP sc (d + 11) 51 7 [(0, .ref 25), (1, .int (nI lv)), (2, .int xf), (3, .int xl), (4, .int (nI i))] [] (A, g) P
  | 0, i, A, F, a, m, c, pr, xf, xl, L, M, st, hi, hw, hcn, har, hta, hsx, hbud, hag, hsm, kb, ko => by
    have h6 : (6 : Int32).toInt = 6 := rfl
    have hI : (nI i).toInt = (i : Int) := nI_toInt (by omega)
    have hua := (TA_E hta).1
    have hu := hw.2.2.2.1.1
    refine xP_s rfl rfl rfl ?_
    refine xP_s rfl rfl rfl ?_
    refine xP_s rfl rfl rfl ?_
    refine xP_if (fun hc => ?_) (fun hc => ?_)
    · repeat' first
        | refine xP_s rfl rfl rfl ?_
        | refine xP_ret rfl rfl rfl ?_
      exact kb A (Or.inl rfl) ⟨c, F, a, pr, hw, by omega, hag, by omega, hsm⟩
    · have := xc_f hc
      dsimp only at this
      omega
  | k + 1, i, A, F, a, m, c, pr, xf, xl, L, M, st, hi, hw, hcn, har, hta, hsx, hbud, hag, hsm, kb, ko => by
    have h6 : (6 : Int32).toInt = 6 := rfl
    have hm1 : (-1 : Int32).toInt = -1 := rfl
    have h0' : (0 : Int32).toInt = 0 := rfl
    have hI : (nI i).toInt = (i : Int) := nI_toInt (by omega)
    have h25 := hw.2.2.2.2.2.1
    unfold xPa at h25
    have hu := hw.2.2.2.1.1
    have hncc : n ≤ c := by omega
    have eq0 : args (tmF sl e) (k + 1) st = (match tmF sl e 999 st with
      | none => none
      | some (R, DR, st', _) => if isMk st'.1 44 = true then (match args (tmF sl e) k ((nx st'.1).2.2.2, st'.2) with
          | none => none
          | some (As, k', DA, st2) => some (R ++ As, k' + 1, max DR DA, st2))
        else if isMk st'.1 41 = true then some (R, 1, DR, ((nx st'.1).2.2.2, st'.2)) else none) := by
      conv => lhs; unfold args
      rfl
    refine xP_s rfl rfl rfl ?_
    refine xP_s rfl rfl rfl ?_
    refine xP_s rfl rfl rfl ?_
    refine xP_if (fun hc => ?_) (fun hc => ?_)
    · have := xc_t hc
      dsimp only at this
      omega
    · refine xP_s rfl rfl rfl ?_
      refine xP_s rfl rfl rfl ?_
      refine xP_s rfl rfl rfl ?_
      refine xP_s rfl rfl rfl ?_
      refine xP_s rfl rfl rfl ?_
      rw [nI_1]
      refine xP_cv rfl rfl rfl rfl rfl h25 (IH (d + 10) (by omega) A c F a pr m st.1 st.2 999 999 _ rfl (by omega) (by omega) hw hta hsx hbud (fun A2 z1 z2 => ?_) (fun A2 F2 a2 m2 r z1 z2 z3 => ?_))
      · obtain ⟨n', F', a', pr', y1, y2, y3, y4, y5⟩ := z2
        repeat' first
          | refine xP_s rfl rfl rfl ?_
          | refine xP_ret rfl rfl rfl ?_
        refine kb A2 ?_ ⟨n', F', a', pr', y1, by omega, hag.trans y3 hncc, by omega, (hsm.trans y5).wide (by decide)⟩
        rw [eq0]
        rcases z1 with z1 | ⟨⟨R, DR, st', pr1⟩, z1, z3⟩
        · rw [show tmF sl e 999 st = none from z1]
          exact Or.inl rfl
        · rw [show tmF sl e 999 st = some (R, DR, st', pr1) from z1]
          dsimp only at z3 ⊢
          split
          · cases hx : args (tmF sl e) k ((nx st'.1).2.2.2, st'.2) with
            | none => exact Or.inl rfl
            | some r => exact Or.inr ⟨_, rfl, by dsimp only; omega⟩
          · split
            · exact Or.inr ⟨_, rfl, by dsimp only; omega⟩
            · exact Or.inl rfl
      · obtain ⟨R, DR, st', pr1⟩ := r
        obtain ⟨y1, y2, y3, y4, y5, y6, y7⟩ := z3
        dsimp only at z2 y1 y2 y3 y4 y5
        rw [show tmF sl e 999 st = some (R, DR, st', pr1) from z1] at eq0
        dsimp only at eq0
        have rI := tmF_I (fun e he => ⟨(hsl e he).1, (hsl e he).2.2⟩) e _ _ _ z1
        obtain ⟨i1, i2, i3, i4⟩ := rI
        dsimp only at i1 i2 i3 i4
        have i1l := i1.len
        obtain ⟨ys, yn, yo, yt, yp, y25, ypr⟩ := id y1
        unfold xPa at y25
        have hpn := yp.1
        have hsx2 : sfx t st'.1 := hsx.trans i1.sfx
        have hss2 : ∀ c ∈ st'.1, 32 ≤ c ∧ c ≤ 126 := fun c hc => hch c (hsx2.mem c hc)
        have hC2 : ((c + R.length - 1 : Nat) : Int) = c + R.length - 1 := by omega
        have hlR : (L ++ R).length = L.length + R.length := List.length_append
        -- behind the link: F3, in which the new one is the last
        have after : ∀ A3 F3 xf3, xWd A3 t nm sl u p v G (c + R.length) F3 a2 pr1 → xAr F3 nm (i + 1) xf3 (nI (c + R.length - 1)) n (c + R.length) (L ++ R) (max M DR) → xA0 F0 F3 n → xSame A0 A3 pL → xP sc (d + 11) 51 56 [(0, .ref 25), (1, .int (nI lv)), (2, .int xf3), (3, .int xl), (4, .int (nI i)), (5, .int (nI (c + R.length - 1)))] [] (A3, g) P := by
          intro A3 F3 xf3 hw3 har3 hag3 hsm3
          obtain ⟨ws, wn, wo, wt, wp, w25, wpr⟩ := id hw3
          unfold xPa at w25
          refine xP_s rfl rfl rfl ?_
          refine xP_s rfl rfl rfl ?_
          refine xP_s rfl rfl rfl ?_
          refine xP_s rfl rfl rfl ?_
          refine xP_cv rfl rfl rfl rfl rfl w25 (p_take (c := 44) hw3 y2 hss2 (by omega) (fun c1 => ?_) (fun c1 A4 m4 x1 x2 x3 => ?_))
          · rw [if_neg (by rw [c1]; decide)] at eq0
            refine xP_s rfl rfl rfl ?_
            refine xP_s rfl rfl rfl ?_
            refine xP_s rfl rfl rfl ?_
            refine xP_cv rfl rfl rfl rfl rfl w25 (p_take (c := 41) hw3 y2 hss2 (by omega) (fun c2 => ?_) (fun c2 A4 m4 x1 x2 x3 => ?_))
            · rw [if_neg (by rw [c2]; decide)] at eq0
              repeat' first
                | refine xP_s rfl rfl rfl ?_
                | refine xP_ret rfl rfl rfl ?_
              have hua2 := (TA_E y2).1
              exact kb A3 (Or.inl eq0) ⟨_, F3, a2, _, hw3, by omega, hag3, by omega, hsm3⟩
            · rw [if_pos c2] at eq0
              repeat' first
                | refine xP_s rfl rfl rfl ?_
                | refine xP_ret rfl rfl rfl ?_
              rcases har3 with ⟨q, _⟩ | ⟨k', mid, Ls, Ml, Rl, Dl, q1, q2, q3, q4, q5, q6, q7, q8, q9, q10, q11, q12⟩
              · omega
              · have hsg := (q5.wide (hi' := c + R.length) (by omega)).snoc q3 q4 (Nat.le_refl _) q6 q7 ⟨q8, q9⟩ q10
                rw [← q11, ← q12, ← q1] at hsg
                have hm14 := hsg.m14
                have e1 : c + R.length = n + (L ++ R).length := by omega
                rw [e1] at x1 hsg
                exact ko A4 F3 (a2 + 1) m4 _ xf3 (R, 1, DR, ((nx st'.1).2.2.2, st'.2)) eq0 (by dsimp only; omega) x1 x2 hsg hag3 ((hsm3.trans x3).wide (by decide))
          · rw [if_pos c1] at eq0
            have q5 := (isMk_k c1).1
            have tk := nx_tk2 (s := st'.1) (by omega)
            have tkl := tk.len
            have hm14 : max M DR ≤ 14 := by
              rcases har3 with ⟨q, _⟩ | ⟨k', mid, Ls, Ml, Rl, Dl, q1, q2, q3, q4, q5, q6, q7, q8, q9, q10, q11, q12⟩
              · omega
              · have := q5.m14
                omega
            have go := p_argsLoop hd IH hsl hch k (i + 1) A4 F3 (a2 + 1) m4 (c + R.length) _ xf3 _ (L ++ R) (max M DR) ((nx st'.1).2.2.2, st'.2) (by omega) x1 (by omega) har3 x2 (hsx2.trans (nx_sfx' (by omega))) (by dsimp only; omega) hag3 ((hsm3.trans x3).wide (by decide)) (fun A' z1 z2 => kb A' (by
              rw [eq0]
              rcases z1 with z1 | ⟨⟨As, k', DA, st2⟩, z1, z3⟩
              · rw [z1]
                exact Or.inl rfl
              · rw [z1]
                exact Or.inr ⟨_, rfl, by dsimp only at z3 ⊢; omega⟩) z2) (fun A' F' a' m' pr' x r z1 z2 z3 z4 z5 z6 z7 => by
              obtain ⟨As, k', DA, st2⟩ := r
              rw [z1] at eq0
              dsimp only at eq0 z2 z3 z4 z5
              refine ko A' F' a' m' pr' x (R ++ As, k' + 1, max DR DA, st2) eq0 (by dsimp only; omega) ?_ z4 ?_ z6 z7
              · dsimp only
                rw [← List.append_assoc]
                exact z3
              · dsimp only
                rw [← List.append_assoc, show i + (k' + 1) = i + 1 + k' by omega, show max M (max DR DA) = max (max M DR) DA by omega]
                exact z5)
            rw [← nI_1 i] at go
            have go1 := xP_more [(5, .int (nI (c + R.length - 1)))] rfl go
            repeat' first
              | exact go1
              | refine xP_s rfl rfl rfl ?_
        have trR : ∀ F3 : xF, xAg F2 F3 c (c + R.length) → xTr F3 nm DR c (c + R.length) R := fun F3 h => y3.frame0 h
        refine xP_s rfl rfl rfl ?_
        refine xP_s rfl rfl rfl ?_
        refine xP_s rfl rfl rfl ?_
        refine xP_s rfl rfl rfl ?_
        refine xP_if (fun hc => ?_) (fun hc => ?_)
        · rcases har with ⟨q1, q2, q3, q4, q5, q6⟩ | ⟨k', mid, Ls, Ml, Rl, Dl, q1, q2, q3, q4, q5, q6, q7, q8, q9, q10, q11, q12⟩
          · -- the first one
            subst q1 q2 q3 q4 q5 q6
            have ar : xAr F2 nm (0 + 1) (nI (c + R.length - 1)) (nI (c + R.length - 1)) c (c + R.length) ([] ++ R) (max 0 DR) := Or.inr ⟨0, c, [], 0, R, DR, rfl, rfl, Nat.le_refl _, by omega, ⟨rfl, rfl, rfl⟩, y3, y4, i3, z2, y5, rfl, rfl⟩
            have af := after _ _ (nI (c + R.length - 1)) y1 ar (hag.trans y6 (Nat.le_refl _)) ((hsm.trans y7).wide (by decide))
            refine xP_s rfl rfl rfl ?_
            refine xP_s rfl rfl rfl ?_
            refine xP_s rfl rfl rfl ?_
            refine xP_s rfl rfl rfl ?_
            refine xP_s rfl rfl rfl ?_
            refine xP_s rfl rfl rfl ?_
            refine xP_get rfl y25 rfl ?_
            refine xP_s rfl rfl rfl ?_
            refine xP_s rfl rfl rfl ?_
            refine xP_cv rfl rfl rfl rfl rfl yp.2.1 (p_link (o := none) yp (fun i h => by cases h) (fun A3 x1 x2 => ?_))
            have hw3 := y1.setP x1 (x2.wide (by decide))
            exact after A3 _ (nI (c + R.length - 1)) hw3 ar (hag.trans y6 (Nat.le_refl _)) (((hsm.trans y7).trans x2).wide (by decide))
          · subst q1 q2
            have hne : ¬ (nI (k' + 1)).toInt = 0 := by rw [nI_toInt (by omega)]; omega
            have F3d : ∀ A3, xPt A3 (c + R.length) (F2.1, F2.2.1, F2.2.2.1, F2.2.2.2.1, upd F2.2.2.2.2.1 (c - 1) (nI (c + R.length - 1)), F2.2.2.2.2.2) → xSame A2 A3 [16] → xP sc (d + 11) 51 56 [(0, .ref 25), (1, .int (nI lv)), (2, .int xf), (3, .int (nI (c - 1))), (4, .int (nI (k' + 1))), (5, .int (nI (c + R.length - 1)))] [] (A3, g) P := by
              intro A3 x1 x2
              have hw3 := y1.setP x1 (x2.wide (by decide))
              have ax : ∀ {lo hi : Nat}, (hi ≤ c ∨ c ≤ lo) → xAg F2 (F2.1, F2.2.1, F2.2.2.1, F2.2.2.2.1, upd F2.2.2.2.2.1 (c - 1) (nI (c + R.length - 1)), F2.2.2.2.2.2) lo hi := fun hh j g1 g2 => ⟨rfl, rfl, rfl, rfl, fun g3 => pk_un (by omega)⟩
              have a0 : xA0 F2 (F2.1, F2.2.1, F2.2.2.1, F2.2.2.2.1, upd F2.2.2.2.2.1 (c - 1) (nI (c + R.length - 1)), F2.2.2.2.2.2) mid := fun j hj => ⟨rfl, rfl, rfl, rfl, pk_un (by omega), rfl⟩
              have sg := (((q5.same (fun j hj => y6 j (by omega))).same a0).wide (hi' := c) (by omega)).snoc (a := mid) (b := c) (R := Rl) (D := Dl) (y := nI (c + R.length - 1)) q3 q4 (Nat.le_refl _) ((q6.same0 y6 (Nat.le_refl _)).frame0 (ax (Or.inl (Nat.le_refl _)))) ((y6 (c - 1) (by omega)).2.2.2.2.2.trans q7) ⟨q8, q9⟩ pk_us
              refine after A3 _ xf hw3 (Or.inr ⟨k' + 1, c, Ls ++ Rl, max Ml Dl, R, DR, rfl, rfl, by omega, by omega, sg, y3.frame0 (ax (Or.inr (Nat.le_refl _))), y4, i3, z2, ?_, by rw [q11], by rw [q12]⟩) ?_ (((hsm.trans y7).trans x2).wide (by decide))
              · show upd F2.2.2.2.2.1 (c - 1) (nI (c + R.length - 1)) (c + R.length - 1) = -1
                rw [pk_un (by omega)]
                exact y5
              · exact (hag.trans y6 (by omega)).trans a0 (by omega)
            refine xP_s rfl rfl rfl ?_
            refine xP_s rfl rfl rfl ?_
            refine xP_if (fun hc => ?_) (fun hc => ?_)
            · refine xP_s rfl rfl rfl ?_
              refine xP_s rfl rfl rfl ?_
              refine xP_s rfl rfl rfl ?_
              refine xP_get rfl y25 rfl ?_
              refine xP_s rfl rfl rfl ?_
              refine xP_s rfl rfl rfl ?_
              refine xP_cv rfl rfl rfl rfl rfl yp.2.1 (p_link (o := some (c - 1)) yp (fun i h => by have := Option.some.inj h; omega) (fun A3 x1 x2 => ?_))
              exact F3d A3 x1 x2
            · exact absurd (xc_f hc) hne
        · exact absurd (xc_f hc) (nI_neg1 (show c + R.length - 1 < 2 ^ 31 by omega))
set_option maxRecDepth 100000 in
theorem p_arguments {e lv n m a pr : Nat} {A : List xC} {F : xF} {st : xSt} (hd : 4 * e ≤ d) (IH : ∀ dd, 4 * e + 10 ≤ dd → xTmC sc dd g t nm sl u p v G e (lv + 1)) (hsl : ∀ e ∈ sl, ¬ e.1 = 0 ∧ 1 ≤ e.2.1 ∧ e.2.1 ≤ 1200) (hch : ∀ c ∈ t, 32 ≤ c ∧ c ≤ 126) (hw : xWd A t nm sl u p v G n F a pr) (hta : xTA t nm G u m a st.1 st.2) (hsx : sfx t st.1) (hbud : n + 2 * st.1.length ≤ 840)
    (kb : ∀ A', (args (tmF sl e) 6 st = none ∨ ∃ r, args (tmF sl e) 6 st = some r ∧ 14 < r.2.2.1) → xBd A A' t nm sl u p v G n F (e + 1) → P (.inl (some (.int (-1)))) (A', g))
    (ko : ∀ A' F' a' m' pr' x r, args (tmF sl e) 6 st = some r → r.2.2.1 ≤ 14 → xWd A' t nm sl u p v G (n + r.1.length) F' a' pr' → xTA t nm G u m' a' r.2.2.2.1 r.2.2.2.2 → xSg F' nm r.2.1 x n (n + r.1.length) r.1 r.2.2.1 (-1) → xA0 F F' n → xSame A A' pL → P (.inl (some (.int x))) (A', g)) : xM1 sc (d + 11) 51 [.ref 25, .int (nI lv)] (A, g) P := by
  have go := p_argsLoop (P := P) hd IH hsl hch 6 0 A F a m n pr (-1) (-1) [] 0 st rfl hw rfl (Or.inl ⟨rfl, rfl, rfl, rfl, rfl, rfl⟩) hta hsx hbud (xA0.refl _ _) (xSame.refl A pL) (fun A' z1 z2 => kb A' (by simpa using z1) z2) (fun A' F' a' m' pr' x r z1 z2 z3 z4 z5 z6 z7 => by
    rw [List.nil_append] at z3 z5
    rw [Nat.zero_add, Nat.max_eq_right (Nat.zero_le _)] at z5
    exact ko A' F' a' m' pr' x r z1 (by omega) z3 z4 z5 z6 z7)
  unfold xM1
  repeat' first
    | exact go
    | refine xP_s rfl rfl rfl ?_
end PS
end
section
-- Parser: strings and lists
section PT
variable {sc : xSc} {d g : Nat} {t nm : List Nat} {sl : List xSl} {u p v : Nat} {G : xG} {P : xO → xH → Prop}
theorem iI_sub1 {i : Nat} (h : i < 2 ^ 31) : nI (i + 1) + (-1) = nI i := by
  rw [← nI_1, Int32.add_assoc]
  exact Int32.add_zero _
set_option maxHeartbeats 4000000 in
set_option maxRecDepth 100000 in
theorem p_stringLoop2 {n a b pr : Nat} {F0 : xF} {A0 : List xC} {w : List Nat} (h0 : nm0 nm) (hw12 : w.length ≤ 12) (ha : a < u) (hval : G.2.2.2.1 a = nI b) (hb : b + w.length ≤ t.length) (hbt : (t.drop b).take w.length = w) (hbud : n + 2 * w.length + 1 ≤ 840) :
    ∀ (i : Nat) (A : List xC) (F : xF) (c a' : Nat) (xi : Int32), i ≤ w.length → xi.toInt = (i : Int) - 1 → xWd A t nm sl u p v G c F a' pr → c = n + (strL (w.drop i)).length → xTr F nm ((w.drop i).length + 1) n c (strL (w.drop i)) → F.2.2.2.2.2 (c - 1) = nI ((w.drop i).length + 1) → F.2.2.2.2.1 (c - 1) = -1 → xA0 F0 F n → xSame A0 A pL →
    (∀ A' F', xWd A' t nm sl u p v G (n + (strL w).length) F' a' pr → xTr F' nm (w.length + 1) n (n + (strL w).length) (strL w) → F'.2.2.2.2.2 (n + (strL w).length - 1) = nI (w.length + 1) → F'.2.2.2.2.1 (n + (strL w).length - 1) = -1 → xA0 F0 F' n → xSame A0 A' pL → P (.inl (some (.int (nI (n + (strL w).length - 1))))) (A', g)) →
    xP sc (d + 12) 49 21 [(0, .ref 25), (1, .int (nI a)), (2, .int (nI (c - 1))), (3, .int xi)] [] (A, g) P
  | 0, A, F, c, a', xi, hi, hxi, hw, hc, htr, hdp, hnx, hag, hsm, k => by
    have h0' : (0 : Int32).toInt = 0 := rfl
    rw [List.drop_zero] at hc htr hdp
    subst hc
    refine xP_s rfl rfl rfl ?_
    refine xP_s rfl rfl rfl ?_
    refine xP_if (fun hc => ?_) (fun hc => ?_)
    · repeat' first
        | refine xP_s rfl rfl rfl ?_
        | refine xP_ret rfl rfl rfl ?_
      exact k A F hw htr hdp hnx hag hsm
    · have := xc_f hc
      dsimp only at this
      omega
  | i + 1, A, F, c, a', xi, hi, hxi, hw, hc, htr, hdp, hnx, hag, hsm, k => by
    have h0' : (0 : Int32).toInt = 0 := rfl
    obtain ⟨hs, hn, ho, ht, hp, h25, hpr⟩ := id hw
    unfold xPa at h25
    have hl := hs.len
    have exi : xi = nI i := Int32.toInt_inj.mp (by rw [hxi, nI_toInt (by omega)]; omega)
    subst exi
    obtain ⟨ch, hch⟩ : ∃ ch, w[i]? = some ch := ⟨w[i]'(by omega), List.getElem?_eq_getElem (by omega)⟩
    have hdrop : w.drop i = ch :: w.drop (i + 1) := by
      rw [List.drop_eq_getElem_cons (by omega)]
      congr 1
      have := List.getElem?_eq_getElem (show i < w.length by omega)
      rw [this] at hch
      exact Option.some.inj hch
    have htc : t[b + i]? = some ch := by
      have h1 := congrArg (fun l => l[i]?) hbt
      rw [List.getElem?_take_of_lt (by omega), List.getElem?_drop, hch] at h1
      exact h1
    have hch128 := hs.chr ch (List.mem_of_getElem? htc)
    have hln : (strL (w.drop (i + 1))).length = 2 * (w.length - (i + 1)) + 1 := by rw [strL_len, List.length_drop]
    have hdl : (w.drop (i + 1)).length = w.length - (i + 1) := List.length_drop
    have g1 := htr.root
    refine xP_s rfl rfl rfl ?_
    refine xP_s rfl rfl rfl ?_
    refine xP_if (fun hc => ?_) (fun hc => ?_)
    · have := xc_t hc
      dsimp only at this
      rw [nI_toInt (by omega)] at this
      omega
    · refine xP_s rfl rfl rfl ?_
      refine xP_get rfl h25 rfl ?_
      refine xP_s rfl rfl rfl ?_
      refine xP_get rfl h25 rfl ?_
      refine xP_s rfl rfl rfl ?_
      refine xP_s rfl rfl rfl ?_
      refine xP_cv rfl rfl rfl rfl rfl ht.2.1 (p_stringCharacter ht hs ha ?_)
      rw [hval, nI_add, cAt_get (by omega) htc]
      refine xP_cv rfl rfl rfl rfl rfl hp.2.1 (p_addInteger hp (fun hz => ?_) (fun hz A2 x1 x2 => ?_))
      · omega
      · have hw2 := hw.setP x1 x2
        obtain ⟨ys, yn, yo, yt, yp, y25, ypr⟩ := id hw2
        unfold xPa at y25
        have hcN : (nI ch).toInt = (ch : Int) := nI_toInt (by omega)
        have tl : xTr (xAdd F c 1 (nI ch) 0 (-1) 1) nm 1 c (c + 1) [(1, (ch : Int), [], 0)] := tr_leaf (x3 := 0) rfl (by simp) ⟨fun _ => rfl, fun h => by simp at h, fun _ => rfl, fun h => by simp at h⟩ (fun _ => hcN) (fun h => by simp at h)
        have a0 : xA0 F (xAdd F c 1 (nI ch) 0 (-1) 1) c := xA0_add F c _ _ _ _ _ (Nat.le_refl _)
        have tr := htr.same0 a0 (Nat.le_refl _)
        refine xP_s rfl rfl rfl ?_
        refine xP_s rfl rfl rfl ?_
        refine xP_get rfl y25 rfl ?_
        refine xP_s rfl rfl rfl ?_
        refine xP_s rfl rfl rfl ?_
        refine xP_s rfl rfl rfl ?_
        refine xP_s rfl rfl rfl ?_
        refine xP_cv rfl rfl rfl rfl rfl yp.2.1 (p_addPair (l := c) (r := c - 1) (Dl := 1) (Dr := (w.drop (i + 1)).length + 1) yp (by omega) (by omega) (by omega) pk_us ⟨by omega, by omega⟩ ((a0 (c - 1) (by omega)).2.2.2.2.2.trans hdp) ⟨by omega, by omega⟩ (fun hz A3 y1 y2 => ?_) (fun hz hz2 A3 y1 y2 => ?_))
        · omega
        · have hw3 := hw2.setP y1 y2
          have hpair := tr_pair (lo := n) (n := c + 1) (z := 0) (w := [46]) (x5 := nI (max 1 ((w.drop (i + 1)).length + 1) + 1)) tl tr (Or.inr (Nat.le_refl _)) (by omega) (Nat.le_refl _) (Nat.le_refl _) (by omega) h0.1
          have hmax : max 1 ((w.drop (i + 1)).length + 1) = (w.drop i).length := by
            rw [hdrop, List.length_cons]
            omega
          have hmax2 : max 1 ((w.drop (i + 1)).length + 1) + 1 = (w.drop i).length + 1 := by rw [hmax]
          have hlist : ((3, 0, [46], 2) :: ([(1, (ch : Int), [], 0)] ++ strL (w.drop (i + 1))) : List xIt) = strL (w.drop i) := by
            rw [hdrop]
            rfl
          have hlen2 : c + 1 + 1 = n + (strL (w.drop i)).length := by
            rw [← hlist]
            simp
            omega
          rw [hmax2, hlist] at hpair
          rw [hmax2] at hw3
          have a1 : xA0 F (xAdd (xLk (xAdd F c 1 (nI ch) 0 (-1) 1) c (c - 1)) (c + 1) 3 0 1 (nI c) (nI ((w.drop i).length + 1))) n := (xA0.trans (xA0.trans (fun j hj => a0 j (by omega)) (xA0_lk _ (by omega) (by omega)) (Nat.le_refl n)) (xA0_add _ _ _ _ _ _ _ (by omega)) (Nat.le_refl n))
          have go := p_stringLoop2 h0 hw12 ha hval hb hbt hbud i A3 _ (c + 1 + 1) a' (nI i + (-1)) (by omega) (by
            cases i with
            | zero => rfl
            | succ i =>
              rw [iI_sub1 (by omega), nI_toInt (by omega)]
              omega) hw3 hlen2 hpair pk_us pk_us (hag.trans a1 (Nat.le_refl _)) (((hsm.trans x2).trans y2).wide (by decide)) k
          have go1 := xP_more [(4, .int (nI c))] rfl go
          repeat' first
            | exact go1
            | refine xP_s rfl rfl rfl ?_
set_option maxRecDepth 100000 in
theorem p_string {n a m pr : Nat} {A : List xC} {F : xF} {s : List Nat} {vs : List (List Nat)} {a' : Nat} (h0 : nm0 nm) (hw : xWd A t nm sl u p v G n F a' pr) (hta : xTA t nm G u m a s vs) (hsx : sfx t s) (hk : (nx s).1 = 4) (hbud : n + 2 * s.length ≤ 840)
    (k : ∀ A' F', xWd A' t nm sl u p v G (n + (strL (nx s).2.2.1).length) F' a' pr → xTr F' nm ((nx s).2.2.1.length + 1) n (n + (strL (nx s).2.2.1).length) (strL (nx s).2.2.1) → F'.2.2.2.2.2 (n + (strL (nx s).2.2.1).length - 1) = nI ((nx s).2.2.1.length + 1) → F'.2.2.2.2.1 (n + (strL (nx s).2.2.1).length - 1) = -1 → xA0 F F' n → xSame A A' pL → P (.inl (some (.int (nI (n + (strL (nx s).2.2.1).length - 1))))) (A', g)) : xM1 sc (d + 12) 49 [.ref 25, .int (nI a)] (A, g) P := by
  obtain ⟨hs, hn, ho, ht, hp, h25, hpr⟩ := id hw
  unfold xPa at h25
  have hl := hs.len
  obtain ⟨q1, q2, s', y1, y2, y3⟩ := TA_E hta
  obtain ⟨w0, e0, e1, e2⟩ := nx_str hk
  have hu := ht.1
  have hsl2 := congrArg List.length e0
  rw [List.length_append] at hsl2
  have hk' : (lexT s').1 = 4 := by rw [← y2]; exact hk
  obtain ⟨w1, f1, f2, f3, f4⟩ := lexT_str hk'
  rw [← y2] at f1 f2 f3 f4
  have sx := hsx.trans (lay_sfx y1)
  have dr := sx.drop
  obtain ⟨v1, v2⟩ := y3.2.2.2.2.2.2.1 hk
  have hs'l := congrArg List.length f1
  rw [List.length_append] at hs'l
  have hbt : (t.drop (t.length - s'.length + 1)).take (nx s).2.2.1.length = (nx s).2.2.1 := by
    rw [← List.drop_drop, dr.1]
    exact f4
  unfold xM1
  refine xP_s rfl rfl rfl ?_
  refine xP_get rfl h25 rfl ?_
  refine xP_s rfl rfl rfl ?_
  refine xP_s rfl rfl rfl ?_
  refine xP_cv rfl rfl rfl rfl rfl hp.2.1 (p_addAtom hp (fun hz => ?_) (fun hz A2 x1 x2 => ?_))
  · omega
  · have hw2 := hw.setP x1 x2
    obtain ⟨ys, yn, yo, yt, yp, y25, ypr⟩ := id hw2
    unfold xPa at y25
    have tl : xTr (xAdd F n 2 1 2 (-1) 1) nm 1 n (n + 1) [nilP] := tr_leaf rfl (by decide) ⟨fun _ => rfl, fun h => by simp [nilP] at h, fun h => by simp [nilP] at h, fun _ => rfl⟩ (fun h => by simp [nilP] at h) (fun _ => ⟨1, rfl, rfl, h0.2.1⟩)
    have a0 : xA0 F (xAdd F n 2 1 2 (-1) 1) n := xA0_add F n _ _ _ _ _ (Nat.le_refl _)
    have hdr : (nx s).2.2.1.drop (nx s).2.2.1.length = [] := List.drop_eq_nil_of_le (Nat.le_refl _)
    have go := p_stringLoop2 (sc := sc) (d := d) (g := g) (P := P) h0 f3 q1 v1 (by omega) hbt (by omega) (nx s).2.2.1.length A2 _ (n + 1) a' (nI (nx s).2.2.1.length - 1) (Nat.le_refl _) (nI_sub1 (by omega)) hw2 (by rw [hdr]; rfl) (by rw [hdr]; exact tl) (by rw [hdr]; exact pk_us) pk_us a0 (x2.wide (by decide)) k
    refine xP_s rfl rfl rfl ?_
    refine xP_s rfl rfl rfl ?_
    refine xP_get rfl y25 rfl ?_
    refine xP_s rfl rfl rfl ?_
    refine xP_cv rfl rfl rfl rfl rfl yt.2.1 (p_tsize yt (by omega) ?_)
    rw [if_pos q1, v2]
    repeat' first
      | exact go
      | refine xP_s rfl rfl rfl ?_
end PT
end
