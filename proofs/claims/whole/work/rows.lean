section
-- ===== PART A: goes FIRST, ahead of the names: the tables' words, and 'selects' of the private methods out of them =====
/-- a private method of a class that the tables say can be made, by its rows of tables_1 -/
def lw_okq (q : MethodName × Nat) : Prop := (q.1.cls ≠ "java/lang/invoke/MethodHandle" ∧ q.1.cls ≠ "java/lang/invoke/VarHandle") ∧ Cond.instantiable q.1.cls q.2 ∈ tables_1 ∧ Cond.privateMethod q.1 ∈ tables_1 ∧ Cond.instanceMethod q.1 ∈ tables_1
theorem lw_p0 : lw_okq (⟨"TermReader$Operators", "find", "(ZJ)I"⟩, 4) := ⟨⟨by decide +kernel, by decide +kernel⟩, List.mem_of_getElem? (i := 45) (by decide +kernel), List.mem_of_getElem? (i := 59) (by decide +kernel), List.mem_of_getElem? (i := 60) (by decide +kernel)⟩
theorem lw_p1 : lw_okq (⟨"java/lang/Throwable", "fillInStackTrace", "(I)Ljava/lang/Throwable;"⟩, 6) := ⟨⟨by decide +kernel, by decide +kernel⟩, List.mem_of_getElem? (i := 386) (by decide +kernel), List.mem_of_getElem? (i := 384) (by decide +kernel), List.mem_of_getElem? (i := 385) (by decide +kernel)⟩
theorem lw_p2 : lw_okq (⟨"TermReader$Operators", "isSlot", "(I)Z"⟩, 4) := ⟨⟨by decide +kernel, by decide +kernel⟩, List.mem_of_getElem? (i := 45) (by decide +kernel), List.mem_of_getElem? (i := 420) (by decide +kernel), List.mem_of_getElem? (i := 421) (by decide +kernel)⟩
theorem lw_p3 : lw_okq (⟨"TermReader$Tokens", "skipLayout", "()Z"⟩, 11) := ⟨⟨by decide +kernel, by decide +kernel⟩, List.mem_of_getElem? (i := 177) (by decide +kernel), List.mem_of_getElem? (i := 464) (by decide +kernel), List.mem_of_getElem? (i := 465) (by decide +kernel)⟩
theorem lw_p4 : lw_okq (⟨"TermReader$Tokens", "behindComment", "(I)I"⟩, 11) := ⟨⟨by decide +kernel, by decide +kernel⟩, List.mem_of_getElem? (i := 177) (by decide +kernel), List.mem_of_getElem? (i := 470) (by decide +kernel), List.mem_of_getElem? (i := 471) (by decide +kernel)⟩
theorem lw_p5 : lw_okq (⟨"TermReader$Tokens", "scanToken", "()Z"⟩, 11) := ⟨⟨by decide +kernel, by decide +kernel⟩, List.mem_of_getElem? (i := 177) (by decide +kernel), List.mem_of_getElem? (i := 474) (by decide +kernel), List.mem_of_getElem? (i := 475) (by decide +kernel)⟩
theorem lw_p6 : lw_okq (⟨"TermReader$Tokens", "behindRow", "(Z)I"⟩, 11) := ⟨⟨by decide +kernel, by decide +kernel⟩, List.mem_of_getElem? (i := 177) (by decide +kernel), List.mem_of_getElem? (i := 479) (by decide +kernel), List.mem_of_getElem? (i := 480) (by decide +kernel)⟩
theorem lw_p7 : lw_okq (⟨"TermReader$Tokens", "addPlainName", "(I)Z"⟩, 11) := ⟨⟨by decide +kernel, by decide +kernel⟩, List.mem_of_getElem? (i := 177) (by decide +kernel), List.mem_of_getElem? (i := 494) (by decide +kernel), List.mem_of_getElem? (i := 495) (by decide +kernel)⟩
theorem lw_p8 : lw_okq (⟨"TermReader$Tokens", "addName", "(II)Z"⟩, 11) := ⟨⟨by decide +kernel, by decide +kernel⟩, List.mem_of_getElem? (i := 177) (by decide +kernel), List.mem_of_getElem? (i := 499) (by decide +kernel), List.mem_of_getElem? (i := 500) (by decide +kernel)⟩
theorem lw_p9 : lw_okq (⟨"TermReader$Tokens", "add", "(IIIIJ)Z"⟩, 11) := ⟨⟨by decide +kernel, by decide +kernel⟩, List.mem_of_getElem? (i := 177) (by decide +kernel), List.mem_of_getElem? (i := 507) (by decide +kernel), List.mem_of_getElem? (i := 508) (by decide +kernel)⟩
theorem lw_p10 : lw_okq (⟨"TermReader$Tokens", "addVariable", "(I)Z"⟩, 11) := ⟨⟨by decide +kernel, by decide +kernel⟩, List.mem_of_getElem? (i := 177) (by decide +kernel), List.mem_of_getElem? (i := 512) (by decide +kernel), List.mem_of_getElem? (i := 513) (by decide +kernel)⟩
theorem lw_p11 : lw_okq (⟨"TermReader$Tokens", "variableNumber", "(I)I"⟩, 11) := ⟨⟨by decide +kernel, by decide +kernel⟩, List.mem_of_getElem? (i := 177) (by decide +kernel), List.mem_of_getElem? (i := 516) (by decide +kernel), List.mem_of_getElem? (i := 517) (by decide +kernel)⟩
theorem lw_p12 : lw_okq (⟨"TermReader$Tokens", "isSameText", "(II)Z"⟩, 11) := ⟨⟨by decide +kernel, by decide +kernel⟩, List.mem_of_getElem? (i := 177) (by decide +kernel), List.mem_of_getElem? (i := 520) (by decide +kernel), List.mem_of_getElem? (i := 521) (by decide +kernel)⟩
theorem lw_p13 : lw_okq (⟨"TermReader$Tokens", "addInteger", "(II)Z"⟩, 11) := ⟨⟨by decide +kernel, by decide +kernel⟩, List.mem_of_getElem? (i := 177) (by decide +kernel), List.mem_of_getElem? (i := 525) (by decide +kernel), List.mem_of_getElem? (i := 526) (by decide +kernel)⟩
theorem lw_p14 : lw_okq (⟨"TermReader$Tokens", "addDigits", "(II)Z"⟩, 11) := ⟨⟨by decide +kernel, by decide +kernel⟩, List.mem_of_getElem? (i := 177) (by decide +kernel), List.mem_of_getElem? (i := 532) (by decide +kernel), List.mem_of_getElem? (i := 533) (by decide +kernel)⟩
theorem lw_p15 : lw_okq (⟨"TermReader$Tokens", "isEnd", "(I)Z"⟩, 11) := ⟨⟨by decide +kernel, by decide +kernel⟩, List.mem_of_getElem? (i := 177) (by decide +kernel), List.mem_of_getElem? (i := 537) (by decide +kernel), List.mem_of_getElem? (i := 538) (by decide +kernel)⟩
def lw_privs_1 : List (MethodName × Nat) := [(⟨"TermReader$Operators", "find", "(ZJ)I"⟩, 4), (⟨"java/lang/Throwable", "fillInStackTrace", "(I)Ljava/lang/Throwable;"⟩, 6), (⟨"TermReader$Operators", "isSlot", "(I)Z"⟩, 4), (⟨"TermReader$Tokens", "skipLayout", "()Z"⟩, 11), (⟨"TermReader$Tokens", "behindComment", "(I)I"⟩, 11), (⟨"TermReader$Tokens", "scanToken", "()Z"⟩, 11), (⟨"TermReader$Tokens", "behindRow", "(Z)I"⟩, 11), (⟨"TermReader$Tokens", "addPlainName", "(I)Z"⟩, 11), (⟨"TermReader$Tokens", "addName", "(II)Z"⟩, 11), (⟨"TermReader$Tokens", "add", "(IIIIJ)Z"⟩, 11), (⟨"TermReader$Tokens", "addVariable", "(I)Z"⟩, 11), (⟨"TermReader$Tokens", "variableNumber", "(I)I"⟩, 11), (⟨"TermReader$Tokens", "isSameText", "(II)Z"⟩, 11), (⟨"TermReader$Tokens", "addInteger", "(II)Z"⟩, 11), (⟨"TermReader$Tokens", "addDigits", "(II)Z"⟩, 11), (⟨"TermReader$Tokens", "isEnd", "(I)Z"⟩, 11)]
theorem lw_r1 : ∀ q ∈ lw_privs_1, lw_okq q := List.forall_mem_cons.mpr ⟨lw_p0, List.forall_mem_cons.mpr ⟨lw_p1, List.forall_mem_cons.mpr ⟨lw_p2, List.forall_mem_cons.mpr ⟨lw_p3, List.forall_mem_cons.mpr ⟨lw_p4, List.forall_mem_cons.mpr ⟨lw_p5, List.forall_mem_cons.mpr ⟨lw_p6, List.forall_mem_cons.mpr ⟨lw_p7, List.forall_mem_cons.mpr ⟨lw_p8, List.forall_mem_cons.mpr ⟨lw_p9, List.forall_mem_cons.mpr ⟨lw_p10, List.forall_mem_cons.mpr ⟨lw_p11, List.forall_mem_cons.mpr ⟨lw_p12, List.forall_mem_cons.mpr ⟨lw_p13, List.forall_mem_cons.mpr ⟨lw_p14, List.forall_mem_cons.mpr ⟨lw_p15, fun _ h => absurd h List.not_mem_nil⟩⟩⟩⟩⟩⟩⟩⟩⟩⟩⟩⟩⟩⟩⟩⟩
theorem lw_p16 : lw_okq (⟨"TermReader$Tokens", "addQuotedName", "()Z"⟩, 11) := ⟨⟨by decide +kernel, by decide +kernel⟩, List.mem_of_getElem? (i := 177) (by decide +kernel), List.mem_of_getElem? (i := 541) (by decide +kernel), List.mem_of_getElem? (i := 542) (by decide +kernel)⟩
theorem lw_p17 : lw_okq (⟨"TermReader$Tokens", "addString", "()Z"⟩, 11) := ⟨⟨by decide +kernel, by decide +kernel⟩, List.mem_of_getElem? (i := 177) (by decide +kernel), List.mem_of_getElem? (i := 548) (by decide +kernel), List.mem_of_getElem? (i := 549) (by decide +kernel)⟩
theorem lw_p18 : lw_okq (⟨"TermReader$Tokens", "isToken", "(I)Z"⟩, 11) := ⟨⟨by decide +kernel, by decide +kernel⟩, List.mem_of_getElem? (i := 177) (by decide +kernel), List.mem_of_getElem? (i := 560) (by decide +kernel), List.mem_of_getElem? (i := 561) (by decide +kernel)⟩
theorem lw_p19 : lw_okq (⟨"TermReader$Parser", "term", "(II)I"⟩, 5) := ⟨⟨by decide +kernel, by decide +kernel⟩, List.mem_of_getElem? (i := 217) (by decide +kernel), List.mem_of_getElem? (i := 568) (by decide +kernel), List.mem_of_getElem? (i := 569) (by decide +kernel)⟩
theorem lw_p20 : lw_okq (⟨"TermReader$Parser", "isPrefixed", "(I)Z"⟩, 5) := ⟨⟨by decide +kernel, by decide +kernel⟩, List.mem_of_getElem? (i := 217) (by decide +kernel), List.mem_of_getElem? (i := 572) (by decide +kernel), List.mem_of_getElem? (i := 573) (by decide +kernel)⟩
theorem lw_p21 : lw_okq (⟨"TermReader$Tokens", "isNextTo", "(I)Z"⟩, 11) := ⟨⟨by decide +kernel, by decide +kernel⟩, List.mem_of_getElem? (i := 177) (by decide +kernel), List.mem_of_getElem? (i := 581) (by decide +kernel), List.mem_of_getElem? (i := 582) (by decide +kernel)⟩
theorem lw_p22 : lw_okq (⟨"TermReader$Tokens", "isQuoted", "(I)Z"⟩, 11) := ⟨⟨by decide +kernel, by decide +kernel⟩, List.mem_of_getElem? (i := 177) (by decide +kernel), List.mem_of_getElem? (i := 602) (by decide +kernel), List.mem_of_getElem? (i := 603) (by decide +kernel)⟩
theorem lw_p23 : lw_okq (⟨"TermReader$Parser", "isBareBehind", "(I)Z"⟩, 5) := ⟨⟨by decide +kernel, by decide +kernel⟩, List.mem_of_getElem? (i := 217) (by decide +kernel), List.mem_of_getElem? (i := 619) (by decide +kernel), List.mem_of_getElem? (i := 620) (by decide +kernel)⟩
theorem lw_p24 : lw_okq (⟨"TermReader$Parser", "prefixed", "(I)I"⟩, 5) := ⟨⟨by decide +kernel, by decide +kernel⟩, List.mem_of_getElem? (i := 217) (by decide +kernel), List.mem_of_getElem? (i := 627) (by decide +kernel), List.mem_of_getElem? (i := 628) (by decide +kernel)⟩
theorem lw_p25 : lw_okq (⟨"TermReader$Operators", "type", "(I)I"⟩, 4) := ⟨⟨by decide +kernel, by decide +kernel⟩, List.mem_of_getElem? (i := 45) (by decide +kernel), List.mem_of_getElem? (i := 639) (by decide +kernel), List.mem_of_getElem? (i := 640) (by decide +kernel)⟩
theorem lw_p26 : lw_okq (⟨"TermReader$Parts", "isPart", "(I)Z"⟩, 8) := ⟨⟨by decide +kernel, by decide +kernel⟩, List.mem_of_getElem? (i := 142) (by decide +kernel), List.mem_of_getElem? (i := 657) (by decide +kernel), List.mem_of_getElem? (i := 658) (by decide +kernel)⟩
theorem lw_p27 : lw_okq (⟨"TermReader$Parts", "add", "(IIIII)I"⟩, 8) := ⟨⟨by decide +kernel, by decide +kernel⟩, List.mem_of_getElem? (i := 142) (by decide +kernel), List.mem_of_getElem? (i := 668) (by decide +kernel), List.mem_of_getElem? (i := 669) (by decide +kernel)⟩
theorem lw_p28 : lw_okq (⟨"TermReader$Parser", "rest", "(III)I"⟩, 5) := ⟨⟨by decide +kernel, by decide +kernel⟩, List.mem_of_getElem? (i := 217) (by decide +kernel), List.mem_of_getElem? (i := 672) (by decide +kernel), List.mem_of_getElem? (i := 673) (by decide +kernel)⟩
theorem lw_p29 : lw_okq (⟨"TermReader$Parser", "infixed", "(III)I"⟩, 5) := ⟨⟨by decide +kernel, by decide +kernel⟩, List.mem_of_getElem? (i := 217) (by decide +kernel), List.mem_of_getElem? (i := 684) (by decide +kernel), List.mem_of_getElem? (i := 685) (by decide +kernel)⟩
theorem lw_p30 : lw_okq (⟨"TermReader$Parser", "named", "(III)I"⟩, 5) := ⟨⟨by decide +kernel, by decide +kernel⟩, List.mem_of_getElem? (i := 217) (by decide +kernel), List.mem_of_getElem? (i := 688) (by decide +kernel), List.mem_of_getElem? (i := 689) (by decide +kernel)⟩
theorem lw_p31 : lw_okq (⟨"TermReader$Parser", "postfixed", "(I)I"⟩, 5) := ⟨⟨by decide +kernel, by decide +kernel⟩, List.mem_of_getElem? (i := 217) (by decide +kernel), List.mem_of_getElem? (i := 701) (by decide +kernel), List.mem_of_getElem? (i := 702) (by decide +kernel)⟩
def lw_privs_2 : List (MethodName × Nat) := [(⟨"TermReader$Tokens", "addQuotedName", "()Z"⟩, 11), (⟨"TermReader$Tokens", "addString", "()Z"⟩, 11), (⟨"TermReader$Tokens", "isToken", "(I)Z"⟩, 11), (⟨"TermReader$Parser", "term", "(II)I"⟩, 5), (⟨"TermReader$Parser", "isPrefixed", "(I)Z"⟩, 5), (⟨"TermReader$Tokens", "isNextTo", "(I)Z"⟩, 11), (⟨"TermReader$Tokens", "isQuoted", "(I)Z"⟩, 11), (⟨"TermReader$Parser", "isBareBehind", "(I)Z"⟩, 5), (⟨"TermReader$Parser", "prefixed", "(I)I"⟩, 5), (⟨"TermReader$Operators", "type", "(I)I"⟩, 4), (⟨"TermReader$Parts", "isPart", "(I)Z"⟩, 8), (⟨"TermReader$Parts", "add", "(IIIII)I"⟩, 8), (⟨"TermReader$Parser", "rest", "(III)I"⟩, 5), (⟨"TermReader$Parser", "infixed", "(III)I"⟩, 5), (⟨"TermReader$Parser", "named", "(III)I"⟩, 5), (⟨"TermReader$Parser", "postfixed", "(I)I"⟩, 5)]
theorem lw_r2 : ∀ q ∈ lw_privs_2, lw_okq q := List.forall_mem_cons.mpr ⟨lw_p16, List.forall_mem_cons.mpr ⟨lw_p17, List.forall_mem_cons.mpr ⟨lw_p18, List.forall_mem_cons.mpr ⟨lw_p19, List.forall_mem_cons.mpr ⟨lw_p20, List.forall_mem_cons.mpr ⟨lw_p21, List.forall_mem_cons.mpr ⟨lw_p22, List.forall_mem_cons.mpr ⟨lw_p23, List.forall_mem_cons.mpr ⟨lw_p24, List.forall_mem_cons.mpr ⟨lw_p25, List.forall_mem_cons.mpr ⟨lw_p26, List.forall_mem_cons.mpr ⟨lw_p27, List.forall_mem_cons.mpr ⟨lw_p28, List.forall_mem_cons.mpr ⟨lw_p29, List.forall_mem_cons.mpr ⟨lw_p30, List.forall_mem_cons.mpr ⟨lw_p31, fun _ h => absurd h List.not_mem_nil⟩⟩⟩⟩⟩⟩⟩⟩⟩⟩⟩⟩⟩⟩⟩⟩
theorem lw_p32 : lw_okq (⟨"TermReader$Parser", "unit", "(I)I"⟩, 5) := ⟨⟨by decide +kernel, by decide +kernel⟩, List.mem_of_getElem? (i := 217) (by decide +kernel), List.mem_of_getElem? (i := 705) (by decide +kernel), List.mem_of_getElem? (i := 706) (by decide +kernel)⟩
theorem lw_p33 : lw_okq (⟨"TermReader$Parser", "string", "(I)I"⟩, 5) := ⟨⟨by decide +kernel, by decide +kernel⟩, List.mem_of_getElem? (i := 217) (by decide +kernel), List.mem_of_getElem? (i := 717) (by decide +kernel), List.mem_of_getElem? (i := 718) (by decide +kernel)⟩
theorem lw_p34 : lw_okq (⟨"TermReader$Parser", "name", "(I)I"⟩, 5) := ⟨⟨by decide +kernel, by decide +kernel⟩, List.mem_of_getElem? (i := 217) (by decide +kernel), List.mem_of_getElem? (i := 729) (by decide +kernel), List.mem_of_getElem? (i := 730) (by decide +kernel)⟩
theorem lw_p35 : lw_okq (⟨"TermReader$Parser", "arguments", "(I)I"⟩, 5) := ⟨⟨by decide +kernel, by decide +kernel⟩, List.mem_of_getElem? (i := 217) (by decide +kernel), List.mem_of_getElem? (i := 733) (by decide +kernel), List.mem_of_getElem? (i := 734) (by decide +kernel)⟩
theorem lw_p36 : lw_okq (⟨"TermReader$Parser", "take", "(I)Z"⟩, 5) := ⟨⟨by decide +kernel, by decide +kernel⟩, List.mem_of_getElem? (i := 217) (by decide +kernel), List.mem_of_getElem? (i := 738) (by decide +kernel), List.mem_of_getElem? (i := 739) (by decide +kernel)⟩
theorem lw_p37 : lw_okq (⟨"TermReader$Parser", "enclosed", "(I)I"⟩, 5) := ⟨⟨by decide +kernel, by decide +kernel⟩, List.mem_of_getElem? (i := 217) (by decide +kernel), List.mem_of_getElem? (i := 743) (by decide +kernel), List.mem_of_getElem? (i := 744) (by decide +kernel)⟩
theorem lw_p38 : lw_okq (⟨"TermReader$Parser", "list", "(I)I"⟩, 5) := ⟨⟨by decide +kernel, by decide +kernel⟩, List.mem_of_getElem? (i := 217) (by decide +kernel), List.mem_of_getElem? (i := 747) (by decide +kernel), List.mem_of_getElem? (i := 748) (by decide +kernel)⟩
theorem lw_p39 : lw_okq (⟨"TermReader$Parser", "listed", "(II)I"⟩, 5) := ⟨⟨by decide +kernel, by decide +kernel⟩, List.mem_of_getElem? (i := 217) (by decide +kernel), List.mem_of_getElem? (i := 751) (by decide +kernel), List.mem_of_getElem? (i := 752) (by decide +kernel)⟩
theorem lw_p40 : lw_okq (⟨"TermReader", "isTerm", "(I)Z"⟩, 10) := ⟨⟨by decide +kernel, by decide +kernel⟩, List.mem_of_getElem? (i := 23) (by decide +kernel), List.mem_of_getElem? (i := 796) (by decide +kernel), List.mem_of_getElem? (i := 797) (by decide +kernel)⟩
theorem lw_p41 : lw_okq (⟨"TermReader$Writer", "part", "(III)V"⟩, 4) := ⟨⟨by decide +kernel, by decide +kernel⟩, List.mem_of_getElem? (i := 239) (by decide +kernel), List.mem_of_getElem? (i := 806) (by decide +kernel), List.mem_of_getElem? (i := 807) (by decide +kernel)⟩
theorem lw_p42 : lw_okq (⟨"TermReader$Writer", "integer", "(I)V"⟩, 4) := ⟨⟨by decide +kernel, by decide +kernel⟩, List.mem_of_getElem? (i := 239) (by decide +kernel), List.mem_of_getElem? (i := 819) (by decide +kernel), List.mem_of_getElem? (i := 820) (by decide +kernel)⟩
theorem lw_p43 : lw_okq (⟨"TermReader$Writer", "name", "(I)V"⟩, 4) := ⟨⟨by decide +kernel, by decide +kernel⟩, List.mem_of_getElem? (i := 239) (by decide +kernel), List.mem_of_getElem? (i := 824) (by decide +kernel), List.mem_of_getElem? (i := 825) (by decide +kernel)⟩
theorem lw_p44 : lw_okq (⟨"TermReader$Writer", "isPlain", "(II)Z"⟩, 4) := ⟨⟨by decide +kernel, by decide +kernel⟩, List.mem_of_getElem? (i := 239) (by decide +kernel), List.mem_of_getElem? (i := 832) (by decide +kernel), List.mem_of_getElem? (i := 833) (by decide +kernel)⟩
theorem lw_p45 : lw_okq (⟨"TermReader$Writer", "isRow", "(IIZ)Z"⟩, 4) := ⟨⟨by decide +kernel, by decide +kernel⟩, List.mem_of_getElem? (i := 239) (by decide +kernel), List.mem_of_getElem? (i := 838) (by decide +kernel), List.mem_of_getElem? (i := 839) (by decide +kernel)⟩
theorem lw_p46 : lw_okq (⟨"TermReader$Writer", "compound", "(III)V"⟩, 4) := ⟨⟨by decide +kernel, by decide +kernel⟩, List.mem_of_getElem? (i := 239) (by decide +kernel), List.mem_of_getElem? (i := 847) (by decide +kernel), List.mem_of_getElem? (i := 848) (by decide +kernel)⟩
theorem lw_p47 : lw_okq (⟨"TermReader$Writer", "slotOf", "(I)I"⟩, 4) := ⟨⟨by decide +kernel, by decide +kernel⟩, List.mem_of_getElem? (i := 239) (by decide +kernel), List.mem_of_getElem? (i := 851) (by decide +kernel), List.mem_of_getElem? (i := 852) (by decide +kernel)⟩
def lw_privs_3 : List (MethodName × Nat) := [(⟨"TermReader$Parser", "unit", "(I)I"⟩, 5), (⟨"TermReader$Parser", "string", "(I)I"⟩, 5), (⟨"TermReader$Parser", "name", "(I)I"⟩, 5), (⟨"TermReader$Parser", "arguments", "(I)I"⟩, 5), (⟨"TermReader$Parser", "take", "(I)Z"⟩, 5), (⟨"TermReader$Parser", "enclosed", "(I)I"⟩, 5), (⟨"TermReader$Parser", "list", "(I)I"⟩, 5), (⟨"TermReader$Parser", "listed", "(II)I"⟩, 5), (⟨"TermReader", "isTerm", "(I)Z"⟩, 10), (⟨"TermReader$Writer", "part", "(III)V"⟩, 4), (⟨"TermReader$Writer", "integer", "(I)V"⟩, 4), (⟨"TermReader$Writer", "name", "(I)V"⟩, 4), (⟨"TermReader$Writer", "isPlain", "(II)Z"⟩, 4), (⟨"TermReader$Writer", "isRow", "(IIZ)Z"⟩, 4), (⟨"TermReader$Writer", "compound", "(III)V"⟩, 4), (⟨"TermReader$Writer", "slotOf", "(I)I"⟩, 4)]
theorem lw_r3 : ∀ q ∈ lw_privs_3, lw_okq q := List.forall_mem_cons.mpr ⟨lw_p32, List.forall_mem_cons.mpr ⟨lw_p33, List.forall_mem_cons.mpr ⟨lw_p34, List.forall_mem_cons.mpr ⟨lw_p35, List.forall_mem_cons.mpr ⟨lw_p36, List.forall_mem_cons.mpr ⟨lw_p37, List.forall_mem_cons.mpr ⟨lw_p38, List.forall_mem_cons.mpr ⟨lw_p39, List.forall_mem_cons.mpr ⟨lw_p40, List.forall_mem_cons.mpr ⟨lw_p41, List.forall_mem_cons.mpr ⟨lw_p42, List.forall_mem_cons.mpr ⟨lw_p43, List.forall_mem_cons.mpr ⟨lw_p44, List.forall_mem_cons.mpr ⟨lw_p45, List.forall_mem_cons.mpr ⟨lw_p46, List.forall_mem_cons.mpr ⟨lw_p47, fun _ h => absurd h List.not_mem_nil⟩⟩⟩⟩⟩⟩⟩⟩⟩⟩⟩⟩⟩⟩⟩⟩
theorem lw_p48 : lw_okq (⟨"TermReader$Writer", "bracketed", "(IIII)V"⟩, 4) := ⟨⟨by decide +kernel, by decide +kernel⟩, List.mem_of_getElem? (i := 239) (by decide +kernel), List.mem_of_getElem? (i := 878) (by decide +kernel), List.mem_of_getElem? (i := 879) (by decide +kernel)⟩
theorem lw_p49 : lw_okq (⟨"TermReader$Writer", "operated", "(III)V"⟩, 4) := ⟨⟨by decide +kernel, by decide +kernel⟩, List.mem_of_getElem? (i := 239) (by decide +kernel), List.mem_of_getElem? (i := 883) (by decide +kernel), List.mem_of_getElem? (i := 884) (by decide +kernel)⟩
theorem lw_p50 : lw_okq (⟨"TermReader$Writer", "operand", "(III)V"⟩, 4) := ⟨⟨by decide +kernel, by decide +kernel⟩, List.mem_of_getElem? (i := 239) (by decide +kernel), List.mem_of_getElem? (i := 893) (by decide +kernel), List.mem_of_getElem? (i := 894) (by decide +kernel)⟩
theorem lw_p51 : lw_okq (⟨"TermReader$Writer", "leftMost", "(II)I"⟩, 4) := ⟨⟨by decide +kernel, by decide +kernel⟩, List.mem_of_getElem? (i := 239) (by decide +kernel), List.mem_of_getElem? (i := 903) (by decide +kernel), List.mem_of_getElem? (i := 904) (by decide +kernel)⟩
theorem lw_p52 : lw_okq (⟨"TermReader$Writer", "infixName", "(I)V"⟩, 4) := ⟨⟨by decide +kernel, by decide +kernel⟩, List.mem_of_getElem? (i := 239) (by decide +kernel), List.mem_of_getElem? (i := 909) (by decide +kernel), List.mem_of_getElem? (i := 910) (by decide +kernel)⟩
theorem lw_p53 : lw_okq (⟨"TermReader$Writer", "list", "(II)V"⟩, 4) := ⟨⟨by decide +kernel, by decide +kernel⟩, List.mem_of_getElem? (i := 239) (by decide +kernel), List.mem_of_getElem? (i := 925) (by decide +kernel), List.mem_of_getElem? (i := 926) (by decide +kernel)⟩
theorem lw_p54 : lw_okq (⟨"TermReader$Writer", "arguments", "(II)V"⟩, 4) := ⟨⟨by decide +kernel, by decide +kernel⟩, List.mem_of_getElem? (i := 239) (by decide +kernel), List.mem_of_getElem? (i := 939) (by decide +kernel), List.mem_of_getElem? (i := 940) (by decide +kernel)⟩
theorem lw_p55 : lw_okq (⟨"TermReader$Parts", "same", "(III)Z"⟩, 8) := ⟨⟨by decide +kernel, by decide +kernel⟩, List.mem_of_getElem? (i := 142) (by decide +kernel), List.mem_of_getElem? (i := 951) (by decide +kernel), List.mem_of_getElem? (i := 952) (by decide +kernel)⟩
theorem lw_p56 : lw_okq (⟨"TermReader$Parts", "isSameName", "(II)Z"⟩, 8) := ⟨⟨by decide +kernel, by decide +kernel⟩, List.mem_of_getElem? (i := 142) (by decide +kernel), List.mem_of_getElem? (i := 959) (by decide +kernel), List.mem_of_getElem? (i := 960) (by decide +kernel)⟩
theorem lw_p57 : lw_okq (⟨"TermReaderModel", "tell", "(JII)V"⟩, 44) := ⟨⟨by decide +kernel, by decide +kernel⟩, List.mem_of_getElem? (i := 991) (by decide +kernel), List.mem_of_getElem? (i := 1000) (by decide +kernel), List.mem_of_getElem? (i := 1001) (by decide +kernel)⟩
theorem lw_p58 : lw_okq (⟨"TermReaderModel", "opAt", "(J)I"⟩, 44) := ⟨⟨by decide +kernel, by decide +kernel⟩, List.mem_of_getElem? (i := 991) (by decide +kernel), List.mem_of_getElem? (i := 1004) (by decide +kernel), List.mem_of_getElem? (i := 1005) (by decide +kernel)⟩
theorem lw_p59 : lw_okq (⟨"TermReaderModel", "operators", "()I"⟩, 44) := ⟨⟨by decide +kernel, by decide +kernel⟩, List.mem_of_getElem? (i := 991) (by decide +kernel), List.mem_of_getElem? (i := 1168) (by decide +kernel), List.mem_of_getElem? (i := 1169) (by decide +kernel)⟩
theorem lw_p60 : lw_okq (⟨"TermReaderModel", "enter", "(III)V"⟩, 44) := ⟨⟨by decide +kernel, by decide +kernel⟩, List.mem_of_getElem? (i := 991) (by decide +kernel), List.mem_of_getElem? (i := 1182) (by decide +kernel), List.mem_of_getElem? (i := 1183) (by decide +kernel)⟩
theorem lw_p61 : lw_okq (⟨"TermReaderModel", "begin", "()V"⟩, 44) := ⟨⟨by decide +kernel, by decide +kernel⟩, List.mem_of_getElem? (i := 991) (by decide +kernel), List.mem_of_getElem? (i := 1186) (by decide +kernel), List.mem_of_getElem? (i := 1187) (by decide +kernel)⟩
theorem lw_p62 : lw_okq (⟨"TermReaderModel", "scan", "(I)V"⟩, 44) := ⟨⟨by decide +kernel, by decide +kernel⟩, List.mem_of_getElem? (i := 991) (by decide +kernel), List.mem_of_getElem? (i := 1190) (by decide +kernel), List.mem_of_getElem? (i := 1191) (by decide +kernel)⟩
theorem lw_p63 : lw_okq (⟨"TermReaderModel", "behindLayout", "(I)I"⟩, 44) := ⟨⟨by decide +kernel, by decide +kernel⟩, List.mem_of_getElem? (i := 991) (by decide +kernel), List.mem_of_getElem? (i := 1194) (by decide +kernel), List.mem_of_getElem? (i := 1195) (by decide +kernel)⟩
def lw_privs_4 : List (MethodName × Nat) := [(⟨"TermReader$Writer", "bracketed", "(IIII)V"⟩, 4), (⟨"TermReader$Writer", "operated", "(III)V"⟩, 4), (⟨"TermReader$Writer", "operand", "(III)V"⟩, 4), (⟨"TermReader$Writer", "leftMost", "(II)I"⟩, 4), (⟨"TermReader$Writer", "infixName", "(I)V"⟩, 4), (⟨"TermReader$Writer", "list", "(II)V"⟩, 4), (⟨"TermReader$Writer", "arguments", "(II)V"⟩, 4), (⟨"TermReader$Parts", "same", "(III)Z"⟩, 8), (⟨"TermReader$Parts", "isSameName", "(II)Z"⟩, 8), (⟨"TermReaderModel", "tell", "(JII)V"⟩, 44), (⟨"TermReaderModel", "opAt", "(J)I"⟩, 44), (⟨"TermReaderModel", "operators", "()I"⟩, 44), (⟨"TermReaderModel", "enter", "(III)V"⟩, 44), (⟨"TermReaderModel", "begin", "()V"⟩, 44), (⟨"TermReaderModel", "scan", "(I)V"⟩, 44), (⟨"TermReaderModel", "behindLayout", "(I)I"⟩, 44)]
theorem lw_r4 : ∀ q ∈ lw_privs_4, lw_okq q := List.forall_mem_cons.mpr ⟨lw_p48, List.forall_mem_cons.mpr ⟨lw_p49, List.forall_mem_cons.mpr ⟨lw_p50, List.forall_mem_cons.mpr ⟨lw_p51, List.forall_mem_cons.mpr ⟨lw_p52, List.forall_mem_cons.mpr ⟨lw_p53, List.forall_mem_cons.mpr ⟨lw_p54, List.forall_mem_cons.mpr ⟨lw_p55, List.forall_mem_cons.mpr ⟨lw_p56, List.forall_mem_cons.mpr ⟨lw_p57, List.forall_mem_cons.mpr ⟨lw_p58, List.forall_mem_cons.mpr ⟨lw_p59, List.forall_mem_cons.mpr ⟨lw_p60, List.forall_mem_cons.mpr ⟨lw_p61, List.forall_mem_cons.mpr ⟨lw_p62, List.forall_mem_cons.mpr ⟨lw_p63, fun _ h => absurd h List.not_mem_nil⟩⟩⟩⟩⟩⟩⟩⟩⟩⟩⟩⟩⟩⟩⟩⟩
theorem lw_p64 : lw_okq (⟨"TermReaderModel", "charAt", "(I)I"⟩, 44) := ⟨⟨by decide +kernel, by decide +kernel⟩, List.mem_of_getElem? (i := 991) (by decide +kernel), List.mem_of_getElem? (i := 1198) (by decide +kernel), List.mem_of_getElem? (i := 1199) (by decide +kernel)⟩
theorem lw_p65 : lw_okq (⟨"TermReaderModel", "word", "(I)I"⟩, 44) := ⟨⟨by decide +kernel, by decide +kernel⟩, List.mem_of_getElem? (i := 991) (by decide +kernel), List.mem_of_getElem? (i := 1205) (by decide +kernel), List.mem_of_getElem? (i := 1206) (by decide +kernel)⟩
theorem lw_p66 : lw_okq (⟨"TermReaderModel", "keep", "(I)V"⟩, 44) := ⟨⟨by decide +kernel, by decide +kernel⟩, List.mem_of_getElem? (i := 991) (by decide +kernel), List.mem_of_getElem? (i := 1212) (by decide +kernel), List.mem_of_getElem? (i := 1213) (by decide +kernel)⟩
theorem lw_p67 : lw_okq (⟨"TermReaderModel", "number", "(I)V"⟩, 44) := ⟨⟨by decide +kernel, by decide +kernel⟩, List.mem_of_getElem? (i := 991) (by decide +kernel), List.mem_of_getElem? (i := 1216) (by decide +kernel), List.mem_of_getElem? (i := 1217) (by decide +kernel)⟩
theorem lw_p68 : lw_okq (⟨"TermReaderModel", "signs", "(I)V"⟩, 44) := ⟨⟨by decide +kernel, by decide +kernel⟩, List.mem_of_getElem? (i := 991) (by decide +kernel), List.mem_of_getElem? (i := 1224) (by decide +kernel), List.mem_of_getElem? (i := 1225) (by decide +kernel)⟩
theorem lw_p69 : lw_okq (⟨"TermReaderModel", "quotes", "(II)V"⟩, 44) := ⟨⟨by decide +kernel, by decide +kernel⟩, List.mem_of_getElem? (i := 991) (by decide +kernel), List.mem_of_getElem? (i := 1228) (by decide +kernel), List.mem_of_getElem? (i := 1229) (by decide +kernel)⟩
theorem lw_p70 : lw_okq (⟨"TermReaderModel", "single", "(II)V"⟩, 44) := ⟨⟨by decide +kernel, by decide +kernel⟩, List.mem_of_getElem? (i := 991) (by decide +kernel), List.mem_of_getElem? (i := 1232) (by decide +kernel), List.mem_of_getElem? (i := 1233) (by decide +kernel)⟩
theorem lw_p71 : lw_okq (⟨"TermReaderModel", "add", "(III)I"⟩, 44) := ⟨⟨by decide +kernel, by decide +kernel⟩, List.mem_of_getElem? (i := 991) (by decide +kernel), List.mem_of_getElem? (i := 1236) (by decide +kernel), List.mem_of_getElem? (i := 1237) (by decide +kernel)⟩
theorem lw_p72 : lw_okq (⟨"TermReaderModel", "variable", "()I"⟩, 44) := ⟨⟨by decide +kernel, by decide +kernel⟩, List.mem_of_getElem? (i := 991) (by decide +kernel), List.mem_of_getElem? (i := 1240) (by decide +kernel), List.mem_of_getElem? (i := 1241) (by decide +kernel)⟩
theorem lw_p73 : lw_okq (⟨"TermReaderModel", "intern", "()I"⟩, 44) := ⟨⟨by decide +kernel, by decide +kernel⟩, List.mem_of_getElem? (i := 991) (by decide +kernel), List.mem_of_getElem? (i := 1244) (by decide +kernel), List.mem_of_getElem? (i := 1245) (by decide +kernel)⟩
theorem lw_p74 : lw_okq (⟨"TermReaderModel", "string", "()V"⟩, 44) := ⟨⟨by decide +kernel, by decide +kernel⟩, List.mem_of_getElem? (i := 991) (by decide +kernel), List.mem_of_getElem? (i := 1248) (by decide +kernel), List.mem_of_getElem? (i := 1249) (by decide +kernel)⟩
theorem lw_p75 : lw_okq (⟨"TermReaderModel", "named", "(II)I"⟩, 44) := ⟨⟨by decide +kernel, by decide +kernel⟩, List.mem_of_getElem? (i := 991) (by decide +kernel), List.mem_of_getElem? (i := 1252) (by decide +kernel), List.mem_of_getElem? (i := 1253) (by decide +kernel)⟩
theorem lw_p76 : lw_okq (⟨"TermReaderModel", "nameBegins", "(I)V"⟩, 44) := ⟨⟨by decide +kernel, by decide +kernel⟩, List.mem_of_getElem? (i := 991) (by decide +kernel), List.mem_of_getElem? (i := 1256) (by decide +kernel), List.mem_of_getElem? (i := 1257) (by decide +kernel)⟩
theorem lw_p77 : lw_okq (⟨"TermReaderModel", "key", "()J"⟩, 44) := ⟨⟨by decide +kernel, by decide +kernel⟩, List.mem_of_getElem? (i := 991) (by decide +kernel), List.mem_of_getElem? (i := 1260) (by decide +kernel), List.mem_of_getElem? (i := 1261) (by decide +kernel)⟩
theorem lw_p78 : lw_okq (⟨"TermReaderModel", "prefixOf", "(J)I"⟩, 44) := ⟨⟨by decide +kernel, by decide +kernel⟩, List.mem_of_getElem? (i := 991) (by decide +kernel), List.mem_of_getElem? (i := 1265) (by decide +kernel), List.mem_of_getElem? (i := 1266) (by decide +kernel)⟩
theorem lw_p79 : lw_okq (⟨"TermReaderModel", "infixOf", "(J)I"⟩, 44) := ⟨⟨by decide +kernel, by decide +kernel⟩, List.mem_of_getElem? (i := 991) (by decide +kernel), List.mem_of_getElem? (i := 1269) (by decide +kernel), List.mem_of_getElem? (i := 1270) (by decide +kernel)⟩
def lw_privs_5 : List (MethodName × Nat) := [(⟨"TermReaderModel", "charAt", "(I)I"⟩, 44), (⟨"TermReaderModel", "word", "(I)I"⟩, 44), (⟨"TermReaderModel", "keep", "(I)V"⟩, 44), (⟨"TermReaderModel", "number", "(I)V"⟩, 44), (⟨"TermReaderModel", "signs", "(I)V"⟩, 44), (⟨"TermReaderModel", "quotes", "(II)V"⟩, 44), (⟨"TermReaderModel", "single", "(II)V"⟩, 44), (⟨"TermReaderModel", "add", "(III)I"⟩, 44), (⟨"TermReaderModel", "variable", "()I"⟩, 44), (⟨"TermReaderModel", "intern", "()I"⟩, 44), (⟨"TermReaderModel", "string", "()V"⟩, 44), (⟨"TermReaderModel", "named", "(II)I"⟩, 44), (⟨"TermReaderModel", "nameBegins", "(I)V"⟩, 44), (⟨"TermReaderModel", "key", "()J"⟩, 44), (⟨"TermReaderModel", "prefixOf", "(J)I"⟩, 44), (⟨"TermReaderModel", "infixOf", "(J)I"⟩, 44)]
theorem lw_r5 : ∀ q ∈ lw_privs_5, lw_okq q := List.forall_mem_cons.mpr ⟨lw_p64, List.forall_mem_cons.mpr ⟨lw_p65, List.forall_mem_cons.mpr ⟨lw_p66, List.forall_mem_cons.mpr ⟨lw_p67, List.forall_mem_cons.mpr ⟨lw_p68, List.forall_mem_cons.mpr ⟨lw_p69, List.forall_mem_cons.mpr ⟨lw_p70, List.forall_mem_cons.mpr ⟨lw_p71, List.forall_mem_cons.mpr ⟨lw_p72, List.forall_mem_cons.mpr ⟨lw_p73, List.forall_mem_cons.mpr ⟨lw_p74, List.forall_mem_cons.mpr ⟨lw_p75, List.forall_mem_cons.mpr ⟨lw_p76, List.forall_mem_cons.mpr ⟨lw_p77, List.forall_mem_cons.mpr ⟨lw_p78, List.forall_mem_cons.mpr ⟨lw_p79, fun _ h => absurd h List.not_mem_nil⟩⟩⟩⟩⟩⟩⟩⟩⟩⟩⟩⟩⟩⟩⟩⟩
theorem lw_p80 : lw_okq (⟨"TermReaderModel", "postfixOf", "(J)I"⟩, 44) := ⟨⟨by decide +kernel, by decide +kernel⟩, List.mem_of_getElem? (i := 991) (by decide +kernel), List.mem_of_getElem? (i := 1274) (by decide +kernel), List.mem_of_getElem? (i := 1275) (by decide +kernel)⟩
theorem lw_p81 : lw_okq (⟨"TermReaderModel", "canBegin", "()Z"⟩, 44) := ⟨⟨by decide +kernel, by decide +kernel⟩, List.mem_of_getElem? (i := 991) (by decide +kernel), List.mem_of_getElem? (i := 1278) (by decide +kernel), List.mem_of_getElem? (i := 1279) (by decide +kernel)⟩
theorem lw_p82 : lw_okq (⟨"TermReaderModel", "operandOf", "(J)I"⟩, 44) := ⟨⟨by decide +kernel, by decide +kernel⟩, List.mem_of_getElem? (i := 991) (by decide +kernel), List.mem_of_getElem? (i := 1282) (by decide +kernel), List.mem_of_getElem? (i := 1283) (by decide +kernel)⟩
theorem lw_p83 : lw_okq (⟨"TermReaderModel", "goOn", "()V"⟩, 44) := ⟨⟨by decide +kernel, by decide +kernel⟩, List.mem_of_getElem? (i := 991) (by decide +kernel), List.mem_of_getElem? (i := 1286) (by decide +kernel), List.mem_of_getElem? (i := 1287) (by decide +kernel)⟩
theorem lw_p84 : lw_okq (⟨"TermReaderModel", "leftOf", "(J)I"⟩, 44) := ⟨⟨by decide +kernel, by decide +kernel⟩, List.mem_of_getElem? (i := 991) (by decide +kernel), List.mem_of_getElem? (i := 1290) (by decide +kernel), List.mem_of_getElem? (i := 1291) (by decide +kernel)⟩
theorem lw_p85 : lw_okq (⟨"TermReaderModel", "ahead", "(III)V"⟩, 44) := ⟨⟨by decide +kernel, by decide +kernel⟩, List.mem_of_getElem? (i := 991) (by decide +kernel), List.mem_of_getElem? (i := 1294) (by decide +kernel), List.mem_of_getElem? (i := 1295) (by decide +kernel)⟩
theorem lw_p86 : lw_okq (⟨"TermReaderModel", "rightOf", "(J)I"⟩, 44) := ⟨⟨by decide +kernel, by decide +kernel⟩, List.mem_of_getElem? (i := 991) (by decide +kernel), List.mem_of_getElem? (i := 1298) (by decide +kernel), List.mem_of_getElem? (i := 1299) (by decide +kernel)⟩
theorem lw_p87 : lw_okq (⟨"TermReaderModel", "whole", "(II)V"⟩, 44) := ⟨⟨by decide +kernel, by decide +kernel⟩, List.mem_of_getElem? (i := 991) (by decide +kernel), List.mem_of_getElem? (i := 1302) (by decide +kernel), List.mem_of_getElem? (i := 1303) (by decide +kernel)⟩
theorem lw_p88 : lw_okq (⟨"TermReaderModel", "depthIn", "(II)I"⟩, 44) := ⟨⟨by decide +kernel, by decide +kernel⟩, List.mem_of_getElem? (i := 991) (by decide +kernel), List.mem_of_getElem? (i := 1306) (by decide +kernel), List.mem_of_getElem? (i := 1307) (by decide +kernel)⟩
theorem lw_p89 : lw_okq (⟨"TermReaderModel", "later", "(II)V"⟩, 44) := ⟨⟨by decide +kernel, by decide +kernel⟩, List.mem_of_getElem? (i := 991) (by decide +kernel), List.mem_of_getElem? (i := 1310) (by decide +kernel), List.mem_of_getElem? (i := 1311) (by decide +kernel)⟩
theorem lw_p90 : lw_okq (⟨"TermReaderModel", "refuse", "(I)I"⟩, 44) := ⟨⟨by decide +kernel, by decide +kernel⟩, List.mem_of_getElem? (i := 991) (by decide +kernel), List.mem_of_getElem? (i := 1314) (by decide +kernel), List.mem_of_getElem? (i := 1315) (by decide +kernel)⟩
theorem lw_p91 : lw_okq (⟨"TermReaderModel", "isTerm", "(I)Z"⟩, 44) := ⟨⟨by decide +kernel, by decide +kernel⟩, List.mem_of_getElem? (i := 991) (by decide +kernel), List.mem_of_getElem? (i := 1322) (by decide +kernel), List.mem_of_getElem? (i := 1323) (by decide +kernel)⟩
theorem lw_p92 : lw_okq (⟨"TermReaderModel", "out", "(I)V"⟩, 44) := ⟨⟨by decide +kernel, by decide +kernel⟩, List.mem_of_getElem? (i := 991) (by decide +kernel), List.mem_of_getElem? (i := 1326) (by decide +kernel), List.mem_of_getElem? (i := 1327) (by decide +kernel)⟩
theorem lw_p93 : lw_okq (⟨"TermReaderModel", "name", "(I)V"⟩, 44) := ⟨⟨by decide +kernel, by decide +kernel⟩, List.mem_of_getElem? (i := 991) (by decide +kernel), List.mem_of_getElem? (i := 1330) (by decide +kernel), List.mem_of_getElem? (i := 1331) (by decide +kernel)⟩
theorem lw_p94 : lw_okq (⟨"TermReaderModel", "isPlain", "(I)Z"⟩, 44) := ⟨⟨by decide +kernel, by decide +kernel⟩, List.mem_of_getElem? (i := 991) (by decide +kernel), List.mem_of_getElem? (i := 1334) (by decide +kernel), List.mem_of_getElem? (i := 1335) (by decide +kernel)⟩
theorem lw_p95 : lw_okq (⟨"TermReaderModel", "list", "(I)V"⟩, 44) := ⟨⟨by decide +kernel, by decide +kernel⟩, List.mem_of_getElem? (i := 991) (by decide +kernel), List.mem_of_getElem? (i := 1338) (by decide +kernel), List.mem_of_getElem? (i := 1339) (by decide +kernel)⟩
def lw_privs_6 : List (MethodName × Nat) := [(⟨"TermReaderModel", "postfixOf", "(J)I"⟩, 44), (⟨"TermReaderModel", "canBegin", "()Z"⟩, 44), (⟨"TermReaderModel", "operandOf", "(J)I"⟩, 44), (⟨"TermReaderModel", "goOn", "()V"⟩, 44), (⟨"TermReaderModel", "leftOf", "(J)I"⟩, 44), (⟨"TermReaderModel", "ahead", "(III)V"⟩, 44), (⟨"TermReaderModel", "rightOf", "(J)I"⟩, 44), (⟨"TermReaderModel", "whole", "(II)V"⟩, 44), (⟨"TermReaderModel", "depthIn", "(II)I"⟩, 44), (⟨"TermReaderModel", "later", "(II)V"⟩, 44), (⟨"TermReaderModel", "refuse", "(I)I"⟩, 44), (⟨"TermReaderModel", "isTerm", "(I)Z"⟩, 44), (⟨"TermReaderModel", "out", "(I)V"⟩, 44), (⟨"TermReaderModel", "name", "(I)V"⟩, 44), (⟨"TermReaderModel", "isPlain", "(I)Z"⟩, 44), (⟨"TermReaderModel", "list", "(I)V"⟩, 44)]
theorem lw_r6 : ∀ q ∈ lw_privs_6, lw_okq q := List.forall_mem_cons.mpr ⟨lw_p80, List.forall_mem_cons.mpr ⟨lw_p81, List.forall_mem_cons.mpr ⟨lw_p82, List.forall_mem_cons.mpr ⟨lw_p83, List.forall_mem_cons.mpr ⟨lw_p84, List.forall_mem_cons.mpr ⟨lw_p85, List.forall_mem_cons.mpr ⟨lw_p86, List.forall_mem_cons.mpr ⟨lw_p87, List.forall_mem_cons.mpr ⟨lw_p88, List.forall_mem_cons.mpr ⟨lw_p89, List.forall_mem_cons.mpr ⟨lw_p90, List.forall_mem_cons.mpr ⟨lw_p91, List.forall_mem_cons.mpr ⟨lw_p92, List.forall_mem_cons.mpr ⟨lw_p93, List.forall_mem_cons.mpr ⟨lw_p94, List.forall_mem_cons.mpr ⟨lw_p95, fun _ h => absurd h List.not_mem_nil⟩⟩⟩⟩⟩⟩⟩⟩⟩⟩⟩⟩⟩⟩⟩⟩
theorem lw_p96 : lw_okq (⟨"TermReaderModel", "skip", "(I)I"⟩, 44) := ⟨⟨by decide +kernel, by decide +kernel⟩, List.mem_of_getElem? (i := 991) (by decide +kernel), List.mem_of_getElem? (i := 1342) (by decide +kernel), List.mem_of_getElem? (i := 1343) (by decide +kernel)⟩
theorem lw_p97 : lw_okq (⟨"TermReaderModel", "isNamed", "(IIII)Z"⟩, 44) := ⟨⟨by decide +kernel, by decide +kernel⟩, List.mem_of_getElem? (i := 991) (by decide +kernel), List.mem_of_getElem? (i := 1346) (by decide +kernel), List.mem_of_getElem? (i := 1347) (by decide +kernel)⟩
theorem lw_p98 : lw_okq (⟨"TermReaderModel", "part", "(II)V"⟩, 44) := ⟨⟨by decide +kernel, by decide +kernel⟩, List.mem_of_getElem? (i := 991) (by decide +kernel), List.mem_of_getElem? (i := 1350) (by decide +kernel), List.mem_of_getElem? (i := 1351) (by decide +kernel)⟩
theorem lw_p99 : lw_okq (⟨"TermReaderModel", "priorityOf", "(I)I"⟩, 44) := ⟨⟨by decide +kernel, by decide +kernel⟩, List.mem_of_getElem? (i := 991) (by decide +kernel), List.mem_of_getElem? (i := 1354) (by decide +kernel), List.mem_of_getElem? (i := 1355) (by decide +kernel)⟩
theorem lw_p100 : lw_okq (⟨"TermReaderModel", "keyOf", "(I)J"⟩, 44) := ⟨⟨by decide +kernel, by decide +kernel⟩, List.mem_of_getElem? (i := 991) (by decide +kernel), List.mem_of_getElem? (i := 1358) (by decide +kernel), List.mem_of_getElem? (i := 1359) (by decide +kernel)⟩
theorem lw_p101 : lw_okq (⟨"TermReaderModel", "isOperator", "(I)Z"⟩, 44) := ⟨⟨by decide +kernel, by decide +kernel⟩, List.mem_of_getElem? (i := 991) (by decide +kernel), List.mem_of_getElem? (i := 1362) (by decide +kernel), List.mem_of_getElem? (i := 1363) (by decide +kernel)⟩
theorem lw_p102 : lw_okq (⟨"TermReaderModel", "digits", "(J)V"⟩, 44) := ⟨⟨by decide +kernel, by decide +kernel⟩, List.mem_of_getElem? (i := 991) (by decide +kernel), List.mem_of_getElem? (i := 1366) (by decide +kernel), List.mem_of_getElem? (i := 1367) (by decide +kernel)⟩
theorem lw_p103 : lw_okq (⟨"TermReaderModel", "operated", "(I)V"⟩, 44) := ⟨⟨by decide +kernel, by decide +kernel⟩, List.mem_of_getElem? (i := 991) (by decide +kernel), List.mem_of_getElem? (i := 1372) (by decide +kernel), List.mem_of_getElem? (i := 1373) (by decide +kernel)⟩
theorem lw_p104 : lw_okq (⟨"TermReaderModel", "takesOn", "(II)Z"⟩, 44) := ⟨⟨by decide +kernel, by decide +kernel⟩, List.mem_of_getElem? (i := 991) (by decide +kernel), List.mem_of_getElem? (i := 1376) (by decide +kernel), List.mem_of_getElem? (i := 1377) (by decide +kernel)⟩
theorem lw_p105 : lw_okq (⟨"TermReaderModel", "leftUpTo", "(J)I"⟩, 44) := ⟨⟨by decide +kernel, by decide +kernel⟩, List.mem_of_getElem? (i := 991) (by decide +kernel), List.mem_of_getElem? (i := 1380) (by decide +kernel), List.mem_of_getElem? (i := 1381) (by decide +kernel)⟩
theorem lw_p106 : lw_okq (⟨"TermReaderModel", "plainly", "(I)V"⟩, 44) := ⟨⟨by decide +kernel, by decide +kernel⟩, List.mem_of_getElem? (i := 991) (by decide +kernel), List.mem_of_getElem? (i := 1384) (by decide +kernel), List.mem_of_getElem? (i := 1385) (by decide +kernel)⟩
def lw_privs_7 : List (MethodName × Nat) := [(⟨"TermReaderModel", "skip", "(I)I"⟩, 44), (⟨"TermReaderModel", "isNamed", "(IIII)Z"⟩, 44), (⟨"TermReaderModel", "part", "(II)V"⟩, 44), (⟨"TermReaderModel", "priorityOf", "(I)I"⟩, 44), (⟨"TermReaderModel", "keyOf", "(I)J"⟩, 44), (⟨"TermReaderModel", "isOperator", "(I)Z"⟩, 44), (⟨"TermReaderModel", "digits", "(J)V"⟩, 44), (⟨"TermReaderModel", "operated", "(I)V"⟩, 44), (⟨"TermReaderModel", "takesOn", "(II)Z"⟩, 44), (⟨"TermReaderModel", "leftUpTo", "(J)I"⟩, 44), (⟨"TermReaderModel", "plainly", "(I)V"⟩, 44)]
theorem lw_r7 : ∀ q ∈ lw_privs_7, lw_okq q := List.forall_mem_cons.mpr ⟨lw_p96, List.forall_mem_cons.mpr ⟨lw_p97, List.forall_mem_cons.mpr ⟨lw_p98, List.forall_mem_cons.mpr ⟨lw_p99, List.forall_mem_cons.mpr ⟨lw_p100, List.forall_mem_cons.mpr ⟨lw_p101, List.forall_mem_cons.mpr ⟨lw_p102, List.forall_mem_cons.mpr ⟨lw_p103, List.forall_mem_cons.mpr ⟨lw_p104, List.forall_mem_cons.mpr ⟨lw_p105, List.forall_mem_cons.mpr ⟨lw_p106, fun _ h => absurd h List.not_mem_nil⟩⟩⟩⟩⟩⟩⟩⟩⟩⟩⟩
def lw_privs : List (MethodName × Nat) := lw_privs_1 ++ (lw_privs_2 ++ (lw_privs_3 ++ (lw_privs_4 ++ (lw_privs_5 ++ (lw_privs_6 ++ (lw_privs_7))))))
def lw_tbl : List Cond := k2_sels lw_privs ++ tables_1
theorem lw_privs_ok : ∀ q ∈ lw_privs, lw_okq q := by
  show ∀ q ∈ lw_privs_1 ++ (lw_privs_2 ++ (lw_privs_3 ++ (lw_privs_4 ++ (lw_privs_5 ++ (lw_privs_6 ++ (lw_privs_7)))))), lw_okq q
  exact List.forall_mem_append.mpr ⟨lw_r1, List.forall_mem_append.mpr ⟨lw_r2, List.forall_mem_append.mpr ⟨lw_r3, List.forall_mem_append.mpr ⟨lw_r4, List.forall_mem_append.mpr ⟨lw_r5, List.forall_mem_append.mpr ⟨lw_r6, lw_r7⟩⟩⟩⟩⟩⟩
end
section
-- printed by wip/gen.py: classes, methods, rows of code
abbrev xRow : Type := Instr × Nat × Nat × Nat × Nat × Int32 × Int64 × List (Int32 × Nat)
abbrev xz : Option xRow := none
abbrev xq (i : Instr) (n : Nat) : Option xRow := some (i, n, 0, 0, 0, 0, 0, [])
abbrev xqv (i : Instr) (n : Nat) (v : Int32) : Option xRow := some (i, n, 0, 0, 0, v, 0, [])
abbrev xqa (i : Instr) (n a : Nat) : Option xRow := some (i, n, a, 0, 0, 0, 0, [])
abbrev xqc (i : Instr) (n a b c : Nat) : Option xRow := some (i, n, a, b, c, 0, 0, [])
abbrev xqk (i : Instr) (n a b c : Nat) (k : Int64) : Option xRow := some (i, n, a, b, c, 0, k, [])
abbrev xqs (i : Instr) (n a : Nat) (s : List (Int32 × Nat)) : Option xRow := some (i, n, a, 0, 0, 0, 0, s)
def xT_0 : u_T := fun k => match k with
  | 0 => ("TermReader", "source", "LTermReader$CharRow;", true)
  | 1 => ("TermReader", "output", "LTermReader$CharRow;", true)
  | 2 => ("TermReader", "names", "LTermReader$CharRow;", true)
  | 3 => ("TermReader", "operators", "LTermReader$Operators;", true)
  | 4 => ("TermReader", "parts", "LTermReader$Parts;", true)
  | 5 => ("TermReader", "tokens", "LTermReader$Tokens;", true)
  | 6 => ("TermReader", "parser", "LTermReader$Parser;", true)
  | 7 => ("TermReader", "writer", "LTermReader$Writer;", true)
  | 8 => ("TermReader", "roots", "[I", true)
  | _ => ("TermReader", "rootsUsed", "I", false)
def xT_1 : u_T := fun k => match k with
  | 0 => ("TermReader$CharRow", "row", "[C", true)
  | _ => ("TermReader$CharRow", "length", "I", false)
def xT_2 : u_T := fun k => match k with
  | 0 => ("TermReader$Operators", "keys", "[J", true)
  | 1 => ("TermReader$Operators", "priorities", "[I", true)
  | 2 => ("TermReader$Operators", "types", "[I", true)
  | _ => ("TermReader$Operators", "used", "I", false)
def xT_3 : u_T := fun k => match k with
  | 0 => ("TermReader$Parser", "tokens", "LTermReader$Tokens;", true)
  | 1 => ("TermReader$Parser", "operators", "LTermReader$Operators;", true)
  | 2 => ("TermReader$Parser", "parts", "LTermReader$Parts;", true)
  | 3 => ("TermReader$Parser", "at", "I", false)
  | _ => ("TermReader$Parser", "priority", "I", false)
def xT_4 : u_T := fun k => match k with
  | 0 => ("TermReader$Parts", "names", "LTermReader$CharRow;", true)
  | 1 => ("TermReader$Parts", "kinds", "[I", true)
  | 2 => ("TermReader$Parts", "values", "[I", true)
  | 3 => ("TermReader$Parts", "nameSizes", "[I", true)
  | 4 => ("TermReader$Parts", "firsts", "[I", true)
  | 5 => ("TermReader$Parts", "nexts", "[I", true)
  | 6 => ("TermReader$Parts", "depths", "[I", true)
  | _ => ("TermReader$Parts", "used", "I", false)
def xT_5 : u_T := fun k => match k with
  | 0 => ("TermReader$Tokens", "source", "LTermReader$CharRow;", true)
  | 1 => ("TermReader$Tokens", "names", "LTermReader$CharRow;", true)
  | 2 => ("TermReader$Tokens", "kinds", "[I", true)
  | 3 => ("TermReader$Tokens", "starts", "[I", true)
  | 4 => ("TermReader$Tokens", "ends", "[I", true)
  | 5 => ("TermReader$Tokens", "values", "[I", true)
  | 6 => ("TermReader$Tokens", "sizes", "[I", true)
  | 7 => ("TermReader$Tokens", "keys", "[J", true)
  | 8 => ("TermReader$Tokens", "used", "I", false)
  | 9 => ("TermReader$Tokens", "position", "I", false)
  | _ => ("TermReader$Tokens", "variables", "I", false)
def xT_6 : u_T := fun k => match k with
  | 0 => ("TermReader$Writer", "output", "LTermReader$CharRow;", true)
  | 1 => ("TermReader$Writer", "names", "LTermReader$CharRow;", true)
  | 2 => ("TermReader$Writer", "operators", "LTermReader$Operators;", true)
  | _ => ("TermReader$Writer", "parts", "LTermReader$Parts;", true)
def xT_7 : u_T := fun k => match k with
  | 0 => ("TermReaderModel", "code", "I", false)
  | 1 => ("TermReaderModel", "length", "I", false)
  | 2 => ("TermReaderModel", "text", "[I", true)
  | 3 => ("TermReaderModel", "named", "I", false)
  | 4 => ("TermReaderModel", "opName", "[J", true)
  | 5 => ("TermReaderModel", "prefix", "[I", true)
  | 6 => ("TermReaderModel", "prefixType", "[I", true)
  | 7 => ("TermReaderModel", "other", "[I", true)
  | 8 => ("TermReaderModel", "otherType", "[I", true)
  | 9 => ("TermReaderModel", "names", "I", false)
  | 10 => ("TermReaderModel", "nameStart", "[I", true)
  | 11 => ("TermReaderModel", "nameLength", "[I", true)
  | 12 => ("TermReaderModel", "used", "I", false)
  | 13 => ("TermReaderModel", "letters", "[I", true)
  | 14 => ("TermReaderModel", "terms", "I", false)
  | 15 => ("TermReaderModel", "start", "[I", true)
  | 16 => ("TermReaderModel", "parts", "I", false)
  | 17 => ("TermReaderModel", "kind", "[I", true)
  | 18 => ("TermReaderModel", "value", "[I", true)
  | 19 => ("TermReaderModel", "many", "[I", true)
  | 20 => ("TermReaderModel", "token", "I", false)
  | 21 => ("TermReaderModel", "begins", "I", false)
  | 22 => ("TermReaderModel", "ends", "I", false)
  | 23 => ("TermReaderModel", "worth", "I", false)
  | 24 => ("TermReaderModel", "quoted", "Z", false)
  | 25 => ("TermReaderModel", "held", "I", false)
  | 26 => ("TermReaderModel", "hold", "[I", true)
  | 27 => ("TermReaderModel", "at", "I", false)
  | 28 => ("TermReaderModel", "bad", "Z", false)
  | 29 => ("TermReaderModel", "open", "I", false)
  | 30 => ("TermReaderModel", "most", "[I", true)
  | 31 => ("TermReaderModel", "row", "[I", true)
  | 32 => ("TermReaderModel", "left", "[I", true)
  | 33 => ("TermReaderModel", "purpose", "[I", true)
  | 34 => ("TermReaderModel", "owner", "[I", true)
  | 35 => ("TermReaderModel", "variables", "I", false)
  | 36 => ("TermReaderModel", "variableName", "[I", true)
  | 37 => ("TermReaderModel", "pile", "I", false)
  | 38 => ("TermReaderModel", "item", "[I", true)
  | 39 => ("TermReaderModel", "place", "[I", true)
  | 40 => ("TermReaderModel", "shown", "I", false)
  | 41 => ("TermReaderModel", "show", "[I", true)
  | 42 => ("TermReaderModel", "wrote", "I", false)
  | _ => ("TermReaderModel", "written", "[I", true)
abbrev xCl : List vw_C := [("TermReader", xT_0, 10), ("TermReader$CharRow", xT_1, 2), ("TermReader$Operators", xT_2, 4), ("TermReader$Parser", xT_3, 5), ("TermReader$Parts", xT_4, 8), ("TermReader$Tokens", xT_5, 11), ("TermReader$Writer", xT_6, 4), ("TermReaderModel", xT_7, 44)]
def xty_0 : List FieldType := [.object "TermReader$CharRow", .object "TermReader$CharRow", .object "TermReader$CharRow", .object "TermReader$Operators", .object "TermReader$Parts", .object "TermReader$Tokens", .object "TermReader$Parser", .object "TermReader$Writer", .array .int, .int]
def xdf_0 : List Value := [.null, .null, .null, .null, .null, .null, .null, .null, .null, .int 0]
def xty_1 : List FieldType := [.array .char, .int]
def xdf_1 : List Value := [.null, .int 0]
def xty_2 : List FieldType := [.array .long, .array .int, .array .int, .int]
def xdf_2 : List Value := [.null, .null, .null, .int 0]
def xty_3 : List FieldType := [.object "TermReader$Tokens", .object "TermReader$Operators", .object "TermReader$Parts", .int, .int]
def xdf_3 : List Value := [.null, .null, .null, .int 0, .int 0]
def xty_4 : List FieldType := [.object "TermReader$CharRow", .array .int, .array .int, .array .int, .array .int, .array .int, .array .int, .int]
def xdf_4 : List Value := [.null, .null, .null, .null, .null, .null, .null, .int 0]
def xty_5 : List FieldType := [.object "TermReader$CharRow", .object "TermReader$CharRow", .array .int, .array .int, .array .int, .array .int, .array .int, .array .long, .int, .int, .int]
def xdf_5 : List Value := [.null, .null, .null, .null, .null, .null, .null, .null, .int 0, .int 0, .int 0]
def xty_6 : List FieldType := [.object "TermReader$CharRow", .object "TermReader$CharRow", .object "TermReader$Operators", .object "TermReader$Parts"]
def xdf_6 : List Value := [.null, .null, .null, .null]
def xty_7 : List FieldType := [.int, .int, .array .int, .int, .array .long, .array .int, .array .int, .array .int, .array .int, .int, .array .int, .array .int, .int, .array .int, .int, .array .int, .int, .array .int, .array .int, .array .int, .int, .int, .int, .int, .boolean, .int, .array .int, .int, .boolean, .int, .array .int, .array .int, .array .int, .array .int, .array .int, .int, .array .int, .int, .array .int, .array .int, .int, .array .int, .int, .array .int]
def xdf_7 : List Value := [.int 0, .int 0, .null, .int 0, .null, .null, .null, .null, .null, .int 0, .null, .null, .int 0, .null, .int 0, .null, .int 0, .null, .null, .null, .int 0, .int 0, .int 0, .int 0, .int 0, .int 0, .null, .int 0, .int 0, .int 0, .null, .null, .null, .null, .null, .int 0, .null, .int 0, .null, .null, .int 0, .null, .int 0, .null]
def xtys : List (List FieldType) := [xty_0, xty_1, xty_2, xty_3, xty_4, xty_5, xty_6, xty_7]
def xdfs : List (List Value) := [xdf_0, xdf_1, xdf_2, xdf_3, xdf_4, xdf_5, xdf_6, xdf_7]
abbrev xM : Type := MethodName × ByteArray × Nat × Option FieldType × Nat × Nat × Nat × Nat × Nat
def xm_0 : xM := (⟨"TermReader", "<init>", "()V"⟩, prog_1_method_1_code, 1, (Option.none : Option FieldType), 0, 133, 132, 0, 108)
def xm_1 : xM := (⟨"TermReader", "text", "(J)Z"⟩, prog_1_method_2_code, 5, (Option.some FieldType.boolean), 0, 398, 396, 397, 108)
def xm_2 : xM := (⟨"TermReader", "op", "(IIJ)V"⟩, prog_1_method_3_code, 7, (Option.none : Option FieldType), 0, 439, 437, 438, 108)
def xm_3 : xM := (⟨"TermReader", "read", "()I"⟩, prog_1_method_4_code, 4, (Option.some FieldType.int), 0, 561, 559, 560, 108)
def xm_4 : xM := (⟨"TermReader", "write", "(I)I"⟩, prog_1_method_5_code, 2, (Option.some FieldType.int), 0, 901, 899, 900, 108)
def xm_5 : xM := (⟨"TermReader", "written", "(I)I"⟩, prog_1_method_6_code, 2, (Option.some FieldType.int), 0, 418, 416, 417, 108)
def xm_6 : xM := (⟨"TermReader", "again", "()Z"⟩, prog_1_method_7_code, 3, (Option.some FieldType.boolean), 0, 426, 424, 425, 108)
def xm_7 : xM := (⟨"TermReader", "alike", "(II)Z"⟩, prog_1_method_8_code, 3, (Option.some FieldType.boolean), 0, 1056, 1054, 1055, 108)
def xm_8 : xM := (⟨"TermReader", "look", "(II)I"⟩, prog_1_method_9_code, 4, (Option.some FieldType.int), 0, 1077, 1075, 1076, 108)
def xm_9 : xM := (⟨"TermReader", "count", "(I)I"⟩, prog_1_method_10_code, 2, (Option.some FieldType.int), 0, 1091, 1089, 1090, 108)
def xm_10 : xM := (⟨"TermReader", "isTerm", "(I)Z"⟩, prog_1_method_11_code, 2, (Option.some FieldType.boolean), 0, 905, 904, 40, 108)
def xm_11 : xM := (⟨"TermReader$CharRow", "<init>", "(I)V"⟩, prog_2_method_1_code, 2, (Option.none : Option FieldType), 1, 141, 140, 0, 109)
def xm_12 : xM := (⟨"TermReader$CharRow", "length", "()I"⟩, prog_2_method_2_code, 1, (Option.some FieldType.int), 1, 409, 407, 408, 109)
def xm_13 : xM := (⟨"TermReader$CharRow", "at", "(I)I"⟩, prog_2_method_3_code, 2, (Option.some FieldType.int), 1, 422, 420, 421, 109)
def xm_14 : xM := (⟨"TermReader$CharRow", "add", "(I)V"⟩, prog_2_method_4_code, 2, (Option.none : Option FieldType), 1, 257, 255, 256, 109)
def xm_15 : xM := (⟨"TermReader$CharRow", "cut", "(I)V"⟩, prog_2_method_5_code, 2, (Option.none : Option FieldType), 1, 430, 428, 429, 109)
def xm_16 : xM := (⟨"TermReader$CharRow", "dropFirst", "(I)V"⟩, prog_2_method_6_code, 4, (Option.none : Option FieldType), 1, 894, 892, 893, 109)
def xm_17 : xM := (⟨"TermReader$Operators", "<init>", "()V"⟩, prog_4_method_1_code, 1, (Option.none : Option FieldType), 2, 155, 154, 0, 110)
def xm_18 : xM := (⟨"TermReader$Operators", "told", "()I"⟩, prog_4_method_2_code, 1, (Option.some FieldType.int), 2, 1095, 1093, 1094, 110)
def xm_19 : xM := (⟨"TermReader$Operators", "isPrefixType", "(I)Z"⟩, prog_4_method_3_code, 1, (Option.some FieldType.boolean), 99, 164, 163, 0, 110)
def xm_20 : xM := (⟨"TermReader$Operators", "isPostfixType", "(I)Z"⟩, prog_4_method_4_code, 1, (Option.some FieldType.boolean), 99, 536, 535, 0, 110)
def xm_21 : xM := (⟨"TermReader$Operators", "isSlot", "(I)Z"⟩, prog_4_method_5_code, 2, (Option.some FieldType.boolean), 2, 529, 528, 2, 110)
def xm_22 : xM := (⟨"TermReader$Operators", "find", "(ZJ)I"⟩, prog_4_method_6_code, 5, (Option.some FieldType.int), 2, 168, 167, 0, 110)
def xm_23 : xM := (⟨"TermReader$Operators", "prefix", "(J)I"⟩, prog_4_method_7_code, 3, (Option.some FieldType.int), 2, 716, 714, 715, 110)
def xm_24 : xM := (⟨"TermReader$Operators", "behind", "(J)I"⟩, prog_4_method_8_code, 3, (Option.some FieldType.int), 2, 732, 730, 731, 110)
def xm_25 : xM := (⟨"TermReader$Operators", "isOperator", "(J)Z"⟩, prog_4_method_9_code, 3, (Option.some FieldType.boolean), 2, 1006, 1004, 1005, 110)
def xm_26 : xM := (⟨"TermReader$Operators", "canTell", "(IJ)Z"⟩, prog_4_method_10_code, 5, (Option.some FieldType.boolean), 2, 533, 531, 532, 110)
def xm_27 : xM := (⟨"TermReader$Operators", "tell", "(IIJ)V"⟩, prog_4_method_11_code, 7, (Option.none : Option FieldType), 2, 161, 159, 160, 110)
def xm_28 : xM := (⟨"TermReader$Operators", "takeBack", "(IJ)V"⟩, prog_4_method_12_code, 6, (Option.none : Option FieldType), 2, 525, 523, 524, 110)
def xm_29 : xM := (⟨"TermReader$Operators", "priority", "(I)I"⟩, prog_4_method_13_code, 2, (Option.some FieldType.int), 2, 720, 718, 719, 110)
def xm_30 : xM := (⟨"TermReader$Operators", "type", "(I)I"⟩, prog_4_method_14_code, 2, (Option.some FieldType.int), 2, 748, 747, 25, 110)
def xm_31 : xM := (⟨"TermReader$Operators", "isPrefix", "(I)Z"⟩, prog_4_method_15_code, 2, (Option.some FieldType.boolean), 2, 997, 995, 996, 110)
def xm_32 : xM := (⟨"TermReader$Operators", "isPostfix", "(I)Z"⟩, prog_4_method_16_code, 2, (Option.some FieldType.boolean), 2, 982, 980, 981, 110)
def xm_33 : xM := (⟨"TermReader$Operators", "isInfix", "(I)Z"⟩, prog_4_method_17_code, 3, (Option.some FieldType.boolean), 2, 789, 787, 788, 110)
def xm_34 : xM := (⟨"TermReader$Operators", "isOpenBehind", "(I)Z"⟩, prog_4_method_18_code, 2, (Option.some FieldType.boolean), 2, 744, 742, 743, 110)
def xm_35 : xM := (⟨"TermReader$Operators", "leftMost", "(I)I"⟩, prog_4_method_19_code, 2, (Option.some FieldType.int), 2, 785, 783, 784, 110)
def xm_36 : xM := (⟨"TermReader$Operators", "rightMost", "(I)I"⟩, prog_4_method_20_code, 2, (Option.some FieldType.int), 2, 740, 738, 739, 110)
def xm_37 : xM := (⟨"TermReader$Parser", "<init>", "(LTermReader$Tokens;LTermReader$Operators;LTermReader$Parts;)V"⟩, prog_6_method_1_code, 4, (Option.none : Option FieldType), 3, 327, 326, 0, 118)
def xm_38 : xM := (⟨"TermReader$Parser", "whole", "()I"⟩, prog_6_method_2_code, 2, (Option.some FieldType.int), 3, 673, 671, 672, 118)
def xm_39 : xM := (⟨"TermReader$Parser", "end", "()I"⟩, prog_6_method_3_code, 1, (Option.some FieldType.int), 3, 886, 884, 885, 118)
def xm_40 : xM := (⟨"TermReader$Parser", "term", "(II)I"⟩, prog_6_method_4_code, 4, (Option.some FieldType.int), 3, 677, 676, 19, 118)
def xm_41 : xM := (⟨"TermReader$Parser", "isPrefixed", "(I)Z"⟩, prog_6_method_5_code, 3, (Option.some FieldType.boolean), 3, 681, 680, 20, 118)
def xm_42 : xM := (⟨"TermReader$Parser", "isBareBehind", "(I)Z"⟩, prog_6_method_6_code, 4, (Option.some FieldType.boolean), 3, 728, 727, 23, 118)
def xm_43 : xM := (⟨"TermReader$Parser", "prefixed", "(I)I"⟩, prog_6_method_7_code, 5, (Option.some FieldType.int), 3, 736, 735, 24, 118)
def xm_44 : xM := (⟨"TermReader$Parser", "rest", "(III)I"⟩, prog_6_method_8_code, 8, (Option.some FieldType.int), 3, 781, 780, 28, 118)
def xm_45 : xM := (⟨"TermReader$Parser", "infixed", "(III)I"⟩, prog_6_method_9_code, 6, (Option.some FieldType.int), 3, 793, 792, 29, 118)
def xm_46 : xM := (⟨"TermReader$Parser", "named", "(III)I"⟩, prog_6_method_10_code, 4, (Option.some FieldType.int), 3, 797, 796, 30, 118)
def xm_47 : xM := (⟨"TermReader$Parser", "postfixed", "(I)I"⟩, prog_6_method_11_code, 3, (Option.some FieldType.int), 3, 810, 809, 31, 118)
def xm_48 : xM := (⟨"TermReader$Parser", "unit", "(I)I"⟩, prog_6_method_12_code, 3, (Option.some FieldType.int), 3, 814, 813, 32, 118)
def xm_49 : xM := (⟨"TermReader$Parser", "string", "(I)I"⟩, prog_6_method_13_code, 5, (Option.some FieldType.int), 3, 826, 825, 33, 118)
def xm_50 : xM := (⟨"TermReader$Parser", "name", "(I)I"⟩, prog_6_method_14_code, 3, (Option.some FieldType.int), 3, 838, 837, 34, 118)
def xm_51 : xM := (⟨"TermReader$Parser", "arguments", "(I)I"⟩, prog_6_method_15_code, 6, (Option.some FieldType.int), 3, 842, 841, 35, 118)
def xm_52 : xM := (⟨"TermReader$Parser", "take", "(I)Z"⟩, prog_6_method_16_code, 2, (Option.some FieldType.boolean), 3, 847, 846, 36, 118)
def xm_53 : xM := (⟨"TermReader$Parser", "enclosed", "(I)I"⟩, prog_6_method_17_code, 3, (Option.some FieldType.int), 3, 852, 851, 37, 118)
def xm_54 : xM := (⟨"TermReader$Parser", "list", "(I)I"⟩, prog_6_method_18_code, 5, (Option.some FieldType.int), 3, 856, 855, 38, 118)
def xm_55 : xM := (⟨"TermReader$Parser", "listed", "(II)I"⟩, prog_6_method_19_code, 7, (Option.some FieldType.int), 3, 860, 859, 39, 118)
def xm_56 : xM := (⟨"TermReader$Parts", "<init>", "(LTermReader$CharRow;)V"⟩, prog_7_method_1_code, 2, (Option.none : Option FieldType), 4, 252, 251, 0, 116)
def xm_57 : xM := (⟨"TermReader$Parts", "used", "()I"⟩, prog_7_method_2_code, 1, (Option.some FieldType.int), 4, 565, 563, 564, 116)
def xm_58 : xM := (⟨"TermReader$Parts", "cut", "(I)V"⟩, prog_7_method_3_code, 2, (Option.none : Option FieldType), 4, 865, 863, 864, 116)
def xm_59 : xM := (⟨"TermReader$Parts", "isPart", "(I)Z"⟩, prog_7_method_4_code, 2, (Option.some FieldType.boolean), 4, 766, 765, 26, 116)
def xm_60 : xM := (⟨"TermReader$Parts", "kind", "(I)I"⟩, prog_7_method_5_code, 2, (Option.some FieldType.int), 4, 919, 917, 918, 116)
def xm_61 : xM := (⟨"TermReader$Parts", "value", "(I)I"⟩, prog_7_method_6_code, 2, (Option.some FieldType.int), 4, 924, 922, 923, 116)
def xm_62 : xM := (⟨"TermReader$Parts", "nameSize", "(I)I"⟩, prog_7_method_7_code, 2, (Option.some FieldType.int), 4, 937, 935, 936, 116)
def xm_63 : xM := (⟨"TermReader$Parts", "first", "(I)I"⟩, prog_7_method_8_code, 2, (Option.some FieldType.int), 4, 968, 966, 967, 116)
def xm_64 : xM := (⟨"TermReader$Parts", "next", "(I)I"⟩, prog_7_method_9_code, 2, (Option.some FieldType.int), 4, 773, 771, 772, 116)
def xm_65 : xM := (⟨"TermReader$Parts", "second", "(I)I"⟩, prog_7_method_10_code, 2, (Option.some FieldType.int), 4, 1023, 1021, 1022, 116)
def xm_66 : xM := (⟨"TermReader$Parts", "depth", "(I)I"⟩, prog_7_method_11_code, 2, (Option.some FieldType.int), 4, 762, 760, 761, 116)
def xm_67 : xM := (⟨"TermReader$Parts", "link", "(II)V"⟩, prog_7_method_12_code, 3, (Option.none : Option FieldType), 4, 805, 803, 804, 116)
def xm_68 : xM := (⟨"TermReader$Parts", "isNamed", "(I)Z"⟩, prog_7_method_13_code, 3, (Option.some FieldType.boolean), 4, 1064, 1062, 1063, 116)
def xm_69 : xM := (⟨"TermReader$Parts", "key", "(I)J"⟩, prog_7_method_14_code, 3, (Option.some FieldType.long), 4, 972, 970, 971, 116)
def xm_70 : xM := (⟨"TermReader$Parts", "arity", "(I)I"⟩, prog_7_method_15_code, 5, (Option.some FieldType.int), 4, 964, 962, 963, 116)
def xm_71 : xM := (⟨"TermReader$Parts", "isNil", "(I)Z"⟩, prog_7_method_16_code, 2, (Option.some FieldType.boolean), 4, 1038, 1036, 1037, 116)
def xm_72 : xM := (⟨"TermReader$Parts", "isList", "(I)Z"⟩, prog_7_method_17_code, 2, (Option.some FieldType.boolean), 4, 1027, 1025, 1026, 116)
def xm_73 : xM := (⟨"TermReader$Parts", "isBraces", "(I)Z"⟩, prog_7_method_18_code, 2, (Option.some FieldType.boolean), 4, 1043, 1041, 1042, 116)
def xm_74 : xM := (⟨"TermReader$Parts", "add", "(IIIII)I"⟩, prog_7_method_19_code, 6, (Option.some FieldType.int), 4, 777, 776, 27, 116)
def xm_75 : xM := (⟨"TermReader$Parts", "addVariable", "(I)I"⟩, prog_7_method_20_code, 2, (Option.some FieldType.int), 4, 822, 820, 821, 116)
def xm_76 : xM := (⟨"TermReader$Parts", "addInteger", "(I)I"⟩, prog_7_method_21_code, 2, (Option.some FieldType.int), 4, 818, 816, 817, 116)
def xm_77 : xM := (⟨"TermReader$Parts", "addAtom", "(II)I"⟩, prog_7_method_22_code, 3, (Option.some FieldType.int), 4, 830, 828, 829, 116)
def xm_78 : xM := (⟨"TermReader$Parts", "addCompound", "(III)I"⟩, prog_7_method_23_code, 7, (Option.some FieldType.int), 4, 758, 756, 757, 116)
def xm_79 : xM := (⟨"TermReader$Parts", "addPair", "(IIII)I"⟩, prog_7_method_24_code, 5, (Option.some FieldType.int), 4, 801, 799, 800, 116)
def xm_80 : xM := (⟨"TermReader$Parts", "same", "(III)Z"⟩, prog_7_method_25_code, 7, (Option.some FieldType.boolean), 4, 1060, 1059, 55, 116)
def xm_81 : xM := (⟨"TermReader$Parts", "isSameName", "(II)Z"⟩, prog_7_method_26_code, 5, (Option.some FieldType.boolean), 4, 1068, 1067, 56, 116)
def xm_82 : xM := (⟨"TermReader$Tokens", "<init>", "(LTermReader$CharRow;LTermReader$CharRow;)V"⟩, prog_8_method_1_code, 3, (Option.none : Option FieldType), 5, 287, 286, 0, 117)
def xm_83 : xM := (⟨"TermReader$Tokens", "scan", "()Z"⟩, prog_8_method_2_code, 2, (Option.some FieldType.boolean), 5, 569, 567, 568, 117)
def xm_84 : xM := (⟨"TermReader$Tokens", "isToken", "(I)Z"⟩, prog_8_method_3_code, 2, (Option.some FieldType.boolean), 5, 669, 668, 18, 117)
def xm_85 : xM := (⟨"TermReader$Tokens", "kind", "(I)I"⟩, prog_8_method_4_code, 2, (Option.some FieldType.int), 5, 665, 663, 664, 117)
def xm_86 : xM := (⟨"TermReader$Tokens", "end", "(I)I"⟩, prog_8_method_5_code, 2, (Option.some FieldType.int), 5, 890, 888, 889, 117)
def xm_87 : xM := (⟨"TermReader$Tokens", "value", "(I)I"⟩, prog_8_method_6_code, 2, (Option.some FieldType.int), 5, 698, 696, 697, 117)
def xm_88 : xM := (⟨"TermReader$Tokens", "size", "(I)I"⟩, prog_8_method_7_code, 2, (Option.some FieldType.int), 5, 754, 752, 753, 117)
def xm_89 : xM := (⟨"TermReader$Tokens", "key", "(I)J"⟩, prog_8_method_8_code, 2, (Option.some FieldType.long), 5, 706, 704, 705, 117)
def xm_90 : xM := (⟨"TermReader$Tokens", "stringCharacter", "(II)I"⟩, prog_8_method_9_code, 3, (Option.some FieldType.int), 5, 834, 832, 833, 117)
def xm_91 : xM := (⟨"TermReader$Tokens", "isMark", "(II)Z"⟩, prog_8_method_10_code, 3, (Option.some FieldType.boolean), 5, 694, 692, 693, 117)
def xm_92 : xM := (⟨"TermReader$Tokens", "isNextTo", "(I)Z"⟩, prog_8_method_11_code, 2, (Option.some FieldType.boolean), 5, 690, 689, 21, 117)
def xm_93 : xM := (⟨"TermReader$Tokens", "isCall", "(I)Z"⟩, prog_8_method_12_code, 2, (Option.some FieldType.boolean), 5, 686, 684, 685, 117)
def xm_94 : xM := (⟨"TermReader$Tokens", "isMinusOfInteger", "(I)Z"⟩, prog_8_method_13_code, 2, (Option.some FieldType.boolean), 5, 702, 700, 701, 117)
def xm_95 : xM := (⟨"TermReader$Tokens", "isQuoted", "(I)Z"⟩, prog_8_method_14_code, 2, (Option.some FieldType.boolean), 5, 711, 710, 22, 117)
def xm_96 : xM := (⟨"TermReader$Tokens", "beginsTerm", "(I)Z"⟩, prog_8_method_15_code, 2, (Option.some FieldType.boolean), 5, 724, 722, 723, 117)
def xm_97 : xM := (⟨"TermReader$Tokens", "skipLayout", "()Z"⟩, prog_8_method_16_code, 4, (Option.some FieldType.boolean), 5, 573, 572, 3, 117)
def xm_98 : xM := (⟨"TermReader$Tokens", "behindComment", "(I)I"⟩, prog_8_method_17_code, 3, (Option.some FieldType.int), 5, 579, 578, 4, 117)
def xm_99 : xM := (⟨"TermReader$Tokens", "scanToken", "()Z"⟩, prog_8_method_18_code, 4, (Option.some FieldType.boolean), 5, 583, 582, 5, 117)
def xm_100 : xM := (⟨"TermReader$Tokens", "add", "(IIIIJ)Z"⟩, prog_8_method_19_code, 7, (Option.some FieldType.boolean), 5, 616, 615, 9, 117)
def xm_101 : xM := (⟨"TermReader$Tokens", "behindRow", "(Z)I"⟩, prog_8_method_20_code, 4, (Option.some FieldType.int), 5, 588, 587, 6, 117)
def xm_102 : xM := (⟨"TermReader$Tokens", "isEnd", "(I)Z"⟩, prog_8_method_21_code, 3, (Option.some FieldType.boolean), 5, 646, 645, 15, 117)
def xm_103 : xM := (⟨"TermReader$Tokens", "addPlainName", "(I)Z"⟩, prog_8_method_22_code, 4, (Option.some FieldType.boolean), 5, 603, 602, 7, 117)
def xm_104 : xM := (⟨"TermReader$Tokens", "addName", "(II)Z"⟩, prog_8_method_23_code, 4, (Option.some FieldType.boolean), 5, 608, 607, 8, 117)
def xm_105 : xM := (⟨"TermReader$Tokens", "addQuotedName", "()Z"⟩, prog_8_method_24_code, 7, (Option.some FieldType.boolean), 5, 650, 649, 16, 117)
def xm_106 : xM := (⟨"TermReader$Tokens", "escaped", "(I)I"⟩, prog_8_method_25_code, 1, (Option.some FieldType.int), 99, 653, 652, 0, 117)
def xm_107 : xM := (⟨"TermReader$Tokens", "addVariable", "(I)Z"⟩, prog_8_method_26_code, 3, (Option.some FieldType.boolean), 5, 621, 620, 10, 117)
def xm_108 : xM := (⟨"TermReader$Tokens", "variableNumber", "(I)I"⟩, prog_8_method_27_code, 4, (Option.some FieldType.int), 5, 625, 624, 11, 117)
def xm_109 : xM := (⟨"TermReader$Tokens", "isSameText", "(II)Z"⟩, prog_8_method_28_code, 4, (Option.some FieldType.boolean), 5, 629, 628, 12, 117)
def xm_110 : xM := (⟨"TermReader$Tokens", "addInteger", "(II)Z"⟩, prog_8_method_29_code, 4, (Option.some FieldType.boolean), 5, 634, 633, 13, 117)
def xm_111 : xM := (⟨"TermReader$Tokens", "addDigits", "(II)Z"⟩, prog_8_method_30_code, 8, (Option.some FieldType.boolean), 5, 641, 640, 14, 117)
def xm_112 : xM := (⟨"TermReader$Tokens", "addString", "()Z"⟩, prog_8_method_31_code, 5, (Option.some FieldType.boolean), 5, 657, 656, 17, 117)
def xm_113 : xM := (⟨"TermReader$Writer", "<init>", "(LTermReader$CharRow;LTermReader$CharRow;LTermReader$Operators;LTermReader$Parts;)V"⟩, prog_9_method_1_code, 5, (Option.none : Option FieldType), 6, 349, 348, 0, 119)
def xm_114 : xM := (⟨"TermReader$Writer", "whole", "(I)V"⟩, prog_9_method_2_code, 2, (Option.none : Option FieldType), 6, 910, 908, 909, 119)
def xm_115 : xM := (⟨"TermReader$Writer", "part", "(III)V"⟩, prog_9_method_3_code, 4, (Option.none : Option FieldType), 6, 915, 914, 41, 119)
def xm_116 : xM := (⟨"TermReader$Writer", "compound", "(III)V"⟩, prog_9_method_4_code, 5, (Option.none : Option FieldType), 6, 956, 955, 46, 119)
def xm_117 : xM := (⟨"TermReader$Writer", "slotOf", "(I)I"⟩, prog_9_method_5_code, 8, (Option.some FieldType.int), 6, 960, 959, 47, 119)
def xm_118 : xM := (⟨"TermReader$Writer", "bracketed", "(IIII)V"⟩, prog_9_method_6_code, 6, (Option.none : Option FieldType), 6, 987, 986, 48, 119)
def xm_119 : xM := (⟨"TermReader$Writer", "operated", "(III)V"⟩, prog_9_method_7_code, 5, (Option.none : Option FieldType), 6, 992, 991, 49, 119)
def xm_120 : xM := (⟨"TermReader$Writer", "infixName", "(I)V"⟩, prog_9_method_8_code, 2, (Option.none : Option FieldType), 6, 1018, 1017, 52, 119)
def xm_121 : xM := (⟨"TermReader$Writer", "leftMost", "(II)I"⟩, prog_9_method_9_code, 3, (Option.some FieldType.int), 6, 1012, 1011, 51, 119)
def xm_122 : xM := (⟨"TermReader$Writer", "operand", "(III)V"⟩, prog_9_method_10_code, 5, (Option.none : Option FieldType), 6, 1002, 1001, 50, 119)
def xm_123 : xM := (⟨"TermReader$Writer", "list", "(II)V"⟩, prog_9_method_11_code, 6, (Option.none : Option FieldType), 6, 1034, 1033, 53, 119)
def xm_124 : xM := (⟨"TermReader$Writer", "arguments", "(II)V"⟩, prog_9_method_12_code, 5, (Option.none : Option FieldType), 6, 1048, 1047, 54, 119)
def xm_125 : xM := (⟨"TermReader$Writer", "integer", "(I)V"⟩, prog_9_method_13_code, 7, (Option.none : Option FieldType), 6, 928, 927, 42, 119)
def xm_126 : xM := (⟨"TermReader$Writer", "name", "(I)V"⟩, prog_9_method_14_code, 8, (Option.none : Option FieldType), 6, 933, 932, 43, 119)
def xm_127 : xM := (⟨"TermReader$Writer", "escapeOf", "(I)I"⟩, prog_9_method_15_code, 1, (Option.some FieldType.int), 99, 952, 951, 0, 119)
def xm_128 : xM := (⟨"TermReader$Writer", "isPlain", "(II)Z"⟩, prog_9_method_16_code, 6, (Option.some FieldType.boolean), 6, 941, 940, 44, 119)
def xm_129 : xM := (⟨"TermReader$Writer", "isRow", "(IIZ)Z"⟩, prog_9_method_17_code, 6, (Option.some FieldType.boolean), 6, 947, 946, 45, 119)
def xm_130 : xM := (⟨"TermReaderModel", "<init>", "()V"⟩, prog_11_method_1_code, 1, (Option.none : Option FieldType), 7, 1101, 1100, 0, 120)
def xm_131 : xM := (⟨"TermReaderModel", "thrown", "()I"⟩, prog_11_method_2_code, 1, (Option.some FieldType.int), 7, 1250, 1248, 1249, 120)
def xm_132 : xM := (⟨"TermReaderModel", "refuse", "(I)I"⟩, prog_11_method_3_code, 2, (Option.some FieldType.int), 7, 1423, 1422, 90, 120)
def xm_133 : xM := (⟨"TermReaderModel", "pack", "(III)J"⟩, prog_11_method_4_code, 3, (Option.some FieldType.long), 99, 1105, 1104, 0, 120)
def xm_134 : xM := (⟨"TermReaderModel", "opAt", "(J)I"⟩, prog_11_method_5_code, 4, (Option.some FieldType.int), 7, 1113, 1112, 58, 120)
def xm_135 : xM := (⟨"TermReaderModel", "tell", "(JII)V"⟩, prog_11_method_6_code, 6, (Option.none : Option FieldType), 7, 1109, 1108, 57, 120)
def xm_136 : xM := (⟨"TermReaderModel", "operators", "()I"⟩, prog_11_method_7_code, 3, (Option.some FieldType.int), 7, 1277, 1276, 59, 120)
def xm_137 : xM := (⟨"TermReaderModel", "prefixOf", "(J)I"⟩, prog_11_method_8_code, 4, (Option.some FieldType.int), 7, 1374, 1373, 78, 120)
def xm_138 : xM := (⟨"TermReaderModel", "isInfixType", "(I)Z"⟩, prog_11_method_9_code, 1, (Option.some FieldType.boolean), 99, 1273, 1272, 0, 120)
def xm_139 : xM := (⟨"TermReaderModel", "infixOf", "(J)I"⟩, prog_11_method_10_code, 4, (Option.some FieldType.int), 7, 1378, 1377, 79, 120)
def xm_140 : xM := (⟨"TermReaderModel", "postfixOf", "(J)I"⟩, prog_11_method_11_code, 4, (Option.some FieldType.int), 7, 1383, 1382, 80, 120)
def xm_141 : xM := (⟨"TermReaderModel", "leftOf", "(J)I"⟩, prog_11_method_12_code, 4, (Option.some FieldType.int), 7, 1399, 1398, 84, 120)
def xm_142 : xM := (⟨"TermReaderModel", "rightOf", "(J)I"⟩, prog_11_method_13_code, 4, (Option.some FieldType.int), 7, 1407, 1406, 86, 120)
def xm_143 : xM := (⟨"TermReaderModel", "leftUpTo", "(J)I"⟩, prog_11_method_14_code, 3, (Option.some FieldType.int), 7, 1489, 1488, 105, 120)
def xm_144 : xM := (⟨"TermReaderModel", "operandOf", "(J)I"⟩, prog_11_method_15_code, 4, (Option.some FieldType.int), 7, 1391, 1390, 82, 120)
def xm_145 : xM := (⟨"TermReaderModel", "isSign", "(I)Z"⟩, prog_11_method_16_code, 1, (Option.some FieldType.boolean), 99, 1267, 1266, 0, 120)
def xm_146 : xM := (⟨"TermReaderModel", "isSmall", "(I)Z"⟩, prog_11_method_17_code, 1, (Option.some FieldType.boolean), 99, 1264, 1263, 0, 120)
def xm_147 : xM := (⟨"TermReaderModel", "isGreat", "(I)Z"⟩, prog_11_method_18_code, 1, (Option.some FieldType.boolean), 99, 1310, 1309, 0, 120)
def xm_148 : xM := (⟨"TermReaderModel", "isDigit", "(I)Z"⟩, prog_11_method_19_code, 1, (Option.some FieldType.boolean), 99, 1317, 1316, 0, 120)
def xm_149 : xM := (⟨"TermReaderModel", "characters", "(J)I"⟩, prog_11_method_20_code, 3, (Option.some FieldType.int), 99, 1257, 1256, 0, 120)
def xm_150 : xM := (⟨"TermReaderModel", "canBe", "(JI)Z"⟩, prog_11_method_21_code, 7, (Option.some FieldType.boolean), 99, 1261, 1260, 0, 120)
def xm_151 : xM := (⟨"TermReaderModel", "op", "(IIJ)V"⟩, prog_11_method_22_code, 12, (Option.none : Option FieldType), 7, 1254, 1252, 1253, 120)
def xm_152 : xM := (⟨"TermReaderModel", "text", "(J)Z"⟩, prog_11_method_23_code, 6, (Option.some FieldType.boolean), 7, 1281, 1279, 1280, 120)
def xm_153 : xM := (⟨"TermReaderModel", "charAt", "(I)I"⟩, prog_11_method_24_code, 2, (Option.some FieldType.int), 7, 1307, 1306, 64, 120)
def xm_154 : xM := (⟨"TermReaderModel", "behindLayout", "(I)I"⟩, prog_11_method_25_code, 4, (Option.some FieldType.int), 7, 1303, 1302, 63, 120)
def xm_155 : xM := (⟨"TermReaderModel", "keep", "(I)V"⟩, prog_11_method_26_code, 2, (Option.none : Option FieldType), 7, 1321, 1320, 66, 120)
def xm_156 : xM := (⟨"TermReaderModel", "word", "(I)I"⟩, prog_11_method_27_code, 3, (Option.some FieldType.int), 7, 1314, 1313, 65, 120)
def xm_157 : xM := (⟨"TermReaderModel", "scan", "(I)V"⟩, prog_11_method_28_code, 4, (Option.none : Option FieldType), 7, 1299, 1298, 62, 120)
def xm_158 : xM := (⟨"TermReaderModel", "signs", "(I)V"⟩, prog_11_method_29_code, 4, (Option.none : Option FieldType), 7, 1333, 1332, 68, 120)
def xm_159 : xM := (⟨"TermReaderModel", "single", "(II)V"⟩, prog_11_method_30_code, 6, (Option.none : Option FieldType), 7, 1341, 1340, 70, 120)
def xm_160 : xM := (⟨"TermReaderModel", "hex", "(I)I"⟩, prog_11_method_31_code, 1, (Option.some FieldType.int), 99, 1328, 1327, 0, 120)
def xm_161 : xM := (⟨"TermReaderModel", "number", "(I)V"⟩, prog_11_method_32_code, 7, (Option.none : Option FieldType), 7, 1325, 1324, 67, 120)
def xm_162 : xM := (⟨"TermReaderModel", "quotes", "(II)V"⟩, prog_11_method_33_code, 8, (Option.none : Option FieldType), 7, 1337, 1336, 69, 120)
def xm_163 : xM := (⟨"TermReaderModel", "key", "()J"⟩, prog_11_method_34_code, 4, (Option.some FieldType.long), 7, 1369, 1368, 77, 120)
def xm_164 : xM := (⟨"TermReaderModel", "keyOf", "(I)J"⟩, prog_11_method_35_code, 6, (Option.some FieldType.long), 7, 1467, 1466, 100, 120)
def xm_165 : xM := (⟨"TermReaderModel", "intern", "()I"⟩, prog_11_method_36_code, 4, (Option.some FieldType.int), 7, 1353, 1352, 73, 120)
def xm_166 : xM := (⟨"TermReaderModel", "named", "(II)I"⟩, prog_11_method_37_code, 3, (Option.some FieldType.int), 7, 1361, 1360, 75, 120)
def xm_167 : xM := (⟨"TermReaderModel", "add", "(III)I"⟩, prog_11_method_38_code, 4, (Option.some FieldType.int), 7, 1345, 1344, 71, 120)
def xm_168 : xM := (⟨"TermReaderModel", "ahead", "(III)V"⟩, prog_11_method_39_code, 5, (Option.none : Option FieldType), 7, 1403, 1402, 85, 120)
def xm_169 : xM := (⟨"TermReaderModel", "enter", "(III)V"⟩, prog_11_method_40_code, 4, (Option.none : Option FieldType), 7, 1291, 1290, 60, 120)
def xm_170 : xM := (⟨"TermReaderModel", "canBegin", "()Z"⟩, prog_11_method_41_code, 1, (Option.some FieldType.boolean), 7, 1387, 1386, 81, 120)
def xm_171 : xM := (⟨"TermReaderModel", "variable", "()I"⟩, prog_11_method_42_code, 4, (Option.some FieldType.int), 7, 1349, 1348, 72, 120)
def xm_172 : xM := (⟨"TermReaderModel", "string", "()V"⟩, prog_11_method_43_code, 6, (Option.none : Option FieldType), 7, 1357, 1356, 74, 120)
def xm_173 : xM := (⟨"TermReaderModel", "begin", "()V"⟩, prog_11_method_44_code, 3, (Option.none : Option FieldType), 7, 1295, 1294, 61, 120)
def xm_174 : xM := (⟨"TermReaderModel", "nameBegins", "(I)V"⟩, prog_11_method_45_code, 10, (Option.none : Option FieldType), 7, 1365, 1364, 76, 120)
def xm_175 : xM := (⟨"TermReaderModel", "goOn", "()V"⟩, prog_11_method_46_code, 8, (Option.none : Option FieldType), 7, 1395, 1394, 83, 120)
def xm_176 : xM := (⟨"TermReaderModel", "whole", "(II)V"⟩, prog_11_method_47_code, 6, (Option.none : Option FieldType), 7, 1411, 1410, 87, 120)
def xm_177 : xM := (⟨"TermReaderModel", "read", "()I"⟩, prog_11_method_48_code, 6, (Option.some FieldType.int), 7, 1287, 1285, 1286, 120)
def xm_178 : xM := (⟨"TermReaderModel", "isTerm", "(I)Z"⟩, prog_11_method_49_code, 2, (Option.some FieldType.boolean), 7, 1431, 1430, 91, 120)
def xm_179 : xM := (⟨"TermReaderModel", "skip", "(I)I"⟩, prog_11_method_50_code, 4, (Option.some FieldType.int), 7, 1451, 1450, 96, 120)
def xm_180 : xM := (⟨"TermReaderModel", "out", "(I)V"⟩, prog_11_method_51_code, 2, (Option.none : Option FieldType), 7, 1435, 1434, 92, 120)
def xm_181 : xM := (⟨"TermReaderModel", "later", "(II)V"⟩, prog_11_method_52_code, 3, (Option.none : Option FieldType), 7, 1419, 1418, 89, 120)
def xm_182 : xM := (⟨"TermReaderModel", "digits", "(J)V"⟩, prog_11_method_53_code, 5, (Option.none : Option FieldType), 7, 1475, 1474, 102, 120)
def xm_183 : xM := (⟨"TermReaderModel", "isPlain", "(I)Z"⟩, prog_11_method_54_code, 10, (Option.some FieldType.boolean), 7, 1443, 1442, 94, 120)
def xm_184 : xM := (⟨"TermReaderModel", "name", "(I)V"⟩, prog_11_method_55_code, 6, (Option.none : Option FieldType), 7, 1439, 1438, 93, 120)
def xm_185 : xM := (⟨"TermReaderModel", "isNamed", "(IIII)Z"⟩, prog_11_method_56_code, 6, (Option.some FieldType.boolean), 7, 1455, 1454, 97, 120)
def xm_186 : xM := (⟨"TermReaderModel", "priorityOf", "(I)I"⟩, prog_11_method_57_code, 4, (Option.some FieldType.int), 7, 1463, 1462, 99, 120)
def xm_187 : xM := (⟨"TermReaderModel", "isOperator", "(I)Z"⟩, prog_11_method_58_code, 4, (Option.some FieldType.boolean), 7, 1471, 1470, 101, 120)
def xm_188 : xM := (⟨"TermReaderModel", "part", "(II)V"⟩, prog_11_method_59_code, 6, (Option.none : Option FieldType), 7, 1459, 1458, 98, 120)
def xm_189 : xM := (⟨"TermReaderModel", "list", "(I)V"⟩, prog_11_method_60_code, 3, (Option.none : Option FieldType), 7, 1447, 1446, 95, 120)
def xm_190 : xM := (⟨"TermReaderModel", "takesOn", "(II)Z"⟩, prog_11_method_61_code, 5, (Option.some FieldType.boolean), 7, 1485, 1484, 104, 120)
def xm_191 : xM := (⟨"TermReaderModel", "operated", "(I)V"⟩, prog_11_method_62_code, 9, (Option.none : Option FieldType), 7, 1481, 1480, 103, 120)
def xm_192 : xM := (⟨"TermReaderModel", "plainly", "(I)V"⟩, prog_11_method_63_code, 6, (Option.none : Option FieldType), 7, 1493, 1492, 106, 120)
def xm_193 : xM := (⟨"TermReaderModel", "write", "(I)I"⟩, prog_11_method_64_code, 4, (Option.some FieldType.int), 7, 1427, 1425, 1426, 120)
def xm_194 : xM := (⟨"TermReaderModel", "written", "(I)I"⟩, prog_11_method_65_code, 2, (Option.some FieldType.int), 7, 1497, 1495, 1496, 120)
def xm_195 : xM := (⟨"TermReaderModel", "again", "()Z"⟩, prog_11_method_66_code, 2, (Option.some FieldType.boolean), 7, 1501, 1499, 1500, 120)
def xm_196 : xM := (⟨"TermReaderModel", "alike", "(II)Z"⟩, prog_11_method_67_code, 8, (Option.some FieldType.boolean), 7, 1505, 1503, 1504, 120)
def xm_197 : xM := (⟨"TermReaderModel", "depthIn", "(II)I"⟩, prog_11_method_68_code, 5, (Option.some FieldType.int), 7, 1415, 1414, 88, 120)
def xm_198 : xM := (⟨"TermReaderModel", "look", "(II)I"⟩, prog_11_method_69_code, 4, (Option.some FieldType.int), 7, 1509, 1507, 1508, 120)
def xm_199 : xM := (⟨"TermReaderModel", "count", "(I)I"⟩, prog_11_method_70_code, 2, (Option.some FieldType.int), 7, 1513, 1511, 1512, 120)
def xm_200 : xM := (⟨"TermReader$Chars", "isPrintable", "(I)Z"⟩, prog_3_method_2_code, 1, (Option.some FieldType.boolean), 99, 413, 412, 0, 121)
def xm_201 : xM := (⟨"TermReader$Chars", "isSmall", "(I)Z"⟩, prog_3_method_3_code, 1, (Option.some FieldType.boolean), 99, 446, 445, 0, 121)
def xm_202 : xM := (⟨"TermReader$Chars", "isLarge", "(I)Z"⟩, prog_3_method_4_code, 1, (Option.some FieldType.boolean), 99, 596, 595, 0, 121)
def xm_203 : xM := (⟨"TermReader$Chars", "isDigit", "(I)Z"⟩, prog_3_method_5_code, 1, (Option.some FieldType.boolean), 99, 599, 598, 0, 121)
def xm_204 : xM := (⟨"TermReader$Chars", "isWord", "(I)Z"⟩, prog_3_method_6_code, 1, (Option.some FieldType.boolean), 99, 592, 591, 0, 121)
def xm_205 : xM := (⟨"TermReader$Chars", "isSign", "(I)Z"⟩, prog_3_method_7_code, 1, (Option.some FieldType.boolean), 99, 449, 448, 0, 121)
def xm_206 : xM := (⟨"TermReader$Chars", "isPunctuation", "(I)Z"⟩, prog_3_method_8_code, 1, (Option.some FieldType.boolean), 99, 660, 659, 0, 121)
def xm_207 : xM := (⟨"TermReader$Chars", "digit", "(II)I"⟩, prog_3_method_9_code, 2, (Option.some FieldType.int), 99, 637, 636, 0, 121)
def xm_208 : xM := (⟨"TermReader$Packed", "at", "(JI)I"⟩, prog_5_method_2_code, 3, (Option.some FieldType.int), 99, 404, 403, 0, 111)
def xm_209 : xM := (⟨"TermReader$Packed", "size", "(J)I"⟩, prog_5_method_3_code, 3, (Option.some FieldType.int), 99, 401, 400, 0, 111)
def xm_210 : xM := (⟨"TermReader$Packed", "trimmed", "(J)J"⟩, prog_5_method_4_code, 3, (Option.some FieldType.long), 99, 452, 451, 0, 111)
def xm_211 : xM := (⟨"TermReader$Packed", "ofText", "(Ljava/lang/String;)J"⟩, prog_5_method_5_code, 4, (Option.some FieldType.long), 99, 172, 171, 0, 111)
def xm_212 : xM := (⟨"TermReader$Packed", "ofRow", "(LTermReader$CharRow;II)J"⟩, prog_5_method_6_code, 6, (Option.some FieldType.long), 99, 611, 610, 0, 111)
def xm_213 : xM := (⟨"TermReader$Packed", "isOperatorName", "(J)Z"⟩, prog_5_method_7_code, 6, (Option.some FieldType.boolean), 99, 442, 441, 0, 111)
def xm_214 : xM := (⟨"TermReaderLaw", "op", "(LTermReader;IIJ)I"⟩, method_3_code, 6, (Option.some FieldType.int), 99, 433, 432, 0, 107)
def xm_215 : xM := (⟨"TermReaderLaw", "read", "(LTermReader;[J)I"⟩, method_4_code, 3, (Option.some FieldType.int), 99, 556, 555, 0, 107)
def xm_216 : xM := (⟨"TermReaderLaw", "write", "(LTermReader;I[J)I"⟩, method_5_code, 4, (Option.some FieldType.int), 99, 897, 896, 0, 107)
def xm_217 : xM := (⟨"TermReaderLaw", "alike", "(LTermReader;II[J)I"⟩, method_6_code, 5, (Option.some FieldType.int), 99, 1052, 1051, 0, 107)
def xm_218 : xM := (⟨"TermReaderLaw", "look", "(LTermReader;II[J)I"⟩, method_7_code, 5, (Option.some FieldType.int), 99, 1073, 1072, 0, 107)
def xm_219 : xM := (⟨"TermReaderLaw", "count", "(LTermReader;I[J)I"⟩, method_8_code, 4, (Option.some FieldType.int), 99, 1087, 1086, 0, 107)
def xm_220 : xM := (⟨"TermReaderLaw", "law", "([I)Z"⟩, code, 7, (Option.some FieldType.boolean), 99, 0, 0, 0, 107)
def xms : List xM := [xm_0, xm_1, xm_2, xm_3, xm_4, xm_5, xm_6, xm_7, xm_8, xm_9, xm_10, xm_11, xm_12, xm_13, xm_14, xm_15, xm_16, xm_17, xm_18, xm_19, xm_20, xm_21, xm_22, xm_23, xm_24, xm_25, xm_26, xm_27, xm_28, xm_29, xm_30, xm_31, xm_32, xm_33, xm_34, xm_35, xm_36, xm_37, xm_38, xm_39, xm_40, xm_41, xm_42, xm_43, xm_44, xm_45, xm_46, xm_47, xm_48, xm_49, xm_50, xm_51, xm_52, xm_53, xm_54, xm_55, xm_56, xm_57, xm_58, xm_59, xm_60, xm_61, xm_62, xm_63, xm_64, xm_65, xm_66, xm_67, xm_68, xm_69, xm_70, xm_71, xm_72, xm_73, xm_74, xm_75, xm_76, xm_77, xm_78, xm_79, xm_80, xm_81, xm_82, xm_83, xm_84, xm_85, xm_86, xm_87, xm_88, xm_89, xm_90, xm_91, xm_92, xm_93, xm_94, xm_95, xm_96, xm_97, xm_98, xm_99, xm_100, xm_101, xm_102, xm_103, xm_104, xm_105, xm_106, xm_107, xm_108, xm_109, xm_110, xm_111, xm_112, xm_113, xm_114, xm_115, xm_116, xm_117, xm_118, xm_119, xm_120, xm_121, xm_122, xm_123, xm_124, xm_125, xm_126, xm_127, xm_128, xm_129, xm_130, xm_131, xm_132, xm_133, xm_134, xm_135, xm_136, xm_137, xm_138, xm_139, xm_140, xm_141, xm_142, xm_143, xm_144, xm_145, xm_146, xm_147, xm_148, xm_149, xm_150, xm_151, xm_152, xm_153, xm_154, xm_155, xm_156, xm_157, xm_158, xm_159, xm_160, xm_161, xm_162, xm_163, xm_164, xm_165, xm_166, xm_167, xm_168, xm_169, xm_170, xm_171, xm_172, xm_173, xm_174, xm_175, xm_176, xm_177, xm_178, xm_179, xm_180, xm_181, xm_182, xm_183, xm_184, xm_185, xm_186, xm_187, xm_188, xm_189, xm_190, xm_191, xm_192, xm_193, xm_194, xm_195, xm_196, xm_197, xm_198, xm_199, xm_200, xm_201, xm_202, xm_203, xm_204, xm_205, xm_206, xm_207, xm_208, xm_209, xm_210, xm_211, xm_212, xm_213, xm_214, xm_215, xm_216, xm_217, xm_218, xm_219, xm_220]
-- handlers: method, from, up to, what, where it goes on, the local
def xhd : List (Nat × Nat × Nat × Nat × Nat × Nat) := [(214, 0, 7, 0, 12, 5), (214, 0, 7, 1, 16, 5), (215, 0, 8, 0, 12, 2), (215, 0, 8, 2, 15, 2), (216, 0, 9, 2, 13, 3), (217, 0, 17, 2, 22, 4), (218, 0, 10, 2, 15, 4), (218, 0, 10, 0, 19, 4), (219, 0, 9, 0, 13, 3)]
end
section
-- printed by wip/gen.py: the rows of code, by method and pc
-- TermReader.<init>()V
def xc_0 : List (Option xRow) := [xq (.aload_n 0) 1, xqc (.invokespecial 3) 3 1000 1 134, xz, xz, xq (.aload_n 0) 1, xqc (.new 9) 3 1 0 137, xz, xz, xq .dup 1, xqv (.bipush 120) 2 120, xz, xqc (.invokespecial 11) 3 11 2 139, xz, xz, xqc (.putfield 14) 3 0 0 364, xz, xz, xq (.aload_n 0) 1, xqc (.new 9) 3 1 0 137, xz, xz, xq .dup 1, xqv (.sipush 1200) 3 1200, xz, xz, xqc (.invokespecial 11) 3 11 2 139, xz, xz, xqc (.putfield 18) 3 0 1 365, xz, xz, xq (.aload_n 0) 1, xqc (.new 9) 3 1 0 137, xz, xz, xq .dup 1, xqv (.sipush 4926) 3 4926, xz, xz, xqc (.invokespecial 11) 3 11 2 139, xz, xz, xqc (.putfield 21) 3 0 2 366, xz, xz, xq (.aload_n 0) 1, xqc (.new 24) 3 2 0 151, xz, xz, xq .dup 1, xqc (.invokespecial 26) 3 17 1 153, xz, xz, xqc (.putfield 27) 3 0 3 367, xz, xz, xq (.aload_n 0) 1, xqc (.new 31) 3 4 0 248, xz, xz, xq .dup 1, xq (.aload_n 0) 1, xqc (.getfield 21) 3 0 2 366, xz, xz, xqc (.invokespecial 33) 3 56 2 250, xz, xz, xqc (.putfield 36) 3 0 4 368, xz, xz, xq (.aload_n 0) 1, xqc (.new 40) 3 5 0 283, xz, xz, xq .dup 1, xq (.aload_n 0) 1, xqc (.getfield 14) 3 0 0 364, xz, xz, xq (.aload_n 0) 1, xqc (.getfield 21) 3 0 2 366, xz, xz, xqc (.invokespecial 42) 3 82 3 285, xz, xz, xqc (.putfield 45) 3 0 5 369, xz, xz, xq (.aload_n 0) 1, xqc (.new 49) 3 3 0 323, xz, xz, xq .dup 1, xq (.aload_n 0) 1, xqc (.getfield 45) 3 0 5 369, xz, xz, xq (.aload_n 0) 1, xqc (.getfield 27) 3 0 3 367, xz, xz, xq (.aload_n 0) 1, xqc (.getfield 36) 3 0 4 368, xz, xz, xqc (.invokespecial 51) 3 37 4 325, xz, xz, xqc (.putfield 54) 3 0 6 370, xz, xz, xq (.aload_n 0) 1, xqc (.new 58) 3 6 0 345, xz, xz, xq .dup 1, xq (.aload_n 0) 1, xqc (.getfield 18) 3 0 1 365, xz, xz, xq (.aload_n 0) 1, xqc (.getfield 21) 3 0 2 366, xz, xz, xq (.aload_n 0) 1, xqc (.getfield 27) 3 0 3 367, xz, xz, xq (.aload_n 0) 1, xqc (.getfield 36) 3 0 4 368, xz, xz, xqc (.invokespecial 60) 3 113 5 347, xz, xz, xqc (.putfield 63) 3 0 7 371, xz, xz, xq (.aload_n 0) 1, xqv (.bipush 40) 2 40, xz, xqc (.newarray .int) 2 0 0 246, xz, xqc (.putfield 67) 3 0 8 372, xz, xz, xq (.aload_n 0) 1, xqv (.iconst 0) 1 0, xqc (.putfield 71) 3 0 9 373, xz, xz, xq .return_ 1]
-- TermReader.text(J)Z
def xc_1 : List (Option xRow) := [xq (.lload_n 1) 1, xqc (.invokestatic 75) 3 209 1 399, xz, xz, xq (.istore_n 3) 1, xq (.iload_n 3) 1, xqa (.ifCond .eq 17) 3 23, xz, xz, xq (.aload_n 0) 1, xqc (.getfield 14) 3 0 0 364, xz, xz, xqc (.invokevirtual 81) 3 12 1 406, xz, xz, xq (.iload_n 3) 1, xq .iadd 1, xqv (.bipush 120) 2 120, xz, xqa (.if_icmp .le 5) 3 25, xz, xz, xqv (.iconst 0) 1 0, xq .ireturn 1, xqv (.iconst 0) 1 0, xq (.istore 4) 2, xz, xq (.iload 4) 2, xz, xq (.iload_n 3) 1, xqa (.if_icmp .ge 23) 3 54, xz, xz, xq (.lload_n 1) 1, xq (.iload 4) 2, xz, xqc (.invokestatic 85) 3 208 2 410, xz, xz, xqc (.invokestatic 89) 3 200 1 411, xz, xz, xqa (.ifCond .ne 5) 3 48, xz, xz, xqv (.iconst 0) 1 0, xq .ireturn 1, xqv (.iinc 4 1) 3 1, xz, xz, xqa (.goto (-23)) 3 28, xz, xz, xqv (.iconst 0) 1 0, xq (.istore 4) 2, xz, xq (.iload 4) 2, xz, xq (.iload_n 3) 1, xqa (.if_icmp .ge 22) 3 82, xz, xz, xq (.aload_n 0) 1, xqc (.getfield 14) 3 0 0 364, xz, xz, xq (.lload_n 1) 1, xq (.iload 4) 2, xz, xqc (.invokestatic 85) 3 208 2 410, xz, xz, xqc (.invokevirtual 95) 3 14 2 414, xz, xz, xqv (.iinc 4 1) 3 1, xz, xz, xqa (.goto (-22)) 3 57, xz, xz, xqv (.iconst 1) 1 1, xq .ireturn 1]
-- TermReader.op(IIJ)V
def xc_2 : List (Option xRow) := [xq (.iload_n 1) 1, xqa (.ifCond .lt 27) 3 28, xz, xz, xq (.iload_n 1) 1, xqv (.sipush 1200) 3 1200, xz, xz, xqa (.if_icmp .gt 20) 3 28, xz, xz, xq (.iload_n 2) 1, xqa (.ifCond .lt 16) 3 28, xz, xz, xq (.iload_n 2) 1, xqv (.bipush 6) 2 6, xz, xqa (.if_icmp .gt 10) 3 28, xz, xz, xq (.lload_n 3) 1, xqc (.invokestatic 98) 3 213 1 440, xz, xz, xqa (.ifCond .ne 13) 3 38, xz, xz, xqc (.new 102) 3 1000 0 454, xz, xz, xq .dup 1, xqc (.ldc 104) 2 0 0 495, xz, xqc (.invokespecial 106) 3 2000 0 496, xz, xz, xq .athrow 1, xq (.lload_n 3) 1, xqc (.invokestatic 109) 3 210 1 521, xz, xz, xq (.lstore 5) 2, xz, xq (.iload_n 1) 1, xqa (.ifCond .ne 14) 3 59, xz, xz, xq (.aload_n 0) 1, xqc (.getfield 27) 3 0 3 367, xz, xz, xq (.iload_n 2) 1, xq (.lload 5) 2, xz, xqc (.invokevirtual 113) 3 28 3 522, xz, xz, xq .return_ 1, xq (.aload_n 0) 1, xqc (.getfield 27) 3 0 3 367, xz, xz, xq (.iload_n 2) 1, xq (.lload 5) 2, xz, xqc (.invokevirtual 117) 3 26 3 530, xz, xz, xqa (.ifCond .ne 13) 3 82, xz, xz, xqc (.new 121) 3 1001 0 537, xz, xz, xq .dup 1, xqc (.ldc 123) 2 0 0 546, xz, xqc (.invokespecial 125) 3 2000 0 547, xz, xz, xq .athrow 1, xq (.aload_n 0) 1, xqc (.getfield 27) 3 0 3 367, xz, xz, xq (.iload_n 1) 1, xq (.iload_n 2) 1, xq (.lload 5) 2, xz, xqc (.invokevirtual 126) 3 27 4 553, xz, xz, xq .return_ 1]
-- TermReader.read()I
def xc_3 : List (Option xRow) := [xq (.aload_n 0) 1, xqc (.getfield 36) 3 0 4 368, xz, xz, xqc (.invokevirtual 130) 3 57 1 562, xz, xz, xq (.istore_n 1) 1, xq (.aload_n 0) 1, xqc (.getfield 21) 3 0 2 366, xz, xz, xqc (.invokevirtual 81) 3 12 1 406, xz, xz, xq (.istore_n 2) 1, xq (.aload_n 0) 1, xqc (.getfield 45) 3 0 5 369, xz, xz, xqc (.invokevirtual 133) 3 83 1 566, xz, xz, xqa (.ifCond .eq 13) 3 36, xz, xz, xq (.aload_n 0) 1, xqc (.getfield 54) 3 0 6 370, xz, xz, xqc (.invokevirtual 137) 3 38 1 670, xz, xz, xqa (.goto 4) 3 37, xz, xz, xqv (.iconst (-1)) 1 (-1), xq (.istore_n 3) 1, xq (.iload_n 3) 1, xqv (.iconst (-1)) 1 (-1), xqa (.if_icmp .ne 37) 3 77, xz, xz, xq (.aload_n 0) 1, xqc (.getfield 36) 3 0 4 368, xz, xz, xq (.iload_n 1) 1, xqc (.invokevirtual 140) 3 58 2 862, xz, xz, xq (.aload_n 0) 1, xqc (.getfield 21) 3 0 2 366, xz, xz, xq (.iload_n 2) 1, xqc (.invokevirtual 143) 3 15 2 427, xz, xz, xq (.aload_n 0) 1, xqc (.getfield 14) 3 0 0 364, xz, xz, xqv (.iconst 0) 1 0, xqc (.invokevirtual 143) 3 15 2 427, xz, xz, xqc (.new 102) 3 1000 0 454, xz, xz, xq .dup 1, xqc (.ldc 144) 2 0 0 866, xz, xqc (.invokespecial 106) 3 2000 0 496, xz, xz, xq .athrow 1, xq (.aload_n 0) 1, xqc (.getfield 71) 3 0 9 373, xz, xz, xqa (.ifCond .lt 25) 3 106, xz, xz, xq (.aload_n 0) 1, xqc (.getfield 71) 3 0 9 373, xz, xz, xqv (.bipush 40) 2 40, xz, xqa (.if_icmp .ge 16) 3 106, xz, xz, xq (.aload_n 0) 1, xqc (.getfield 36) 3 0 4 368, xz, xz, xqc (.invokevirtual 130) 3 57 1 562, xz, xz, xqv (.sipush 600) 3 600, xz, xz, xqa (.if_icmp .le 29) 3 132, xz, xz, xq (.aload_n 0) 1, xqc (.getfield 36) 3 0 4 368, xz, xz, xq (.iload_n 1) 1, xqc (.invokevirtual 140) 3 58 2 862, xz, xz, xq (.aload_n 0) 1, xqc (.getfield 21) 3 0 2 366, xz, xz, xq (.iload_n 2) 1, xqc (.invokevirtual 143) 3 15 2 427, xz, xz, xqc (.new 146) 3 1002 0 867, xz, xz, xq .dup 1, xqc (.ldc 148) 2 0 0 876, xz, xqc (.invokespecial 150) 3 2000 0 877, xz, xz, xq .athrow 1, xq (.aload_n 0) 1, xqc (.getfield 14) 3 0 0 364, xz, xz, xq (.aload_n 0) 1, xqc (.getfield 54) 3 0 6 370, xz, xz, xqc (.invokevirtual 151) 3 39 1 883, xz, xz, xqc (.invokevirtual 154) 3 16 2 891, xz, xz, xq (.aload_n 0) 1, xqc (.getfield 67) 3 0 8 372, xz, xz, xq (.aload_n 0) 1, xqc (.getfield 71) 3 0 9 373, xz, xz, xq (.iload_n 3) 1, xq .iastore 1, xq (.aload_n 0) 1, xq .dup 1, xqc (.getfield 71) 3 0 9 373, xz, xz, xqv (.iconst 1) 1 1, xq .iadd 1, xqc (.putfield 71) 3 0 9 373, xz, xz, xq (.aload_n 0) 1, xqc (.getfield 71) 3 0 9 373, xz, xz, xqv (.iconst 1) 1 1, xq .isub 1, xq .ireturn 1]
-- TermReader.write(I)I
def xc_4 : List (Option xRow) := [xq (.aload_n 0) 1, xq (.iload_n 1) 1, xqc (.invokevirtual 157) 3 10 2 902, xz, xz, xqa (.ifCond .ne 13) 3 18, xz, xz, xqc (.new 146) 3 1002 0 867, xz, xz, xq .dup 1, xqc (.ldc 160) 2 0 0 906, xz, xqc (.invokespecial 150) 3 2000 0 877, xz, xz, xq .athrow 1, xq (.aload_n 0) 1, xqc (.getfield 63) 3 0 7 371, xz, xz, xq (.aload_n 0) 1, xqc (.getfield 67) 3 0 8 372, xz, xz, xq (.iload_n 1) 1, xq .iaload 1, xqc (.invokevirtual 162) 3 114 2 907, xz, xz, xq (.aload_n 0) 1, xqc (.getfield 18) 3 0 1 365, xz, xz, xqc (.invokevirtual 81) 3 12 1 406, xz, xz, xq .ireturn 1]
-- TermReader.written(I)I
def xc_5 : List (Option xRow) := [xq (.aload_n 0) 1, xqc (.getfield 18) 3 0 1 365, xz, xz, xq (.iload_n 1) 1, xqc (.invokevirtual 164) 3 13 2 419, xz, xz, xq .ireturn 1]
-- TermReader.again()Z
def xc_6 : List (Option xRow) := [xq (.aload_n 0) 1, xqc (.getfield 18) 3 0 1 365, xz, xz, xqc (.invokevirtual 81) 3 12 1 406, xz, xz, xq (.istore_n 1) 1, xq (.iload_n 1) 1, xqv (.iconst 3) 1 3, xq .iadd 1, xqv (.bipush 120) 2 120, xz, xqa (.if_icmp .le 5) 3 18, xz, xz, xqv (.iconst 0) 1 0, xq .ireturn 1, xq (.aload_n 0) 1, xqc (.getfield 14) 3 0 0 364, xz, xz, xqv (.iconst 0) 1 0, xqc (.invokevirtual 143) 3 15 2 427, xz, xz, xqv (.iconst 0) 1 0, xq (.istore_n 2) 1, xq (.iload_n 2) 1, xq (.iload_n 1) 1, xqa (.if_icmp .ge 24) 3 54, xz, xz, xq (.aload_n 0) 1, xqc (.getfield 14) 3 0 0 364, xz, xz, xq (.aload_n 0) 1, xqc (.getfield 18) 3 0 1 365, xz, xz, xq (.iload_n 2) 1, xqc (.invokevirtual 164) 3 13 2 419, xz, xz, xqc (.invokevirtual 95) 3 14 2 414, xz, xz, xqv (.iinc 2 1) 3 1, xz, xz, xqa (.goto (-23)) 3 28, xz, xz, xq (.aload_n 0) 1, xqc (.getfield 14) 3 0 0 364, xz, xz, xqv (.bipush 32) 2 32, xz, xqc (.invokevirtual 95) 3 14 2 414, xz, xz, xq (.aload_n 0) 1, xqc (.getfield 14) 3 0 0 364, xz, xz, xqv (.bipush 46) 2 46, xz, xqc (.invokevirtual 95) 3 14 2 414, xz, xz, xq (.aload_n 0) 1, xqc (.getfield 14) 3 0 0 364, xz, xz, xqv (.bipush 32) 2 32, xz, xqc (.invokevirtual 95) 3 14 2 414, xz, xz, xqv (.iconst 1) 1 1, xq .ireturn 1]
-- TermReader.alike(II)Z
def xc_7 : List (Option xRow) := [xq (.aload_n 0) 1, xq (.iload_n 1) 1, xqc (.invokevirtual 157) 3 10 2 902, xz, xz, xqa (.ifCond .eq 11) 3 16, xz, xz, xq (.aload_n 0) 1, xq (.iload_n 2) 1, xqc (.invokevirtual 157) 3 10 2 902, xz, xz, xqa (.ifCond .ne 13) 3 26, xz, xz, xqc (.new 146) 3 1002 0 867, xz, xz, xq .dup 1, xqc (.ldc 160) 2 0 0 906, xz, xqc (.invokespecial 150) 3 2000 0 877, xz, xz, xq .athrow 1, xq (.aload_n 0) 1, xqc (.getfield 36) 3 0 4 368, xz, xz, xq (.aload_n 0) 1, xqc (.getfield 67) 3 0 8 372, xz, xz, xq (.iload_n 1) 1, xq .iaload 1, xq (.aload_n 0) 1, xqc (.getfield 67) 3 0 8 372, xz, xz, xq (.iload_n 2) 1, xq .iaload 1, xqv (.iconst 0) 1 0, xqk (.invokevirtual 167) 3 80 4 1057 1, xz, xz, xq .ireturn 1]
-- TermReader.look(II)I
def xc_8 : List (Option xRow) := [xq (.aload_n 0) 1, xq (.iload_n 1) 1, xqc (.invokevirtual 157) 3 10 2 902, xz, xz, xqa (.ifCond .ne 13) 3 18, xz, xz, xqc (.new 146) 3 1002 0 867, xz, xz, xq .dup 1, xqc (.ldc 160) 2 0 0 906, xz, xqc (.invokespecial 150) 3 2000 0 877, xz, xz, xq .athrow 1, xq (.aload_n 0) 1, xqc (.getfield 67) 3 0 8 372, xz, xz, xq (.iload_n 1) 1, xq .iaload 1, xq (.istore_n 3) 1, xq (.iload_n 2) 1, xqs (.tableswitch 88 0 3 #[30, 39, 48, 79]) 30 114 [(0, 56), (1, 65), (2, 74), (3, 105)], xz, xz, xz, xz, xz, xz, xz, xz, xz, xz, xz, xz, xz, xz, xz, xz, xz, xz, xz, xz, xz, xz, xz, xz, xz, xz, xz, xz, xz, xq (.aload_n 0) 1, xqc (.getfield 36) 3 0 4 368, xz, xz, xq (.iload_n 3) 1, xqc (.invokevirtual 171) 3 60 2 1078, xz, xz, xq .ireturn 1, xq (.aload_n 0) 1, xqc (.getfield 36) 3 0 4 368, xz, xz, xq (.iload_n 3) 1, xqc (.invokevirtual 174) 3 70 2 1079, xz, xz, xq .ireturn 1, xq (.aload_n 0) 1, xqc (.getfield 36) 3 0 4 368, xz, xz, xq (.iload_n 3) 1, xqc (.invokevirtual 177) 3 68 2 1080, xz, xz, xqa (.ifCond .eq 14) 3 96, xz, xz, xq (.aload_n 0) 1, xqc (.getfield 36) 3 0 4 368, xz, xz, xq (.iload_n 3) 1, xqc (.invokevirtual 180) 3 62 2 1081, xz, xz, xqa (.goto 11) 3 104, xz, xz, xq (.aload_n 0) 1, xqc (.getfield 36) 3 0 4 368, xz, xz, xq (.iload_n 3) 1, xqc (.invokevirtual 183) 3 61 2 1082, xz, xz, xq .ireturn 1, xq (.aload_n 0) 1, xqc (.getfield 36) 3 0 4 368, xz, xz, xq (.iload_n 3) 1, xqc (.invokevirtual 186) 3 66 2 1083, xz, xz, xq .ireturn 1, xqc (.new 102) 3 1000 0 454, xz, xz, xq .dup 1, xqc (.ldc 189) 2 0 0 1084, xz, xqc (.invokespecial 106) 3 2000 0 496, xz, xz, xq .athrow 1]
-- TermReader.count(I)I
def xc_9 : List (Option xRow) := [xq (.iload_n 1) 1, xqs (.tableswitch 60 0 3 #[31, 39, 44, 52]) 31 61 [(0, 32), (1, 40), (2, 45), (3, 53)], xz, xz, xz, xz, xz, xz, xz, xz, xz, xz, xz, xz, xz, xz, xz, xz, xz, xz, xz, xz, xz, xz, xz, xz, xz, xz, xz, xz, xz, xz, xq (.aload_n 0) 1, xqc (.getfield 14) 3 0 0 364, xz, xz, xqc (.invokevirtual 81) 3 12 1 406, xz, xz, xq .ireturn 1, xq (.aload_n 0) 1, xqc (.getfield 71) 3 0 9 373, xz, xz, xq .ireturn 1, xq (.aload_n 0) 1, xqc (.getfield 36) 3 0 4 368, xz, xz, xqc (.invokevirtual 130) 3 57 1 562, xz, xz, xq .ireturn 1, xq (.aload_n 0) 1, xqc (.getfield 27) 3 0 3 367, xz, xz, xqc (.invokevirtual 191) 3 18 1 1092, xz, xz, xq .ireturn 1, xqc (.new 102) 3 1000 0 454, xz, xz, xq .dup 1, xqc (.ldc 194) 2 0 0 1096, xz, xqc (.invokespecial 106) 3 2000 0 496, xz, xz, xq .athrow 1]
-- TermReader.isTerm(I)Z
def xc_10 : List (Option xRow) := [xq (.iload_n 1) 1, xqa (.ifCond .lt 21) 3 22, xz, xz, xq (.iload_n 1) 1, xq (.aload_n 0) 1, xqc (.getfield 71) 3 0 9 373, xz, xz, xqa (.if_icmp .ge 13) 3 22, xz, xz, xq (.iload_n 1) 1, xqv (.bipush 40) 2 40, xz, xqa (.if_icmp .ge 7) 3 22, xz, xz, xqv (.iconst 1) 1 1, xqa (.goto 4) 3 23, xz, xz, xqv (.iconst 0) 1 0, xq .ireturn 1]
-- TermReader$CharRow.<init>(I)V
def xc_11 : List (Option xRow) := [xq (.aload_n 0) 1, xqc (.invokespecial 3) 3 1000 1 142, xz, xz, xq (.aload_n 0) 1, xq (.iload_n 1) 1, xqa (.ifCond .le 7) 3 13, xz, xz, xq (.iload_n 1) 1, xqa (.goto 4) 3 14, xz, xz, xqv (.iconst 0) 1 0, xqc (.newarray .char) 2 0 0 150, xz, xqc (.putfield 9) 3 1 0 143, xz, xz, xq (.aload_n 0) 1, xqv (.iconst 0) 1 0, xqc (.putfield 15) 3 1 1 144, xz, xz, xq .return_ 1]
-- TermReader$CharRow.length()I
def xc_12 : List (Option xRow) := [xq (.aload_n 0) 1, xqc (.getfield 15) 3 1 1 144, xz, xz, xq .ireturn 1]
-- TermReader$CharRow.at(I)I
def xc_13 : List (Option xRow) := [xq (.iload_n 1) 1, xqa (.ifCond .lt 29) 3 30, xz, xz, xq (.iload_n 1) 1, xq (.aload_n 0) 1, xqc (.getfield 15) 3 1 1 144, xz, xz, xqa (.if_icmp .ge 21) 3 30, xz, xz, xq (.iload_n 1) 1, xq (.aload_n 0) 1, xqc (.getfield 9) 3 1 0 143, xz, xz, xq .arraylength 1, xqa (.if_icmp .ge 12) 3 30, xz, xz, xq (.aload_n 0) 1, xqc (.getfield 9) 3 1 0 143, xz, xz, xq (.iload_n 1) 1, xq .caload 1, xqa (.goto 4) 3 31, xz, xz, xqv (.iconst (-1)) 1 (-1), xq .ireturn 1]
-- TermReader$CharRow.add(I)V
def xc_14 : List (Option xRow) := [xq (.aload_n 0) 1, xqc (.getfield 15) 3 1 1 144, xz, xz, xqa (.ifCond .lt 36) 3 40, xz, xz, xq (.aload_n 0) 1, xqc (.getfield 15) 3 1 1 144, xz, xz, xq (.aload_n 0) 1, xqc (.getfield 9) 3 1 0 143, xz, xz, xq .arraylength 1, xqa (.if_icmp .ge 24) 3 40, xz, xz, xq (.aload_n 0) 1, xqc (.getfield 9) 3 1 0 143, xz, xz, xq (.aload_n 0) 1, xqc (.getfield 15) 3 1 1 144, xz, xz, xq (.iload_n 1) 1, xq .i2c 1, xq .castore 1, xq (.aload_n 0) 1, xq .dup 1, xqc (.getfield 15) 3 1 1 144, xz, xz, xqv (.iconst 1) 1 1, xq .iadd 1, xqc (.putfield 15) 3 1 1 144, xz, xz, xq .return_ 1]
-- TermReader$CharRow.cut(I)V
def xc_15 : List (Option xRow) := [xq (.iload_n 1) 1, xqa (.ifCond .lt 16) 3 17, xz, xz, xq (.iload_n 1) 1, xq (.aload_n 0) 1, xqc (.getfield 15) 3 1 1 144, xz, xz, xqa (.if_icmp .ge 8) 3 17, xz, xz, xq (.aload_n 0) 1, xq (.iload_n 1) 1, xqc (.putfield 15) 3 1 1 144, xz, xz, xq .return_ 1]
-- TermReader$CharRow.dropFirst(I)V
def xc_16 : List (Option xRow) := [xqv (.iconst 0) 1 0, xq (.istore_n 2) 1, xq (.iload_n 1) 1, xqa (.ifCond .le 7) 3 10, xz, xz, xq (.iload_n 1) 1, xqa (.goto 4) 3 11, xz, xz, xqv (.iconst 0) 1 0, xq (.istore_n 3) 1, xq (.iload_n 3) 1, xq (.aload_n 0) 1, xqc (.getfield 15) 3 1 1 144, xz, xz, xqa (.if_icmp .ge 33) 3 50, xz, xz, xq (.iload_n 3) 1, xq (.aload_n 0) 1, xqc (.getfield 9) 3 1 0 143, xz, xz, xq .arraylength 1, xqa (.if_icmp .ge 24) 3 50, xz, xz, xq (.aload_n 0) 1, xqc (.getfield 9) 3 1 0 143, xz, xz, xq (.iload_n 2) 1, xq (.aload_n 0) 1, xqc (.getfield 9) 3 1 0 143, xz, xz, xq (.iload_n 3) 1, xq .caload 1, xq .castore 1, xqv (.iinc 2 1) 3 1, xz, xz, xqv (.iinc 3 1) 3 1, xz, xz, xqa (.goto (-35)) 3 12, xz, xz, xq (.aload_n 0) 1, xq (.iload_n 2) 1, xqc (.putfield 15) 3 1 1 144, xz, xz, xq .return_ 1]
-- TermReader$Operators.<init>()V
def xc_17 : List (Option xRow) := [xq (.aload_n 0) 1, xqc (.invokespecial 3) 3 1000 1 156, xz, xz, xq (.aload_n 0) 1, xqv (.bipush 25) 2 25, xz, xqc (.newarray .long) 2 0 0 245, xz, xqc (.putfield 11) 3 2 0 232, xz, xz, xq (.aload_n 0) 1, xqv (.bipush 25) 2 25, xz, xqc (.newarray .int) 2 0 0 246, xz, xqc (.putfield 15) 3 2 1 233, xz, xz, xq (.aload_n 0) 1, xqv (.bipush 25) 2 25, xz, xqc (.newarray .int) 2 0 0 246, xz, xqc (.putfield 19) 3 2 2 234, xz, xz, xq (.aload_n 0) 1, xqv (.iconst 0) 1 0, xqc (.putfield 22) 3 2 3 235, xz, xz, xq (.aload_n 0) 1, xqv (.sipush 1000) 3 1000, xz, xz, xqv (.iconst 1) 1 1, xqk (.ldc2_w 26) 3 0 0 157 44, xz, xz, xqc (.invokevirtual 28) 3 27 4 158, xz, xz, xq (.aload_n 0) 1, xqv (.sipush 1200) 3 1200, xz, xz, xqv (.iconst 0) 1 0, xqk (.ldc 32) 2 1 34 169 11578, xz, xqc (.invokestatic 34) 3 211 1 170, xz, xz, xqc (.invokevirtual 28) 3 27 4 158, xz, xz, xq (.aload_n 0) 1, xqv (.sipush 1200) 3 1200, xz, xz, xqv (.iconst 4) 1 4, xqk (.ldc 32) 2 1 34 169 11578, xz, xqc (.invokestatic 34) 3 211 1 170, xz, xz, xqc (.invokevirtual 28) 3 27 4 158, xz, xz, xq (.aload_n 0) 1, xqv (.sipush 1100) 3 1100, xz, xz, xqv (.iconst 1) 1 1, xqk (.ldc 40) 2 1 34 221 59, xz, xqc (.invokestatic 34) 3 211 1 170, xz, xz, xqc (.invokevirtual 28) 3 27 4 158, xz, xz, xq (.aload_n 0) 1, xqv (.sipush 1050) 3 1050, xz, xz, xqv (.iconst 1) 1 1, xqk (.ldc 42) 2 1 34 222 15917, xz, xqc (.invokestatic 34) 3 211 1 170, xz, xz, xqc (.invokevirtual 28) 3 27 4 158, xz, xz, xq (.aload_n 0) 1, xqv (.sipush 900) 3 900, xz, xz, xqv (.iconst 3) 1 3, xqk (.ldc 44) 2 1 34 223 11100, xz, xqc (.invokestatic 34) 3 211 1 170, xz, xz, xqc (.invokevirtual 28) 3 27 4 158, xz, xz, xq (.aload_n 0) 1, xqv (.sipush 700) 3 700, xz, xz, xqv (.iconst 0) 1 0, xqk (.ldc 46) 2 1 34 224 61, xz, xqc (.invokestatic 34) 3 211 1 170, xz, xz, xqc (.invokevirtual 28) 3 27 4 158, xz, xz, xq (.aload_n 0) 1, xqv (.sipush 700) 3 700, xz, xz, xqv (.iconst 0) 1 0, xqk (.ldc 48) 2 1 34 225 60, xz, xqc (.invokestatic 34) 3 211 1 170, xz, xz, xqc (.invokevirtual 28) 3 27 4 158, xz, xz, xq (.aload_n 0) 1, xqv (.sipush 700) 3 700, xz, xz, xqv (.iconst 0) 1 0, xqk (.ldc 50) 2 1 34 226 29545, xz, xqc (.invokestatic 34) 3 211 1 170, xz, xz, xqc (.invokevirtual 28) 3 27 4 158, xz, xz, xq (.aload_n 0) 1, xqv (.sipush 500) 3 500, xz, xz, xqv (.iconst 2) 1 2, xqk (.ldc 52) 2 1 34 227 43, xz, xqc (.invokestatic 34) 3 211 1 170, xz, xz, xqc (.invokevirtual 28) 3 27 4 158, xz, xz, xq (.aload_n 0) 1, xqv (.sipush 500) 3 500, xz, xz, xqv (.iconst 2) 1 2, xqk (.ldc2_w 54) 3 0 0 228 45, xz, xz, xqc (.invokevirtual 28) 3 27 4 158, xz, xz, xq (.aload_n 0) 1, xqv (.sipush 400) 3 400, xz, xz, xqv (.iconst 2) 1 2, xqk (.ldc 56) 2 1 34 229 42, xz, xqc (.invokestatic 34) 3 211 1 170, xz, xz, xqc (.invokevirtual 28) 3 27 4 158, xz, xz, xq (.aload_n 0) 1, xqv (.sipush 400) 3 400, xz, xz, xqv (.iconst 2) 1 2, xqk (.ldc 58) 2 1 34 230 47, xz, xqc (.invokestatic 34) 3 211 1 170, xz, xz, xqc (.invokevirtual 28) 3 27 4 158, xz, xz, xq (.aload_n 0) 1, xqv (.sipush 200) 3 200, xz, xz, xqv (.iconst 1) 1 1, xqk (.ldc 60) 2 1 34 231 94, xz, xqc (.invokestatic 34) 3 211 1 170, xz, xz, xqc (.invokevirtual 28) 3 27 4 158, xz, xz, xq (.aload_n 0) 1, xqv (.sipush 200) 3 200, xz, xz, xqv (.iconst 3) 1 3, xqk (.ldc2_w 54) 3 0 0 228 45, xz, xz, xqc (.invokevirtual 28) 3 27 4 158, xz, xz, xq .return_ 1]
-- TermReader$Operators.told()I
def xc_18 : List (Option xRow) := [xq (.aload_n 0) 1, xqc (.getfield 22) 3 2 3 235, xz, xz, xqv (.iconst 1) 1 1, xq .isub 1, xq .ireturn 1]
-- TermReader$Operators.isPrefixType(I)Z
def xc_19 : List (Option xRow) := [xq (.iload_n 0) 1, xqv (.iconst 3) 1 3, xqa (.if_icmp .eq 8) 3 10, xz, xz, xq (.iload_n 0) 1, xqv (.iconst 4) 1 4, xqa (.if_icmp .ne 7) 3 14, xz, xz, xqv (.iconst 1) 1 1, xqa (.goto 4) 3 15, xz, xz, xqv (.iconst 0) 1 0, xq .ireturn 1]
-- TermReader$Operators.isPostfixType(I)Z
def xc_20 : List (Option xRow) := [xq (.iload_n 0) 1, xqv (.iconst 5) 1 5, xqa (.if_icmp .eq 9) 3 11, xz, xz, xq (.iload_n 0) 1, xqv (.bipush 6) 2 6, xz, xqa (.if_icmp .ne 7) 3 15, xz, xz, xqv (.iconst 1) 1 1, xqa (.goto 4) 3 16, xz, xz, xqv (.iconst 0) 1 0, xq .ireturn 1]
-- TermReader$Operators.isSlot(I)Z
def xc_21 : List (Option xRow) := [xq (.iload_n 1) 1, xqa (.ifCond .lt 21) 3 22, xz, xz, xq (.iload_n 1) 1, xq (.aload_n 0) 1, xqc (.getfield 22) 3 2 3 235, xz, xz, xqa (.if_icmp .ge 13) 3 22, xz, xz, xq (.iload_n 1) 1, xqv (.bipush 25) 2 25, xz, xqa (.if_icmp .ge 7) 3 22, xz, xz, xqv (.iconst 1) 1 1, xqa (.goto 4) 3 23, xz, xz, xqv (.iconst 0) 1 0, xq .ireturn 1]
-- TermReader$Operators.find(ZJ)I
def xc_22 : List (Option xRow) := [xqv (.iconst 0) 1 0, xq (.istore 4) 2, xz, xq (.iload 4) 2, xz, xq (.aload_n 0) 1, xqc (.getfield 22) 3 2 3 235, xz, xz, xqa (.if_icmp .ge 45) 3 54, xz, xz, xq (.iload 4) 2, xz, xqv (.bipush 25) 2 25, xz, xqa (.if_icmp .ge 38) 3 54, xz, xz, xq (.aload_n 0) 1, xqc (.getfield 11) 3 2 0 232, xz, xz, xq (.iload 4) 2, xz, xq .laload 1, xq (.lload_n 2) 1, xq .lcmp 1, xqa (.ifCond .ne 20) 3 48, xz, xz, xq (.aload_n 0) 1, xqc (.getfield 19) 3 2 2 234, xz, xz, xq (.iload 4) 2, xz, xq .iaload 1, xqc (.invokestatic 62) 3 19 1 162, xz, xz, xq (.iload_n 1) 1, xqa (.if_icmp .ne 6) 3 48, xz, xz, xq (.iload 4) 2, xz, xq .ireturn 1, xqv (.iinc 4 1) 3 1, xz, xz, xqa (.goto (-48)) 3 3, xz, xz, xqv (.iconst (-1)) 1 (-1), xq .ireturn 1]
-- TermReader$Operators.prefix(J)I
def xc_23 : List (Option xRow) := [xq (.aload_n 0) 1, xqv (.iconst 1) 1 1, xq (.lload_n 1) 1, xqc (.invokevirtual 66) 3 22 3 165, xz, xz, xq .ireturn 1]
-- TermReader$Operators.behind(J)I
def xc_24 : List (Option xRow) := [xq (.aload_n 0) 1, xqv (.iconst 0) 1 0, xq (.lload_n 1) 1, xqc (.invokevirtual 66) 3 22 3 165, xz, xz, xq .ireturn 1]
-- TermReader$Operators.isOperator(J)Z
def xc_25 : List (Option xRow) := [xq (.aload_n 0) 1, xq (.lload_n 1) 1, xqc (.invokevirtual 70) 3 23 2 1007, xz, xz, xqv (.iconst (-1)) 1 (-1), xqa (.if_icmp .ne 12) 3 18, xz, xz, xq (.aload_n 0) 1, xq (.lload_n 1) 1, xqc (.invokevirtual 74) 3 24 2 1008, xz, xz, xqv (.iconst (-1)) 1 (-1), xqa (.if_icmp .eq 7) 3 22, xz, xz, xqv (.iconst 1) 1 1, xqa (.goto 4) 3 23, xz, xz, xqv (.iconst 0) 1 0, xq .ireturn 1]
-- TermReader$Operators.canTell(IJ)Z
def xc_26 : List (Option xRow) := [xq (.aload_n 0) 1, xq (.iload_n 1) 1, xqc (.invokestatic 62) 3 19 1 162, xz, xz, xq (.lload_n 2) 1, xqc (.invokevirtual 66) 3 22 3 165, xz, xz, xq (.istore 4) 2, xz, xq (.aload_n 0) 1, xq (.iload 4) 2, xz, xqc (.invokevirtual 77) 3 21 2 526, xz, xz, xqa (.ifCond .eq 28) 3 45, xz, xz, xq (.aload_n 0) 1, xqc (.getfield 19) 3 2 2 234, xz, xz, xq (.iload 4) 2, xz, xq .iaload 1, xqc (.invokestatic 80) 3 20 1 534, xz, xz, xq (.iload_n 1) 1, xqc (.invokestatic 80) 3 20 1 534, xz, xz, xqa (.if_icmp .ne 7) 3 41, xz, xz, xqv (.iconst 1) 1 1, xqa (.goto 21) 3 59, xz, xz, xqv (.iconst 0) 1 0, xqa (.goto 17) 3 59, xz, xz, xq (.aload_n 0) 1, xqc (.getfield 22) 3 2 3 235, xz, xz, xqv (.bipush 25) 2 25, xz, xqa (.if_icmp .ge 7) 3 58, xz, xz, xqv (.iconst 1) 1 1, xqa (.goto 4) 3 59, xz, xz, xqv (.iconst 0) 1 0, xq .ireturn 1]
-- TermReader$Operators.tell(IIJ)V
def xc_27 : List (Option xRow) := [xq (.aload_n 0) 1, xq (.iload_n 2) 1, xqc (.invokestatic 62) 3 19 1 162, xz, xz, xq (.lload_n 3) 1, xqc (.invokevirtual 66) 3 22 3 165, xz, xz, xq (.istore 5) 2, xz, xq (.iload 5) 2, xz, xqv (.iconst (-1)) 1 (-1), xqa (.if_icmp .ne 10) 3 24, xz, xz, xq (.aload_n 0) 1, xqc (.getfield 22) 3 2 3 235, xz, xz, xqa (.goto 5) 3 26, xz, xz, xq (.iload 5) 2, xz, xq (.istore 6) 2, xz, xq (.iload 6) 2, xz, xqa (.ifCond .lt 10) 3 40, xz, xz, xq (.iload 6) 2, xz, xqv (.bipush 25) 2 25, xz, xqa (.if_icmp .lt 4) 3 41, xz, xz, xq .return_ 1, xq (.aload_n 0) 1, xqc (.getfield 11) 3 2 0 232, xz, xz, xq (.iload 6) 2, xz, xq (.lload_n 3) 1, xq .lastore 1, xq (.aload_n 0) 1, xqc (.getfield 15) 3 2 1 233, xz, xz, xq (.iload 6) 2, xz, xq (.iload_n 1) 1, xq .iastore 1, xq (.aload_n 0) 1, xqc (.getfield 19) 3 2 2 234, xz, xz, xq (.iload 6) 2, xz, xq (.iload_n 2) 1, xq .iastore 1, xq (.iload 6) 2, xz, xq (.aload_n 0) 1, xqc (.getfield 22) 3 2 3 235, xz, xz, xqa (.if_icmp .ne 13) 3 84, xz, xz, xq (.aload_n 0) 1, xq .dup 1, xqc (.getfield 22) 3 2 3 235, xz, xz, xqv (.iconst 1) 1 1, xq .iadd 1, xqc (.putfield 22) 3 2 3 235, xz, xz, xq .return_ 1]
-- TermReader$Operators.takeBack(IJ)V
def xc_28 : List (Option xRow) := [xq (.aload_n 0) 1, xq (.iload_n 1) 1, xqc (.invokestatic 62) 3 19 1 162, xz, xz, xq (.lload_n 2) 1, xqc (.invokevirtual 66) 3 22 3 165, xz, xz, xq (.istore 4) 2, xz, xq (.aload_n 0) 1, xqc (.getfield 22) 3 2 3 235, xz, xz, xqv (.iconst 1) 1 1, xq .isub 1, xq (.istore 5) 2, xz, xq (.aload_n 0) 1, xq (.iload 4) 2, xz, xqc (.invokevirtual 77) 3 21 2 526, xz, xz, xqa (.ifCond .eq 12) 3 37, xz, xz, xq (.aload_n 0) 1, xq (.iload 5) 2, xz, xqc (.invokevirtual 77) 3 21 2 526, xz, xz, xqa (.ifCond .ne 4) 3 38, xz, xz, xq .return_ 1, xq (.aload_n 0) 1, xqc (.getfield 11) 3 2 0 232, xz, xz, xq (.iload 4) 2, xz, xq (.aload_n 0) 1, xqc (.getfield 11) 3 2 0 232, xz, xz, xq (.iload 5) 2, xz, xq .laload 1, xq .lastore 1, xq (.aload_n 0) 1, xqc (.getfield 15) 3 2 1 233, xz, xz, xq (.iload 4) 2, xz, xq (.aload_n 0) 1, xqc (.getfield 15) 3 2 1 233, xz, xz, xq (.iload 5) 2, xz, xq .iaload 1, xq .iastore 1, xq (.aload_n 0) 1, xqc (.getfield 19) 3 2 2 234, xz, xz, xq (.iload 4) 2, xz, xq (.aload_n 0) 1, xqc (.getfield 19) 3 2 2 234, xz, xz, xq (.iload 5) 2, xz, xq .iaload 1, xq .iastore 1, xq (.aload_n 0) 1, xq (.iload 5) 2, xz, xqc (.putfield 22) 3 2 3 235, xz, xz, xq .return_ 1]
-- TermReader$Operators.priority(I)I
def xc_29 : List (Option xRow) := [xq (.aload_n 0) 1, xq (.iload_n 1) 1, xqc (.invokevirtual 77) 3 21 2 526, xz, xz, xqa (.ifCond .eq 12) 3 17, xz, xz, xq (.aload_n 0) 1, xqc (.getfield 15) 3 2 1 233, xz, xz, xq (.iload_n 1) 1, xq .iaload 1, xqa (.goto 4) 3 18, xz, xz, xqv (.iconst 0) 1 0, xq .ireturn 1]
-- TermReader$Operators.type(I)I
def xc_30 : List (Option xRow) := [xq (.aload_n 0) 1, xq (.iload_n 1) 1, xqc (.invokevirtual 77) 3 21 2 526, xz, xz, xqa (.ifCond .eq 12) 3 17, xz, xz, xq (.aload_n 0) 1, xqc (.getfield 19) 3 2 2 234, xz, xz, xq (.iload_n 1) 1, xq .iaload 1, xqa (.goto 4) 3 18, xz, xz, xqv (.iconst (-1)) 1 (-1), xq .ireturn 1]
-- TermReader$Operators.isPrefix(I)Z
def xc_31 : List (Option xRow) := [xq (.aload_n 0) 1, xq (.iload_n 1) 1, xqc (.invokevirtual 83) 3 30 2 745, xz, xz, xqc (.invokestatic 62) 3 19 1 162, xz, xz, xq .ireturn 1]
-- TermReader$Operators.isPostfix(I)Z
def xc_32 : List (Option xRow) := [xq (.aload_n 0) 1, xq (.iload_n 1) 1, xqc (.invokevirtual 83) 3 30 2 745, xz, xz, xqc (.invokestatic 80) 3 20 1 534, xz, xz, xq .ireturn 1]
-- TermReader$Operators.isInfix(I)Z
def xc_33 : List (Option xRow) := [xq (.aload_n 0) 1, xq (.iload_n 1) 1, xqc (.invokevirtual 83) 3 30 2 745, xz, xz, xq (.istore_n 2) 1, xq (.iload_n 2) 1, xqa (.ifCond .eq 13) 3 20, xz, xz, xq (.iload_n 2) 1, xqv (.iconst 1) 1 1, xqa (.if_icmp .eq 8) 3 20, xz, xz, xq (.iload_n 2) 1, xqv (.iconst 2) 1 2, xqa (.if_icmp .ne 7) 3 24, xz, xz, xqv (.iconst 1) 1 1, xqa (.goto 4) 3 25, xz, xz, xqv (.iconst 0) 1 0, xq .ireturn 1]
-- TermReader$Operators.isOpenBehind(I)Z
def xc_34 : List (Option xRow) := [xq (.aload_n 0) 1, xq (.iload_n 1) 1, xqc (.invokevirtual 83) 3 30 2 745, xz, xz, xqv (.iconst 1) 1 1, xqa (.if_icmp .eq 12) 3 18, xz, xz, xq (.aload_n 0) 1, xq (.iload_n 1) 1, xqc (.invokevirtual 83) 3 30 2 745, xz, xz, xqv (.iconst 3) 1 3, xqa (.if_icmp .ne 7) 3 22, xz, xz, xqv (.iconst 1) 1 1, xqa (.goto 4) 3 23, xz, xz, xqv (.iconst 0) 1 0, xq .ireturn 1]
-- TermReader$Operators.leftMost(I)I
def xc_35 : List (Option xRow) := [xq (.aload_n 0) 1, xq (.iload_n 1) 1, xqc (.invokevirtual 83) 3 30 2 745, xz, xz, xqv (.iconst 2) 1 2, xqa (.if_icmp .eq 13) 3 19, xz, xz, xq (.aload_n 0) 1, xq (.iload_n 1) 1, xqc (.invokevirtual 83) 3 30 2 745, xz, xz, xqv (.bipush 6) 2 6, xz, xqa (.if_icmp .ne 11) 3 27, xz, xz, xq (.aload_n 0) 1, xq (.iload_n 1) 1, xqc (.invokevirtual 87) 3 29 2 749, xz, xz, xqa (.goto 10) 3 34, xz, xz, xq (.aload_n 0) 1, xq (.iload_n 1) 1, xqc (.invokevirtual 87) 3 29 2 749, xz, xz, xqv (.iconst 1) 1 1, xq .isub 1, xq .ireturn 1]
-- TermReader$Operators.rightMost(I)I
def xc_36 : List (Option xRow) := [xq (.aload_n 0) 1, xq (.iload_n 1) 1, xqc (.invokevirtual 90) 3 34 2 741, xz, xz, xqa (.ifCond .eq 11) 3 16, xz, xz, xq (.aload_n 0) 1, xq (.iload_n 1) 1, xqc (.invokevirtual 87) 3 29 2 749, xz, xz, xqa (.goto 10) 3 23, xz, xz, xq (.aload_n 0) 1, xq (.iload_n 1) 1, xqc (.invokevirtual 87) 3 29 2 749, xz, xz, xqv (.iconst 1) 1 1, xq .isub 1, xq .ireturn 1]
-- TermReader$Parser.<init>(LTermReader$Tokens;LTermReader$Operators;LTermReader$Parts;)V
def xc_37 : List (Option xRow) := [xq (.aload_n 0) 1, xqc (.invokespecial 3) 3 1000 1 328, xz, xz, xq (.aload_n 0) 1, xq (.aload_n 1) 1, xqc (.putfield 9) 3 3 0 329, xz, xz, xq (.aload_n 0) 1, xq (.aload_n 2) 1, xqc (.putfield 15) 3 3 1 330, xz, xz, xq (.aload_n 0) 1, xq (.aload_n 3) 1, xqc (.putfield 19) 3 3 2 331, xz, xz, xq (.aload_n 0) 1, xqv (.iconst 0) 1 0, xqc (.putfield 23) 3 3 3 332, xz, xz, xq (.aload_n 0) 1, xqv (.iconst 0) 1 0, xqc (.putfield 27) 3 3 4 333, xz, xz, xq .return_ 1]
-- TermReader$Parser.whole()I
def xc_38 : List (Option xRow) := [xq (.aload_n 0) 1, xqv (.iconst 0) 1 0, xqc (.putfield 23) 3 3 3 332, xz, xz, xq (.aload_n 0) 1, xqv (.sipush 1200) 3 1200, xz, xz, xqv (.iconst 0) 1 0, xqc (.invokevirtual 30) 3 40 3 674, xz, xz, xq (.istore_n 1) 1, xq (.aload_n 0) 1, xqc (.getfield 9) 3 3 0 329, xz, xz, xq (.aload_n 0) 1, xqc (.getfield 23) 3 3 3 332, xz, xz, xqc (.invokevirtual 34) 3 85 2 682, xz, xz, xqa (.ifCond .ne 7) 3 32, xz, xz, xq (.iload_n 1) 1, xqa (.goto 4) 3 33, xz, xz, xqv (.iconst (-1)) 1 (-1), xq .ireturn 1]
-- TermReader$Parser.end()I
def xc_39 : List (Option xRow) := [xq (.aload_n 0) 1, xqc (.getfield 9) 3 3 0 329, xz, xz, xq (.aload_n 0) 1, xqc (.getfield 23) 3 3 3 332, xz, xz, xqc (.invokevirtual 40) 3 86 2 887, xz, xz, xq .ireturn 1]
-- TermReader$Parser.term(II)I
def xc_40 : List (Option xRow) := [xq (.iload_n 2) 1, xqv (.bipush 10) 2 10, xz, xqa (.if_icmp .le 5) 3 8, xz, xz, xqv (.iconst (-1)) 1 (-1), xq .ireturn 1, xq (.aload_n 0) 1, xq (.iload_n 1) 1, xqc (.invokevirtual 43) 3 41 2 678, xz, xz, xqa (.ifCond .eq 15) 3 28, xz, xz, xq (.aload_n 0) 1, xq (.aload_n 0) 1, xq (.iload_n 2) 1, xqc (.invokevirtual 47) 3 43 2 733, xz, xz, xq (.iload_n 1) 1, xq (.iload_n 2) 1, xqc (.invokevirtual 50) 3 44 4 778, xz, xz, xq .ireturn 1, xq (.aload_n 0) 1, xq (.iload_n 2) 1, xqc (.invokevirtual 54) 3 48 2 811, xz, xz, xq (.istore_n 3) 1, xq (.aload_n 0) 1, xqv (.iconst 0) 1 0, xqc (.putfield 27) 3 3 4 333, xz, xz, xq (.aload_n 0) 1, xq (.iload_n 3) 1, xq (.iload_n 1) 1, xq (.iload_n 2) 1, xqc (.invokevirtual 50) 3 44 4 778, xz, xz, xq .ireturn 1]
-- TermReader$Parser.isPrefixed(I)Z
def xc_41 : List (Option xRow) := [xq (.aload_n 0) 1, xqc (.getfield 9) 3 3 0 329, xz, xz, xq (.aload_n 0) 1, xqc (.getfield 23) 3 3 3 332, xz, xz, xqc (.invokevirtual 34) 3 85 2 682, xz, xz, xqv (.iconst 1) 1 1, xqa (.if_icmp .ne 31) 3 43, xz, xz, xq (.aload_n 0) 1, xqc (.getfield 9) 3 3 0 329, xz, xz, xq (.aload_n 0) 1, xqc (.getfield 23) 3 3 3 332, xz, xz, xqc (.invokevirtual 57) 3 93 2 683, xz, xz, xqa (.ifCond .ne 17) 3 43, xz, xz, xq (.aload_n 0) 1, xqc (.getfield 9) 3 3 0 329, xz, xz, xq (.aload_n 0) 1, xqc (.getfield 23) 3 3 3 332, xz, xz, xqc (.invokevirtual 60) 3 94 2 699, xz, xz, xqa (.ifCond .eq 5) 3 45, xz, xz, xqv (.iconst 0) 1 0, xq .ireturn 1, xq (.aload_n 0) 1, xqc (.getfield 15) 3 3 1 330, xz, xz, xq (.aload_n 0) 1, xqc (.getfield 9) 3 3 0 329, xz, xz, xq (.aload_n 0) 1, xqc (.getfield 23) 3 3 3 332, xz, xz, xqc (.invokevirtual 63) 3 89 2 712, xz, xz, xqc (.invokevirtual 67) 3 23 2 713, xz, xz, xq (.istore_n 2) 1, xq (.iload_n 2) 1, xqv (.iconst (-1)) 1 (-1), xqa (.if_icmp .eq 48) 3 114, xz, xz, xq (.aload_n 0) 1, xqc (.getfield 15) 3 3 1 330, xz, xz, xq (.iload_n 2) 1, xqc (.invokevirtual 73) 3 29 2 717, xz, xz, xq (.iload_n 1) 1, xqa (.if_icmp .gt 36) 3 114, xz, xz, xq (.aload_n 0) 1, xqc (.getfield 9) 3 3 0 329, xz, xz, xq (.aload_n 0) 1, xqc (.getfield 23) 3 3 3 332, xz, xz, xqv (.iconst 1) 1 1, xq .iadd 1, xqc (.invokevirtual 75) 3 96 2 721, xz, xz, xqa (.ifCond .eq 20) 3 114, xz, xz, xq (.aload_n 0) 1, xq (.aload_n 0) 1, xqc (.getfield 23) 3 3 3 332, xz, xz, xqv (.iconst 1) 1 1, xq .iadd 1, xqc (.invokevirtual 78) 3 42 2 725, xz, xz, xqa (.ifCond .ne 7) 3 114, xz, xz, xqv (.iconst 1) 1 1, xqa (.goto 4) 3 115, xz, xz, xqv (.iconst 0) 1 0, xq .ireturn 1]
-- TermReader$Parser.isBareBehind(I)Z
def xc_42 : List (Option xRow) := [xq (.aload_n 0) 1, xqc (.getfield 9) 3 3 0 329, xz, xz, xq (.iload_n 1) 1, xqc (.invokevirtual 34) 3 85 2 682, xz, xz, xqv (.iconst 1) 1 1, xqa (.if_icmp .ne 25) 3 34, xz, xz, xq (.aload_n 0) 1, xqc (.getfield 9) 3 3 0 329, xz, xz, xq (.iload_n 1) 1, xqc (.invokevirtual 57) 3 93 2 683, xz, xz, xqa (.ifCond .ne 14) 3 34, xz, xz, xq (.aload_n 0) 1, xqc (.getfield 9) 3 3 0 329, xz, xz, xq (.iload_n 1) 1, xqc (.invokevirtual 60) 3 94 2 699, xz, xz, xqa (.ifCond .eq 5) 3 36, xz, xz, xqv (.iconst 0) 1 0, xq .ireturn 1, xq (.aload_n 0) 1, xqc (.getfield 9) 3 3 0 329, xz, xz, xq (.iload_n 1) 1, xqc (.invokevirtual 63) 3 89 2 712, xz, xz, xq (.lstore_n 2) 1, xq (.aload_n 0) 1, xqc (.getfield 15) 3 3 1 330, xz, xz, xq (.lload_n 2) 1, xqc (.invokevirtual 81) 3 24 2 729, xz, xz, xqv (.iconst (-1)) 1 (-1), xqa (.if_icmp .eq 19) 3 73, xz, xz, xq (.aload_n 0) 1, xqc (.getfield 15) 3 3 1 330, xz, xz, xq (.lload_n 2) 1, xqc (.invokevirtual 67) 3 23 2 713, xz, xz, xqv (.iconst (-1)) 1 (-1), xqa (.if_icmp .ne 7) 3 73, xz, xz, xqv (.iconst 1) 1 1, xqa (.goto 4) 3 74, xz, xz, xqv (.iconst 0) 1 0, xq .ireturn 1]
-- TermReader$Parser.prefixed(I)I
def xc_43 : List (Option xRow) := [xq (.aload_n 0) 1, xqc (.getfield 23) 3 3 3 332, xz, xz, xq (.istore_n 2) 1, xq (.aload_n 0) 1, xqc (.getfield 15) 3 3 1 330, xz, xz, xq (.aload_n 0) 1, xqc (.getfield 9) 3 3 0 329, xz, xz, xq (.iload_n 2) 1, xqc (.invokevirtual 63) 3 89 2 712, xz, xz, xqc (.invokevirtual 67) 3 23 2 713, xz, xz, xq (.istore_n 3) 1, xq (.aload_n 0) 1, xq .dup 1, xqc (.getfield 23) 3 3 3 332, xz, xz, xqv (.iconst 1) 1 1, xq .iadd 1, xqc (.putfield 23) 3 3 3 332, xz, xz, xq (.aload_n 0) 1, xq (.aload_n 0) 1, xqc (.getfield 15) 3 3 1 330, xz, xz, xq (.iload_n 3) 1, xqc (.invokevirtual 84) 3 36 2 737, xz, xz, xq (.iload_n 1) 1, xqv (.iconst 1) 1 1, xq .iadd 1, xqc (.invokevirtual 30) 3 40 3 674, xz, xz, xq (.istore 4) 2, xz, xq (.aload_n 0) 1, xq (.aload_n 0) 1, xqc (.getfield 15) 3 3 1 330, xz, xz, xq (.iload_n 3) 1, xqc (.invokevirtual 73) 3 29 2 717, xz, xz, xqc (.putfield 27) 3 3 4 333, xz, xz, xq (.aload_n 0) 1, xqc (.getfield 19) 3 3 2 331, xz, xz, xq (.aload_n 0) 1, xqc (.getfield 9) 3 3 0 329, xz, xz, xq (.iload_n 2) 1, xqc (.invokevirtual 87) 3 87 2 750, xz, xz, xq (.aload_n 0) 1, xqc (.getfield 9) 3 3 0 329, xz, xz, xq (.iload_n 2) 1, xqc (.invokevirtual 90) 3 88 2 751, xz, xz, xq (.iload 4) 2, xz, xqc (.invokevirtual 93) 3 78 4 755, xz, xz, xq .ireturn 1]
-- TermReader$Parser.rest(III)I
def xc_44 : List (Option xRow) := [xq (.iload_n 1) 1, xq (.istore 4) 2, xz, xqv (.iconst 0) 1 0, xq (.istore 5) 2, xz, xq (.iload 5) 2, xz, xqv (.bipush 120) 2 120, xz, xqa (.if_icmp .ge 158) 3 168, xz, xz, xq (.iload 4) 2, xz, xqv (.iconst (-1)) 1 (-1), xqa (.if_icmp .eq 152) 3 168, xz, xz, xq (.aload_n 0) 1, xqc (.getfield 15) 3 3 1 330, xz, xz, xq (.aload_n 0) 1, xqc (.getfield 9) 3 3 0 329, xz, xz, xq (.aload_n 0) 1, xqc (.getfield 23) 3 3 3 332, xz, xz, xqc (.invokevirtual 63) 3 89 2 712, xz, xz, xqc (.invokevirtual 81) 3 24 2 729, xz, xz, xq (.istore 6) 2, xz, xq (.iload 6) 2, xz, xqv (.iconst (-1)) 1 (-1), xqa (.if_icmp .eq 36) 3 78, xz, xz, xq (.aload_n 0) 1, xqc (.getfield 15) 3 3 1 330, xz, xz, xq (.iload 6) 2, xz, xqc (.invokevirtual 73) 3 29 2 717, xz, xz, xq (.iload_n 2) 1, xqa (.if_icmp .gt 23) 3 78, xz, xz, xq (.aload_n 0) 1, xqc (.getfield 27) 3 3 4 333, xz, xz, xq (.aload_n 0) 1, xqc (.getfield 15) 3 3 1 330, xz, xz, xq (.iload 6) 2, xz, xqc (.invokevirtual 98) 3 35 2 782, xz, xz, xqa (.if_icmp .gt 7) 3 78, xz, xz, xqv (.iconst 1) 1 1, xqa (.goto 4) 3 79, xz, xz, xqv (.iconst 0) 1 0, xq (.istore 7) 2, xz, xq (.iload 7) 2, xz, xqa (.ifCond .eq 31) 3 114, xz, xz, xq (.aload_n 0) 1, xqc (.getfield 15) 3 3 1 330, xz, xz, xq (.iload 6) 2, xz, xqc (.invokevirtual 101) 3 33 2 786, xz, xz, xqa (.ifCond .eq 22) 3 117, xz, xz, xq (.aload_n 0) 1, xqc (.getfield 9) 3 3 0 329, xz, xz, xq (.aload_n 0) 1, xqc (.getfield 23) 3 3 3 332, xz, xz, xqv (.iconst 1) 1 1, xq .iadd 1, xqc (.invokevirtual 75) 3 96 2 721, xz, xz, xqa (.ifCond .ne 6) 3 117, xz, xz, xq (.iload 4) 2, xz, xq .ireturn 1, xq (.aload_n 0) 1, xqc (.getfield 15) 3 3 1 330, xz, xz, xq (.iload 6) 2, xz, xqc (.invokevirtual 101) 3 33 2 786, xz, xz, xqa (.ifCond .eq 15) 3 141, xz, xz, xq (.aload_n 0) 1, xq (.iload 4) 2, xz, xq (.iload 6) 2, xz, xq (.iload_n 3) 1, xqc (.invokevirtual 104) 3 45 4 790, xz, xz, xqa (.goto 9) 3 147, xz, xz, xq (.aload_n 0) 1, xq (.iload 4) 2, xz, xqc (.invokevirtual 107) 3 47 2 807, xz, xz, xq (.istore 4) 2, xz, xq (.aload_n 0) 1, xq (.aload_n 0) 1, xqc (.getfield 15) 3 3 1 330, xz, xz, xq (.iload 6) 2, xz, xqc (.invokevirtual 73) 3 29 2 717, xz, xz, xqc (.putfield 27) 3 3 4 333, xz, xz, xqv (.iinc 5 1) 3 1, xz, xz, xqa (.goto (-159)) 3 6, xz, xz, xq (.iload 4) 2, xz, xq .ireturn 1]
-- TermReader$Parser.infixed(III)I
def xc_45 : List (Option xRow) := [xq (.aload_n 0) 1, xqc (.getfield 23) 3 3 3 332, xz, xz, xq (.istore 4) 2, xz, xq (.aload_n 0) 1, xq .dup 1, xqc (.getfield 23) 3 3 3 332, xz, xz, xqv (.iconst 1) 1 1, xq .iadd 1, xqc (.putfield 23) 3 3 3 332, xz, xz, xq (.aload_n 0) 1, xq (.aload_n 0) 1, xqc (.getfield 15) 3 3 1 330, xz, xz, xq (.iload_n 2) 1, xqc (.invokevirtual 84) 3 36 2 737, xz, xz, xq (.iload_n 3) 1, xqv (.iconst 1) 1 1, xq .iadd 1, xqc (.invokevirtual 30) 3 40 3 674, xz, xz, xq (.istore 5) 2, xz, xq (.aload_n 0) 1, xq (.iload 4) 2, xz, xq (.iload_n 1) 1, xq (.iload 5) 2, xz, xqc (.invokevirtual 110) 3 46 4 794, xz, xz, xq .ireturn 1]
-- TermReader$Parser.named(III)I
def xc_46 : List (Option xRow) := [xq (.aload_n 0) 1, xqc (.getfield 9) 3 3 0 329, xz, xz, xq (.iload_n 1) 1, xqc (.invokevirtual 34) 3 85 2 682, xz, xz, xqv (.iconst 1) 1 1, xqa (.if_icmp .ne 29) 3 38, xz, xz, xq (.aload_n 0) 1, xqc (.getfield 19) 3 3 2 331, xz, xz, xq (.aload_n 0) 1, xqc (.getfield 9) 3 3 0 329, xz, xz, xq (.iload_n 1) 1, xqc (.invokevirtual 87) 3 87 2 750, xz, xz, xq (.aload_n 0) 1, xqc (.getfield 9) 3 3 0 329, xz, xz, xq (.iload_n 1) 1, xqc (.invokevirtual 90) 3 88 2 751, xz, xz, xq (.iload_n 2) 1, xq (.iload_n 3) 1, xqc (.invokevirtual 113) 3 79 5 798, xz, xz, xq .ireturn 1, xq (.aload_n 0) 1, xqc (.getfield 19) 3 3 2 331, xz, xz, xqv (.iconst 5) 1 5, xqv (.iconst 1) 1 1, xq (.iload_n 2) 1, xq (.iload_n 3) 1, xqc (.invokevirtual 113) 3 79 5 798, xz, xz, xq .ireturn 1]
-- TermReader$Parser.postfixed(I)I
def xc_47 : List (Option xRow) := [xq (.aload_n 0) 1, xqc (.getfield 23) 3 3 3 332, xz, xz, xq (.istore_n 2) 1, xq (.aload_n 0) 1, xq .dup 1, xqc (.getfield 23) 3 3 3 332, xz, xz, xqv (.iconst 1) 1 1, xq .iadd 1, xqc (.putfield 23) 3 3 3 332, xz, xz, xq (.aload_n 0) 1, xqc (.getfield 19) 3 3 2 331, xz, xz, xq (.aload_n 0) 1, xqc (.getfield 9) 3 3 0 329, xz, xz, xq (.iload_n 2) 1, xqc (.invokevirtual 87) 3 87 2 750, xz, xz, xq (.aload_n 0) 1, xqc (.getfield 9) 3 3 0 329, xz, xz, xq (.iload_n 2) 1, xqc (.invokevirtual 90) 3 88 2 751, xz, xz, xq (.iload_n 1) 1, xqc (.invokevirtual 93) 3 78 4 755, xz, xz, xq .ireturn 1]
-- TermReader$Parser.unit(I)I
def xc_48 : List (Option xRow) := [xq (.aload_n 0) 1, xqc (.getfield 23) 3 3 3 332, xz, xz, xq (.istore_n 2) 1, xq (.aload_n 0) 1, xqc (.getfield 9) 3 3 0 329, xz, xz, xq (.iload_n 2) 1, xqc (.invokevirtual 34) 3 85 2 682, xz, xz, xqs (.tableswitch 115 1 5 #[103, 61, 35, 87, 109]) 35 128 [(1, 116), (2, 74), (3, 48), (4, 100), (5, 122)], xz, xz, xz, xz, xz, xz, xz, xz, xz, xz, xz, xz, xz, xz, xz, xz, xz, xz, xz, xz, xz, xz, xz, xz, xz, xz, xz, xz, xz, xz, xz, xz, xz, xz, xq (.aload_n 0) 1, xq .dup 1, xqc (.getfield 23) 3 3 3 332, xz, xz, xqv (.iconst 1) 1 1, xq .iadd 1, xqc (.putfield 23) 3 3 3 332, xz, xz, xq (.aload_n 0) 1, xqc (.getfield 19) 3 3 2 331, xz, xz, xq (.aload_n 0) 1, xqc (.getfield 9) 3 3 0 329, xz, xz, xq (.iload_n 2) 1, xqc (.invokevirtual 87) 3 87 2 750, xz, xz, xqc (.invokevirtual 117) 3 76 2 815, xz, xz, xq .ireturn 1, xq (.aload_n 0) 1, xq .dup 1, xqc (.getfield 23) 3 3 3 332, xz, xz, xqv (.iconst 1) 1 1, xq .iadd 1, xqc (.putfield 23) 3 3 3 332, xz, xz, xq (.aload_n 0) 1, xqc (.getfield 19) 3 3 2 331, xz, xz, xq (.aload_n 0) 1, xqc (.getfield 9) 3 3 0 329, xz, xz, xq (.iload_n 2) 1, xqc (.invokevirtual 87) 3 87 2 750, xz, xz, xqc (.invokevirtual 120) 3 75 2 819, xz, xz, xq .ireturn 1, xq (.aload_n 0) 1, xq .dup 1, xqc (.getfield 23) 3 3 3 332, xz, xz, xqv (.iconst 1) 1 1, xq .iadd 1, xqc (.putfield 23) 3 3 3 332, xz, xz, xq (.aload_n 0) 1, xq (.iload_n 2) 1, xqc (.invokevirtual 123) 3 49 2 823, xz, xz, xq .ireturn 1, xq (.aload_n 0) 1, xq (.iload_n 1) 1, xqc (.invokevirtual 126) 3 50 2 835, xz, xz, xq .ireturn 1, xq (.aload_n 0) 1, xq (.iload_n 1) 1, xqc (.invokevirtual 129) 3 53 2 849, xz, xz, xq .ireturn 1, xqv (.iconst (-1)) 1 (-1), xq .ireturn 1]
-- TermReader$Parser.string(I)I
def xc_49 : List (Option xRow) := [xq (.aload_n 0) 1, xqc (.getfield 19) 3 3 2 331, xz, xz, xqv (.iconst 1) 1 1, xqv (.iconst 2) 1 2, xqc (.invokevirtual 132) 3 77 3 827, xz, xz, xq (.istore_n 2) 1, xq (.aload_n 0) 1, xqc (.getfield 9) 3 3 0 329, xz, xz, xq (.iload_n 1) 1, xqc (.invokevirtual 90) 3 88 2 751, xz, xz, xqv (.iconst 1) 1 1, xq .isub 1, xq (.istore_n 3) 1, xq (.iload_n 3) 1, xqa (.ifCond .lt 40) 3 62, xz, xz, xq (.aload_n 0) 1, xqc (.getfield 19) 3 3 2 331, xz, xz, xq (.aload_n 0) 1, xqc (.getfield 9) 3 3 0 329, xz, xz, xq (.iload_n 1) 1, xq (.iload_n 3) 1, xqc (.invokevirtual 135) 3 90 3 831, xz, xz, xqc (.invokevirtual 117) 3 76 2 815, xz, xz, xq (.istore 4) 2, xz, xq (.aload_n 0) 1, xqc (.getfield 19) 3 3 2 331, xz, xz, xqv (.iconst 0) 1 0, xqv (.iconst 1) 1 1, xq (.iload 4) 2, xz, xq (.iload_n 2) 1, xqc (.invokevirtual 113) 3 79 5 798, xz, xz, xq (.istore_n 2) 1, xqv (.iinc 3 (-1)) 3 (-1), xz, xz, xqa (.goto (-38)) 3 21, xz, xz, xq (.iload_n 2) 1, xq .ireturn 1]
-- TermReader$Parser.name(I)I
def xc_50 : List (Option xRow) := [xq (.aload_n 0) 1, xqc (.getfield 23) 3 3 3 332, xz, xz, xq (.istore_n 2) 1, xq (.aload_n 0) 1, xqc (.getfield 9) 3 3 0 329, xz, xz, xq (.iload_n 2) 1, xqc (.invokevirtual 60) 3 94 2 699, xz, xz, xqa (.ifCond .eq 32) 3 45, xz, xz, xq (.aload_n 0) 1, xq .dup 1, xqc (.getfield 23) 3 3 3 332, xz, xz, xqv (.iconst 2) 1 2, xq .iadd 1, xqc (.putfield 23) 3 3 3 332, xz, xz, xq (.aload_n 0) 1, xqc (.getfield 19) 3 3 2 331, xz, xz, xq (.aload_n 0) 1, xqc (.getfield 9) 3 3 0 329, xz, xz, xq (.iload_n 2) 1, xqv (.iconst 1) 1 1, xq .iadd 1, xqc (.invokevirtual 87) 3 87 2 750, xz, xz, xq .ineg 1, xqc (.invokevirtual 117) 3 76 2 815, xz, xz, xq .ireturn 1, xq (.aload_n 0) 1, xqc (.getfield 9) 3 3 0 329, xz, xz, xq (.iload_n 2) 1, xqc (.invokevirtual 57) 3 93 2 683, xz, xz, xqa (.ifCond .eq 42) 3 95, xz, xz, xq (.aload_n 0) 1, xq .dup 1, xqc (.getfield 23) 3 3 3 332, xz, xz, xqv (.iconst 2) 1 2, xq .iadd 1, xqc (.putfield 23) 3 3 3 332, xz, xz, xq (.aload_n 0) 1, xqc (.getfield 19) 3 3 2 331, xz, xz, xq (.aload_n 0) 1, xqc (.getfield 9) 3 3 0 329, xz, xz, xq (.iload_n 2) 1, xqc (.invokevirtual 87) 3 87 2 750, xz, xz, xq (.aload_n 0) 1, xqc (.getfield 9) 3 3 0 329, xz, xz, xq (.iload_n 2) 1, xqc (.invokevirtual 90) 3 88 2 751, xz, xz, xq (.aload_n 0) 1, xq (.iload_n 1) 1, xqc (.invokevirtual 138) 3 51 2 839, xz, xz, xqc (.invokevirtual 93) 3 78 4 755, xz, xz, xq .ireturn 1, xq (.aload_n 0) 1, xq .dup 1, xqc (.getfield 23) 3 3 3 332, xz, xz, xqv (.iconst 1) 1 1, xq .iadd 1, xqc (.putfield 23) 3 3 3 332, xz, xz, xq (.aload_n 0) 1, xqc (.getfield 19) 3 3 2 331, xz, xz, xq (.aload_n 0) 1, xqc (.getfield 9) 3 3 0 329, xz, xz, xq (.iload_n 2) 1, xqc (.invokevirtual 87) 3 87 2 750, xz, xz, xq (.aload_n 0) 1, xqc (.getfield 9) 3 3 0 329, xz, xz, xq (.iload_n 2) 1, xqc (.invokevirtual 90) 3 88 2 751, xz, xz, xqc (.invokevirtual 132) 3 77 3 827, xz, xz, xq .ireturn 1]
-- TermReader$Parser.arguments(I)I
def xc_51 : List (Option xRow) := [xqv (.iconst (-1)) 1 (-1), xq (.istore_n 2) 1, xqv (.iconst (-1)) 1 (-1), xq (.istore_n 3) 1, xqv (.iconst 0) 1 0, xq (.istore 4) 2, xz, xq (.iload 4) 2, xz, xqv (.bipush 6) 2 6, xz, xqa (.if_icmp .ge 78) 3 89, xz, xz, xq (.aload_n 0) 1, xqv (.sipush 999) 3 999, xz, xz, xq (.iload_n 1) 1, xqv (.iconst 1) 1 1, xq .iadd 1, xqc (.invokevirtual 30) 3 40 3 674, xz, xz, xq (.istore 5) 2, xz, xq (.iload 5) 2, xz, xqv (.iconst (-1)) 1 (-1), xqa (.if_icmp .ne 5) 3 34, xz, xz, xqv (.iconst (-1)) 1 (-1), xq .ireturn 1, xq (.iload 4) 2, xz, xqa (.ifCond .ne 8) 3 44, xz, xz, xq (.iload 5) 2, xz, xqa (.goto 4) 3 45, xz, xz, xq (.iload_n 2) 1, xq (.istore_n 2) 1, xq (.aload_n 0) 1, xqc (.getfield 19) 3 3 2 331, xz, xz, xq (.iload_n 3) 1, xq (.iload 5) 2, xz, xqc (.invokevirtual 141) 3 67 3 843, xz, xz, xq (.iload 5) 2, xz, xq (.istore_n 3) 1, xq (.aload_n 0) 1, xqv (.bipush 44) 2 44, xz, xqc (.invokevirtual 145) 3 52 2 844, xz, xz, xqa (.ifCond .ne 18) 3 83, xz, xz, xq (.aload_n 0) 1, xqv (.bipush 41) 2 41, xz, xqc (.invokevirtual 145) 3 52 2 844, xz, xz, xqa (.ifCond .eq 7) 3 81, xz, xz, xq (.iload_n 2) 1, xqa (.goto 4) 3 82, xz, xz, xqv (.iconst (-1)) 1 (-1), xq .ireturn 1, xqv (.iinc 4 1) 3 1, xz, xz, xqa (.goto (-79)) 3 7, xz, xz, xqv (.iconst (-1)) 1 (-1), xq .ireturn 1]
-- TermReader$Parser.take(I)Z
def xc_52 : List (Option xRow) := [xq (.aload_n 0) 1, xqc (.getfield 9) 3 3 0 329, xz, xz, xq (.aload_n 0) 1, xqc (.getfield 23) 3 3 3 332, xz, xz, xq (.iload_n 1) 1, xqc (.invokevirtual 148) 3 91 3 848, xz, xz, xqa (.ifCond .ne 5) 3 17, xz, xz, xqv (.iconst 0) 1 0, xq .ireturn 1, xq (.aload_n 0) 1, xq .dup 1, xqc (.getfield 23) 3 3 3 332, xz, xz, xqv (.iconst 1) 1 1, xq .iadd 1, xqc (.putfield 23) 3 3 3 332, xz, xz, xqv (.iconst 1) 1 1, xq .ireturn 1]
-- TermReader$Parser.enclosed(I)I
def xc_53 : List (Option xRow) := [xq (.aload_n 0) 1, xqv (.bipush 40) 2 40, xz, xqc (.invokevirtual 145) 3 52 2 844, xz, xz, xqa (.ifCond .eq 29) 3 35, xz, xz, xq (.aload_n 0) 1, xqv (.sipush 1200) 3 1200, xz, xz, xq (.iload_n 1) 1, xqv (.iconst 1) 1 1, xq .iadd 1, xqc (.invokevirtual 30) 3 40 3 674, xz, xz, xq (.istore_n 2) 1, xq (.aload_n 0) 1, xqv (.bipush 41) 2 41, xz, xqc (.invokevirtual 145) 3 52 2 844, xz, xz, xqa (.ifCond .eq 7) 3 33, xz, xz, xq (.iload_n 2) 1, xqa (.goto 4) 3 34, xz, xz, xqv (.iconst (-1)) 1 (-1), xq .ireturn 1, xq (.aload_n 0) 1, xqv (.bipush 123) 2 123, xz, xqc (.invokevirtual 145) 3 52 2 844, xz, xz, xqa (.ifCond .eq 38) 3 79, xz, xz, xq (.aload_n 0) 1, xqv (.sipush 1200) 3 1200, xz, xz, xq (.iload_n 1) 1, xqv (.iconst 1) 1 1, xq .iadd 1, xqc (.invokevirtual 30) 3 40 3 674, xz, xz, xq (.istore_n 2) 1, xq (.aload_n 0) 1, xqv (.bipush 125) 2 125, xz, xqc (.invokevirtual 145) 3 52 2 844, xz, xz, xqa (.ifCond .eq 16) 3 77, xz, xz, xq (.aload_n 0) 1, xqc (.getfield 19) 3 3 2 331, xz, xz, xqv (.iconst 3) 1 3, xqv (.iconst 2) 1 2, xq (.iload_n 2) 1, xqc (.invokevirtual 93) 3 78 4 755, xz, xz, xqa (.goto 4) 3 78, xz, xz, xqv (.iconst (-1)) 1 (-1), xq .ireturn 1, xq (.aload_n 0) 1, xqv (.bipush 91) 2 91, xz, xqc (.invokevirtual 145) 3 52 2 844, xz, xz, xqa (.ifCond .eq 11) 3 96, xz, xz, xq (.aload_n 0) 1, xq (.iload_n 1) 1, xqc (.invokevirtual 152) 3 54 2 853, xz, xz, xqa (.goto 4) 3 97, xz, xz, xqv (.iconst (-1)) 1 (-1), xq .ireturn 1]
-- TermReader$Parser.list(I)I
def xc_54 : List (Option xRow) := [xqv (.iconst (-1)) 1 (-1), xq (.istore_n 2) 1, xqv (.iconst 0) 1 0, xq (.istore_n 3) 1, xq (.iload_n 3) 1, xqv (.bipush 120) 2 120, xz, xqa (.if_icmp .ge 54) 3 61, xz, xz, xq (.aload_n 0) 1, xqv (.sipush 999) 3 999, xz, xz, xq (.iload_n 1) 1, xqv (.iconst 1) 1 1, xq .iadd 1, xqc (.invokevirtual 30) 3 40 3 674, xz, xz, xq (.istore 4) 2, xz, xq (.iload 4) 2, xz, xqv (.iconst (-1)) 1 (-1), xqa (.if_icmp .ne 5) 3 30, xz, xz, xqv (.iconst (-1)) 1 (-1), xq .ireturn 1, xq (.aload_n 0) 1, xqc (.getfield 19) 3 3 2 331, xz, xz, xq (.iload 4) 2, xz, xq (.iload_n 2) 1, xqc (.invokevirtual 141) 3 67 3 843, xz, xz, xq (.iload 4) 2, xz, xq (.istore_n 2) 1, xq (.aload_n 0) 1, xqv (.bipush 44) 2 44, xz, xqc (.invokevirtual 145) 3 52 2 844, xz, xz, xqa (.ifCond .ne 6) 3 55, xz, xz, xqa (.goto 9) 3 61, xz, xz, xqv (.iinc 3 1) 3 1, xz, xz, xqa (.goto (-54)) 3 4, xz, xz, xq (.aload_n 0) 1, xqv (.bipush 124) 2 124, xz, xqc (.invokevirtual 145) 3 52 2 844, xz, xz, xqa (.ifCond .eq 16) 3 83, xz, xz, xq (.aload_n 0) 1, xqv (.sipush 999) 3 999, xz, xz, xq (.iload_n 1) 1, xqv (.iconst 1) 1 1, xq .iadd 1, xqc (.invokevirtual 30) 3 40 3 674, xz, xz, xqa (.goto 12) 3 92, xz, xz, xq (.aload_n 0) 1, xqc (.getfield 19) 3 3 2 331, xz, xz, xqv (.iconst 1) 1 1, xqv (.iconst 2) 1 2, xqc (.invokevirtual 132) 3 77 3 827, xz, xz, xq (.istore_n 3) 1, xq (.aload_n 0) 1, xqv (.bipush 93) 2 93, xz, xqc (.invokevirtual 145) 3 52 2 844, xz, xz, xqa (.ifCond .eq 12) 3 111, xz, xz, xq (.aload_n 0) 1, xq (.iload_n 2) 1, xq (.iload_n 3) 1, xqc (.invokevirtual 155) 3 55 3 857, xz, xz, xqa (.goto 4) 3 112, xz, xz, xqv (.iconst (-1)) 1 (-1), xq .ireturn 1]
-- TermReader$Parser.listed(II)I
def xc_55 : List (Option xRow) := [xq (.iload_n 2) 1, xq (.istore_n 3) 1, xq (.iload_n 1) 1, xq (.istore 4) 2, xz, xqv (.iconst 0) 1 0, xq (.istore 5) 2, xz, xq (.iload 5) 2, xz, xqv (.bipush 120) 2 120, xz, xqa (.if_icmp .ge 43) 3 55, xz, xz, xq (.iload 4) 2, xz, xqv (.iconst (-1)) 1 (-1), xqa (.if_icmp .eq 37) 3 55, xz, xz, xq (.aload_n 0) 1, xqc (.getfield 19) 3 3 2 331, xz, xz, xq (.iload 4) 2, xz, xqc (.invokevirtual 158) 3 64 2 861, xz, xz, xq (.istore 6) 2, xz, xq (.aload_n 0) 1, xqc (.getfield 19) 3 3 2 331, xz, xz, xqv (.iconst 0) 1 0, xqv (.iconst 1) 1 1, xq (.iload 4) 2, xz, xq (.iload_n 3) 1, xqc (.invokevirtual 113) 3 79 5 798, xz, xz, xq (.istore_n 3) 1, xq (.iload 6) 2, xz, xq (.istore 4) 2, xz, xqv (.iinc 5 1) 3 1, xz, xz, xqa (.goto (-44)) 3 8, xz, xz, xq (.iload_n 3) 1, xq .ireturn 1]
-- TermReader$Parts.<init>(LTermReader$CharRow;)V
def xc_56 : List (Option xRow) := [xq (.aload_n 0) 1, xqc (.invokespecial 3) 3 1000 1 253, xz, xz, xq (.aload_n 0) 1, xq (.aload_n 1) 1, xqc (.putfield 9) 3 4 0 258, xz, xz, xq (.aload_n 1) 1, xqv (.bipush 46) 2 46, xz, xqc (.invokevirtual 15) 3 14 2 254, xz, xz, xq (.aload_n 1) 1, xqv (.bipush 91) 2 91, xz, xqc (.invokevirtual 15) 3 14 2 254, xz, xz, xq (.aload_n 1) 1, xqv (.bipush 93) 2 93, xz, xqc (.invokevirtual 15) 3 14 2 254, xz, xz, xq (.aload_n 1) 1, xqv (.bipush 123) 2 123, xz, xqc (.invokevirtual 15) 3 14 2 254, xz, xz, xq (.aload_n 1) 1, xqv (.bipush 125) 2 125, xz, xqc (.invokevirtual 15) 3 14 2 254, xz, xz, xq (.aload_n 1) 1, xqv (.bipush 44) 2 44, xz, xqc (.invokevirtual 15) 3 14 2 254, xz, xz, xq (.aload_n 0) 1, xqv (.sipush 840) 3 840, xz, xz, xqc (.newarray .int) 2 0 0 246, xz, xqc (.putfield 21) 3 4 1 259, xz, xz, xq (.aload_n 0) 1, xqv (.sipush 840) 3 840, xz, xz, xqc (.newarray .int) 2 0 0 246, xz, xqc (.putfield 25) 3 4 2 260, xz, xz, xq (.aload_n 0) 1, xqv (.sipush 840) 3 840, xz, xz, xqc (.newarray .int) 2 0 0 246, xz, xqc (.putfield 28) 3 4 3 261, xz, xz, xq (.aload_n 0) 1, xqv (.sipush 840) 3 840, xz, xz, xqc (.newarray .int) 2 0 0 246, xz, xqc (.putfield 31) 3 4 4 262, xz, xz, xq (.aload_n 0) 1, xqv (.sipush 840) 3 840, xz, xz, xqc (.newarray .int) 2 0 0 246, xz, xqc (.putfield 34) 3 4 5 263, xz, xz, xq (.aload_n 0) 1, xqv (.sipush 840) 3 840, xz, xz, xqc (.newarray .int) 2 0 0 246, xz, xqc (.putfield 37) 3 4 6 264, xz, xz, xq (.aload_n 0) 1, xqv (.iconst 0) 1 0, xqc (.putfield 40) 3 4 7 265, xz, xz, xq .return_ 1]
-- TermReader$Parts.used()I
def xc_57 : List (Option xRow) := [xq (.aload_n 0) 1, xqc (.getfield 40) 3 4 7 265, xz, xz, xq .ireturn 1]
-- TermReader$Parts.cut(I)V
def xc_58 : List (Option xRow) := [xq (.iload_n 1) 1, xqa (.ifCond .lt 16) 3 17, xz, xz, xq (.iload_n 1) 1, xq (.aload_n 0) 1, xqc (.getfield 40) 3 4 7 265, xz, xz, xqa (.if_icmp .ge 8) 3 17, xz, xz, xq (.aload_n 0) 1, xq (.iload_n 1) 1, xqc (.putfield 40) 3 4 7 265, xz, xz, xq .return_ 1]
-- TermReader$Parts.isPart(I)Z
def xc_59 : List (Option xRow) := [xq (.iload_n 1) 1, xqa (.ifCond .lt 22) 3 23, xz, xz, xq (.iload_n 1) 1, xq (.aload_n 0) 1, xqc (.getfield 40) 3 4 7 265, xz, xz, xqa (.if_icmp .ge 14) 3 23, xz, xz, xq (.iload_n 1) 1, xqv (.sipush 840) 3 840, xz, xz, xqa (.if_icmp .ge 7) 3 23, xz, xz, xqv (.iconst 1) 1 1, xqa (.goto 4) 3 24, xz, xz, xqv (.iconst 0) 1 0, xq .ireturn 1]
-- TermReader$Parts.kind(I)I
def xc_60 : List (Option xRow) := [xq (.aload_n 0) 1, xq (.iload_n 1) 1, xqc (.invokevirtual 44) 3 59 2 763, xz, xz, xqa (.ifCond .eq 12) 3 17, xz, xz, xq (.aload_n 0) 1, xqc (.getfield 21) 3 4 1 259, xz, xz, xq (.iload_n 1) 1, xq .iaload 1, xqa (.goto 4) 3 18, xz, xz, xqv (.iconst (-1)) 1 (-1), xq .ireturn 1]
-- TermReader$Parts.value(I)I
def xc_61 : List (Option xRow) := [xq (.aload_n 0) 1, xq (.iload_n 1) 1, xqc (.invokevirtual 44) 3 59 2 763, xz, xz, xqa (.ifCond .eq 12) 3 17, xz, xz, xq (.aload_n 0) 1, xqc (.getfield 25) 3 4 2 260, xz, xz, xq (.iload_n 1) 1, xq .iaload 1, xqa (.goto 4) 3 18, xz, xz, xqv (.iconst 0) 1 0, xq .ireturn 1]
-- TermReader$Parts.nameSize(I)I
def xc_62 : List (Option xRow) := [xq (.aload_n 0) 1, xq (.iload_n 1) 1, xqc (.invokevirtual 44) 3 59 2 763, xz, xz, xqa (.ifCond .eq 12) 3 17, xz, xz, xq (.aload_n 0) 1, xqc (.getfield 28) 3 4 3 261, xz, xz, xq (.iload_n 1) 1, xq .iaload 1, xqa (.goto 4) 3 18, xz, xz, xqv (.iconst 0) 1 0, xq .ireturn 1]
-- TermReader$Parts.first(I)I
def xc_63 : List (Option xRow) := [xq (.aload_n 0) 1, xq (.iload_n 1) 1, xqc (.invokevirtual 44) 3 59 2 763, xz, xz, xqa (.ifCond .eq 12) 3 17, xz, xz, xq (.aload_n 0) 1, xqc (.getfield 31) 3 4 4 262, xz, xz, xq (.iload_n 1) 1, xq .iaload 1, xqa (.goto 4) 3 18, xz, xz, xqv (.iconst (-1)) 1 (-1), xq .ireturn 1]
-- TermReader$Parts.next(I)I
def xc_64 : List (Option xRow) := [xq (.aload_n 0) 1, xq (.iload_n 1) 1, xqc (.invokevirtual 44) 3 59 2 763, xz, xz, xqa (.ifCond .eq 12) 3 17, xz, xz, xq (.aload_n 0) 1, xqc (.getfield 34) 3 4 5 263, xz, xz, xq (.iload_n 1) 1, xq .iaload 1, xqa (.goto 4) 3 18, xz, xz, xqv (.iconst (-1)) 1 (-1), xq .ireturn 1]
-- TermReader$Parts.second(I)I
def xc_65 : List (Option xRow) := [xq (.aload_n 0) 1, xq (.aload_n 0) 1, xq (.iload_n 1) 1, xqc (.invokevirtual 48) 3 63 2 965, xz, xz, xqc (.invokevirtual 52) 3 64 2 770, xz, xz, xq .ireturn 1]
-- TermReader$Parts.depth(I)I
def xc_66 : List (Option xRow) := [xq (.aload_n 0) 1, xq (.iload_n 1) 1, xqc (.invokevirtual 44) 3 59 2 763, xz, xz, xqa (.ifCond .eq 12) 3 17, xz, xz, xq (.aload_n 0) 1, xqc (.getfield 37) 3 4 6 264, xz, xz, xq (.iload_n 1) 1, xq .iaload 1, xqa (.goto 4) 3 18, xz, xz, xqv (.iconst 0) 1 0, xq .ireturn 1]
-- TermReader$Parts.link(II)V
def xc_67 : List (Option xRow) := [xq (.aload_n 0) 1, xq (.iload_n 1) 1, xqc (.invokevirtual 44) 3 59 2 763, xz, xz, xqa (.ifCond .eq 10) 3 15, xz, xz, xq (.aload_n 0) 1, xqc (.getfield 34) 3 4 5 263, xz, xz, xq (.iload_n 1) 1, xq (.iload_n 2) 1, xq .iastore 1, xq .return_ 1]
-- TermReader$Parts.isNamed(I)Z
def xc_68 : List (Option xRow) := [xq (.aload_n 0) 1, xq (.iload_n 1) 1, xqc (.invokevirtual 55) 3 60 2 973, xz, xz, xq (.istore_n 2) 1, xq (.iload_n 2) 1, xqv (.iconst 2) 1 2, xqa (.if_icmp .eq 8) 3 16, xz, xz, xq (.iload_n 2) 1, xqv (.iconst 3) 1 3, xqa (.if_icmp .ne 7) 3 20, xz, xz, xqv (.iconst 1) 1 1, xqa (.goto 4) 3 21, xz, xz, xqv (.iconst 0) 1 0, xq .ireturn 1]
-- TermReader$Parts.key(I)J
def xc_69 : List (Option xRow) := [xq (.aload_n 0) 1, xq (.iload_n 1) 1, xqc (.invokevirtual 55) 3 60 2 973, xz, xz, xq (.istore_n 2) 1, xq (.iload_n 2) 1, xqv (.iconst 2) 1 2, xqa (.if_icmp .eq 8) 3 16, xz, xz, xq (.iload_n 2) 1, xqv (.iconst 3) 1 3, xqa (.if_icmp .ne 23) 3 36, xz, xz, xq (.aload_n 0) 1, xqc (.getfield 9) 3 4 0 258, xz, xz, xq (.aload_n 0) 1, xq (.iload_n 1) 1, xqc (.invokevirtual 58) 3 61 2 974, xz, xz, xq (.aload_n 0) 1, xq (.iload_n 1) 1, xqc (.invokevirtual 61) 3 62 2 975, xz, xz, xqc (.invokestatic 64) 3 212 3 976, xz, xz, xqa (.goto 4) 3 37, xz, xz, xq (.lconst 0) 1, xq .lreturn 1]
-- TermReader$Parts.arity(I)I
def xc_70 : List (Option xRow) := [xqv (.iconst 0) 1 0, xq (.istore_n 2) 1, xq (.aload_n 0) 1, xq (.iload_n 1) 1, xqc (.invokevirtual 48) 3 63 2 965, xz, xz, xq (.istore_n 3) 1, xqv (.iconst 0) 1 0, xq (.istore 4) 2, xz, xq (.iload 4) 2, xz, xqv (.bipush 6) 2 6, xz, xqa (.if_icmp .ge 23) 3 38, xz, xz, xq (.iload_n 3) 1, xqv (.iconst (-1)) 1 (-1), xqa (.if_icmp .eq 18) 3 38, xz, xz, xqv (.iinc 2 1) 3 1, xz, xz, xq (.aload_n 0) 1, xq (.iload_n 3) 1, xqc (.invokevirtual 52) 3 64 2 770, xz, xz, xq (.istore_n 3) 1, xqv (.iinc 4 1) 3 1, xz, xz, xqa (.goto (-24)) 3 11, xz, xz, xq (.iload_n 2) 1, xq .ireturn 1]
-- TermReader$Parts.isNil(I)Z
def xc_71 : List (Option xRow) := [xq (.aload_n 0) 1, xq (.iload_n 1) 1, xqc (.invokevirtual 55) 3 60 2 973, xz, xz, xqv (.iconst 2) 1 2, xqa (.if_icmp .ne 19) 3 25, xz, xz, xq (.aload_n 0) 1, xq (.iload_n 1) 1, xqc (.invokevirtual 70) 3 69 2 1028, xz, xz, xqk (.ldc2_w 74) 3 0 0 1039 23899, xz, xz, xq .lcmp 1, xqa (.ifCond .ne 7) 3 25, xz, xz, xqv (.iconst 1) 1 1, xqa (.goto 4) 3 26, xz, xz, xqv (.iconst 0) 1 0, xq .ireturn 1]
-- TermReader$Parts.isList(I)Z
def xc_72 : List (Option xRow) := [xq (.aload_n 0) 1, xq (.iload_n 1) 1, xqc (.invokevirtual 55) 3 60 2 973, xz, xz, xqv (.iconst 3) 1 3, xqa (.if_icmp .ne 28) 3 34, xz, xz, xq (.aload_n 0) 1, xq (.iload_n 1) 1, xqc (.invokevirtual 70) 3 69 2 1028, xz, xz, xqk (.ldc2_w 76) 3 0 0 1029 46, xz, xz, xq .lcmp 1, xqa (.ifCond .ne 16) 3 34, xz, xz, xq (.aload_n 0) 1, xq (.iload_n 1) 1, xqc (.invokevirtual 78) 3 70 2 1030, xz, xz, xqv (.iconst 2) 1 2, xqa (.if_icmp .ne 7) 3 34, xz, xz, xqv (.iconst 1) 1 1, xqa (.goto 4) 3 35, xz, xz, xqv (.iconst 0) 1 0, xq .ireturn 1]
-- TermReader$Parts.isBraces(I)Z
def xc_73 : List (Option xRow) := [xq (.aload_n 0) 1, xq (.iload_n 1) 1, xqc (.invokevirtual 55) 3 60 2 973, xz, xz, xqv (.iconst 3) 1 3, xqa (.if_icmp .ne 28) 3 34, xz, xz, xq (.aload_n 0) 1, xq (.iload_n 1) 1, xqc (.invokevirtual 70) 3 69 2 1028, xz, xz, xqk (.ldc2_w 81) 3 0 0 1044 32123, xz, xz, xq .lcmp 1, xqa (.ifCond .ne 16) 3 34, xz, xz, xq (.aload_n 0) 1, xq (.iload_n 1) 1, xqc (.invokevirtual 78) 3 70 2 1030, xz, xz, xqv (.iconst 1) 1 1, xqa (.if_icmp .ne 7) 3 34, xz, xz, xqv (.iconst 1) 1 1, xqa (.goto 4) 3 35, xz, xz, xqv (.iconst 0) 1 0, xq .ireturn 1]
-- TermReader$Parts.add(IIIII)I
def xc_74 : List (Option xRow) := [xq (.aload_n 0) 1, xqc (.getfield 40) 3 4 7 265, xz, xz, xqa (.ifCond .lt 13) 3 17, xz, xz, xq (.aload_n 0) 1, xqc (.getfield 40) 3 4 7 265, xz, xz, xqv (.sipush 840) 3 840, xz, xz, xqa (.if_icmp .lt 5) 3 19, xz, xz, xqv (.iconst (-1)) 1 (-1), xq .ireturn 1, xq (.aload_n 0) 1, xqc (.getfield 21) 3 4 1 259, xz, xz, xq (.aload_n 0) 1, xqc (.getfield 40) 3 4 7 265, xz, xz, xq (.iload_n 1) 1, xq .iastore 1, xq (.aload_n 0) 1, xqc (.getfield 25) 3 4 2 260, xz, xz, xq (.aload_n 0) 1, xqc (.getfield 40) 3 4 7 265, xz, xz, xq (.iload_n 2) 1, xq .iastore 1, xq (.aload_n 0) 1, xqc (.getfield 28) 3 4 3 261, xz, xz, xq (.aload_n 0) 1, xqc (.getfield 40) 3 4 7 265, xz, xz, xq (.iload_n 3) 1, xq .iastore 1, xq (.aload_n 0) 1, xqc (.getfield 31) 3 4 4 262, xz, xz, xq (.aload_n 0) 1, xqc (.getfield 40) 3 4 7 265, xz, xz, xq (.iload 4) 2, xz, xq .iastore 1, xq (.aload_n 0) 1, xqc (.getfield 34) 3 4 5 263, xz, xz, xq (.aload_n 0) 1, xqc (.getfield 40) 3 4 7 265, xz, xz, xqv (.iconst (-1)) 1 (-1), xq .iastore 1, xq (.aload_n 0) 1, xqc (.getfield 37) 3 4 6 264, xz, xz, xq (.aload_n 0) 1, xqc (.getfield 40) 3 4 7 265, xz, xz, xq (.iload 5) 2, xz, xq .iastore 1, xq (.aload_n 0) 1, xq .dup 1, xqc (.getfield 40) 3 4 7 265, xz, xz, xqv (.iconst 1) 1 1, xq .iadd 1, xqc (.putfield 40) 3 4 7 265, xz, xz, xq (.aload_n 0) 1, xqc (.getfield 40) 3 4 7 265, xz, xz, xqv (.iconst 1) 1 1, xq .isub 1, xq .ireturn 1]
-- TermReader$Parts.addVariable(I)I
def xc_75 : List (Option xRow) := [xq (.aload_n 0) 1, xqv (.iconst 0) 1 0, xq (.iload_n 1) 1, xqv (.iconst 0) 1 0, xqv (.iconst (-1)) 1 (-1), xqv (.iconst 1) 1 1, xqc (.invokevirtual 83) 3 74 6 774, xz, xz, xq .ireturn 1]
-- TermReader$Parts.addInteger(I)I
def xc_76 : List (Option xRow) := [xq (.aload_n 0) 1, xqv (.iconst 1) 1 1, xq (.iload_n 1) 1, xqv (.iconst 0) 1 0, xqv (.iconst (-1)) 1 (-1), xqv (.iconst 1) 1 1, xqc (.invokevirtual 83) 3 74 6 774, xz, xz, xq .ireturn 1]
-- TermReader$Parts.addAtom(II)I
def xc_77 : List (Option xRow) := [xq (.aload_n 0) 1, xqv (.iconst 2) 1 2, xq (.iload_n 1) 1, xq (.iload_n 2) 1, xqv (.iconst (-1)) 1 (-1), xqv (.iconst 1) 1 1, xqc (.invokevirtual 83) 3 74 6 774, xz, xz, xq .ireturn 1]
-- TermReader$Parts.addCompound(III)I
def xc_78 : List (Option xRow) := [xqv (.iconst 0) 1 0, xq (.istore 4) 2, xz, xq (.iload_n 3) 1, xq (.istore 5) 2, xz, xqv (.iconst 0) 1 0, xq (.istore 6) 2, xz, xq (.iload 6) 2, xz, xqv (.bipush 6) 2 6, xz, xqa (.if_icmp .ge 36) 3 49, xz, xz, xq (.iload 5) 2, xz, xqv (.iconst (-1)) 1 (-1), xqa (.if_icmp .eq 30) 3 49, xz, xz, xq (.iload 4) 2, xz, xq (.aload_n 0) 1, xq (.iload 5) 2, xz, xqc (.invokevirtual 86) 3 66 2 759, xz, xz, xqc (.invokestatic 89) 3 1001 2 767, xz, xz, xq (.istore 4) 2, xz, xq (.aload_n 0) 1, xq (.iload 5) 2, xz, xqc (.invokevirtual 52) 3 64 2 770, xz, xz, xq (.istore 5) 2, xz, xqv (.iinc 6 1) 3 1, xz, xz, xqa (.goto (-37)) 3 9, xz, xz, xq (.iload 4) 2, xz, xqa (.ifCond .le 14) 3 65, xz, xz, xq (.iload 4) 2, xz, xqv (.bipush 14) 2 14, xz, xqa (.if_icmp .ge 7) 3 65, xz, xz, xqv (.iconst 1) 1 1, xqa (.goto 4) 3 66, xz, xz, xqv (.iconst 0) 1 0, xq (.istore 6) 2, xz, xq (.iload 6) 2, xz, xqa (.ifCond .eq 18) 3 88, xz, xz, xq (.aload_n 0) 1, xqv (.iconst 3) 1 3, xq (.iload_n 1) 1, xq (.iload_n 2) 1, xq (.iload_n 3) 1, xq (.iload 4) 2, xz, xqv (.iconst 1) 1 1, xq .iadd 1, xqc (.invokevirtual 83) 3 74 6 774, xz, xz, xqa (.goto 4) 3 89, xz, xz, xqv (.iconst (-1)) 1 (-1), xq .ireturn 1]
-- TermReader$Parts.addPair(IIII)I
def xc_79 : List (Option xRow) := [xq (.iload_n 3) 1, xqv (.iconst (-1)) 1 (-1), xqa (.if_icmp .eq 9) 3 11, xz, xz, xq (.iload 4) 2, xz, xqv (.iconst (-1)) 1 (-1), xqa (.if_icmp .ne 5) 3 13, xz, xz, xqv (.iconst (-1)) 1 (-1), xq .ireturn 1, xq (.aload_n 0) 1, xq (.iload_n 3) 1, xq (.iload 4) 2, xz, xqc (.invokevirtual 95) 3 67 3 802, xz, xz, xq (.aload_n 0) 1, xq (.iload 4) 2, xz, xqv (.iconst (-1)) 1 (-1), xqc (.invokevirtual 95) 3 67 3 802, xz, xz, xq (.aload_n 0) 1, xq (.iload_n 1) 1, xq (.iload_n 2) 1, xq (.iload_n 3) 1, xqc (.invokevirtual 99) 3 78 4 806, xz, xz, xq .ireturn 1]
-- TermReader$Parts.same(III)Z
def xc_80 : List (Option xRow) := [xq (.iload_n 3) 1, xqv (.bipush 14) 2 14, xz, xqa (.if_icmp .gt 16) 3 19, xz, xz, xq (.aload_n 0) 1, xq (.iload_n 1) 1, xqc (.invokevirtual 55) 3 60 2 973, xz, xz, xq (.aload_n 0) 1, xq (.iload_n 2) 1, xqc (.invokevirtual 55) 3 60 2 973, xz, xz, xqa (.if_icmp .eq 5) 3 21, xz, xz, xqv (.iconst 0) 1 0, xq .ireturn 1, xq (.aload_n 0) 1, xq (.iload_n 1) 1, xqc (.invokevirtual 103) 3 68 2 1061, xz, xz, xqa (.ifCond .ne 22) 3 48, xz, xz, xq (.aload_n 0) 1, xq (.iload_n 1) 1, xqc (.invokevirtual 58) 3 61 2 974, xz, xz, xq (.aload_n 0) 1, xq (.iload_n 2) 1, xqc (.invokevirtual 58) 3 61 2 974, xz, xz, xqa (.if_icmp .ne 7) 3 46, xz, xz, xqv (.iconst 1) 1 1, xqa (.goto 4) 3 47, xz, xz, xqv (.iconst 0) 1 0, xq .ireturn 1, xq (.aload_n 0) 1, xq (.iload_n 1) 1, xq (.iload_n 2) 1, xqc (.invokevirtual 106) 3 81 3 1065, xz, xz, xqa (.ifCond .ne 5) 3 59, xz, xz, xqv (.iconst 0) 1 0, xq .ireturn 1, xq (.aload_n 0) 1, xq (.iload_n 1) 1, xqc (.invokevirtual 48) 3 63 2 965, xz, xz, xq (.istore 4) 2, xz, xq (.aload_n 0) 1, xq (.iload_n 2) 1, xqc (.invokevirtual 48) 3 63 2 965, xz, xz, xq (.istore 5) 2, xz, xqv (.iconst 0) 1 0, xq (.istore 6) 2, xz, xq (.iload 6) 2, xz, xqv (.bipush 6) 2 6, xz, xqa (.if_icmp .ge 53) 3 133, xz, xz, xq (.iload 4) 2, xz, xqv (.iconst (-1)) 1 (-1), xqa (.if_icmp .eq 47) 3 133, xz, xz, xq (.iload 5) 2, xz, xqv (.iconst (-1)) 1 (-1), xqa (.if_icmp .eq 41) 3 133, xz, xz, xq (.aload_n 0) 1, xq (.iload 4) 2, xz, xq (.iload 5) 2, xz, xq (.iload_n 3) 1, xqv (.iconst 1) 1 1, xq .iadd 1, xqc (.invokevirtual 110) 3 80 4 1070, xz, xz, xqa (.ifCond .ne 5) 3 111, xz, xz, xqv (.iconst 0) 1 0, xq .ireturn 1, xq (.aload_n 0) 1, xq (.iload 4) 2, xz, xqc (.invokevirtual 52) 3 64 2 770, xz, xz, xq (.istore 4) 2, xz, xq (.aload_n 0) 1, xq (.iload 5) 2, xz, xqc (.invokevirtual 52) 3 64 2 770, xz, xz, xq (.istore 5) 2, xz, xqv (.iinc 6 1) 3 1, xz, xz, xqa (.goto (-54)) 3 76, xz, xz, xq (.iload 4) 2, xz, xqv (.iconst (-1)) 1 (-1), xqa (.if_icmp .ne 13) 3 149, xz, xz, xq (.iload 5) 2, xz, xqv (.iconst (-1)) 1 (-1), xqa (.if_icmp .ne 7) 3 149, xz, xz, xqv (.iconst 1) 1 1, xqa (.goto 4) 3 150, xz, xz, xqv (.iconst 0) 1 0, xq .ireturn 1]
-- TermReader$Parts.isSameName(II)Z
def xc_81 : List (Option xRow) := [xq (.aload_n 0) 1, xq (.iload_n 1) 1, xqc (.invokevirtual 61) 3 62 2 975, xz, xz, xq (.istore_n 3) 1, xq (.iload_n 3) 1, xq (.aload_n 0) 1, xq (.iload_n 2) 1, xqc (.invokevirtual 61) 3 62 2 975, xz, xz, xqa (.if_icmp .eq 5) 3 17, xz, xz, xqv (.iconst 0) 1 0, xq .ireturn 1, xqv (.iconst 0) 1 0, xq (.istore 4) 2, xz, xq (.iload 4) 2, xz, xq (.iload_n 3) 1, xqa (.if_icmp .ge 44) 3 67, xz, xz, xq (.aload_n 0) 1, xqc (.getfield 9) 3 4 0 258, xz, xz, xq (.aload_n 0) 1, xq (.iload_n 1) 1, xqc (.invokevirtual 58) 3 61 2 974, xz, xz, xq (.iload 4) 2, xz, xq .iadd 1, xqc (.invokevirtual 114) 3 13 2 1069, xz, xz, xq (.aload_n 0) 1, xqc (.getfield 9) 3 4 0 258, xz, xz, xq (.aload_n 0) 1, xq (.iload_n 2) 1, xqc (.invokevirtual 58) 3 61 2 974, xz, xz, xq (.iload 4) 2, xz, xq .iadd 1, xqc (.invokevirtual 114) 3 13 2 1069, xz, xz, xqa (.if_icmp .eq 5) 3 61, xz, xz, xqv (.iconst 0) 1 0, xq .ireturn 1, xqv (.iinc 4 1) 3 1, xz, xz, xqa (.goto (-44)) 3 20, xz, xz, xqv (.iconst 1) 1 1, xq .ireturn 1]
-- TermReader$Tokens.<init>(LTermReader$CharRow;LTermReader$CharRow;)V
def xc_82 : List (Option xRow) := [xq (.aload_n 0) 1, xqc (.invokespecial 3) 3 1000 1 288, xz, xz, xq (.aload_n 0) 1, xq (.aload_n 1) 1, xqc (.putfield 9) 3 5 0 289, xz, xz, xq (.aload_n 0) 1, xq (.aload_n 2) 1, xqc (.putfield 15) 3 5 1 290, xz, xz, xq (.aload_n 0) 1, xqv (.bipush 120) 2 120, xz, xqc (.newarray .int) 2 0 0 246, xz, xqc (.putfield 18) 3 5 2 291, xz, xz, xq (.aload_n 0) 1, xqv (.bipush 120) 2 120, xz, xqc (.newarray .int) 2 0 0 246, xz, xqc (.putfield 22) 3 5 3 292, xz, xz, xq (.aload_n 0) 1, xqv (.bipush 120) 2 120, xz, xqc (.newarray .int) 2 0 0 246, xz, xqc (.putfield 25) 3 5 4 293, xz, xz, xq (.aload_n 0) 1, xqv (.bipush 120) 2 120, xz, xqc (.newarray .int) 2 0 0 246, xz, xqc (.putfield 28) 3 5 5 294, xz, xz, xq (.aload_n 0) 1, xqv (.bipush 120) 2 120, xz, xqc (.newarray .int) 2 0 0 246, xz, xqc (.putfield 31) 3 5 6 295, xz, xz, xq (.aload_n 0) 1, xqv (.bipush 120) 2 120, xz, xqc (.newarray .long) 2 0 0 245, xz, xqc (.putfield 34) 3 5 7 296, xz, xz, xq (.aload_n 0) 1, xqv (.iconst 0) 1 0, xqc (.putfield 38) 3 5 8 297, xz, xz, xq (.aload_n 0) 1, xqv (.iconst 0) 1 0, xqc (.putfield 42) 3 5 9 298, xz, xz, xq (.aload_n 0) 1, xqv (.iconst 0) 1 0, xqc (.putfield 45) 3 5 10 299, xz, xz, xq .return_ 1]
-- TermReader$Tokens.scan()Z
def xc_83 : List (Option xRow) := [xq (.aload_n 0) 1, xqv (.iconst 0) 1 0, xqc (.putfield 38) 3 5 8 297, xz, xz, xq (.aload_n 0) 1, xqv (.iconst 0) 1 0, xqc (.putfield 42) 3 5 9 298, xz, xz, xq (.aload_n 0) 1, xqv (.iconst 0) 1 0, xqc (.putfield 45) 3 5 10 299, xz, xz, xqv (.iconst 0) 1 0, xq (.istore_n 1) 1, xq (.iload_n 1) 1, xqv (.bipush 120) 2 120, xz, xqa (.if_icmp .ge 40) 3 60, xz, xz, xq (.aload_n 0) 1, xqc (.invokevirtual 48) 3 97 1 570, xz, xz, xqa (.ifCond .eq 10) 3 37, xz, xz, xq (.aload_n 0) 1, xqc (.invokevirtual 52) 3 99 1 580, xz, xz, xqa (.ifCond .ne 5) 3 39, xz, xz, xqv (.iconst 0) 1 0, xq .ireturn 1, xq (.aload_n 0) 1, xq (.aload_n 0) 1, xqc (.getfield 38) 3 5 8 297, xz, xz, xqv (.iconst 1) 1 1, xq .isub 1, xqc (.invokevirtual 55) 3 85 2 662, xz, xz, xqa (.ifCond .ne 5) 3 54, xz, xz, xqv (.iconst 1) 1 1, xq .ireturn 1, xqv (.iinc 1 1) 3 1, xz, xz, xqa (.goto (-40)) 3 17, xz, xz, xqv (.iconst 0) 1 0, xq .ireturn 1]
-- TermReader$Tokens.isToken(I)Z
def xc_84 : List (Option xRow) := [xq (.iload_n 1) 1, xqa (.ifCond .lt 21) 3 22, xz, xz, xq (.iload_n 1) 1, xq (.aload_n 0) 1, xqc (.getfield 38) 3 5 8 297, xz, xz, xqa (.if_icmp .ge 13) 3 22, xz, xz, xq (.iload_n 1) 1, xqv (.bipush 120) 2 120, xz, xqa (.if_icmp .ge 7) 3 22, xz, xz, xqv (.iconst 1) 1 1, xqa (.goto 4) 3 23, xz, xz, xqv (.iconst 0) 1 0, xq .ireturn 1]
-- TermReader$Tokens.kind(I)I
def xc_85 : List (Option xRow) := [xq (.aload_n 0) 1, xq (.iload_n 1) 1, xqc (.invokevirtual 59) 3 84 2 666, xz, xz, xqa (.ifCond .eq 12) 3 17, xz, xz, xq (.aload_n 0) 1, xqc (.getfield 18) 3 5 2 291, xz, xz, xq (.iload_n 1) 1, xq .iaload 1, xqa (.goto 4) 3 18, xz, xz, xqv (.iconst 0) 1 0, xq .ireturn 1]
-- TermReader$Tokens.end(I)I
def xc_86 : List (Option xRow) := [xq (.aload_n 0) 1, xq (.iload_n 1) 1, xqc (.invokevirtual 59) 3 84 2 666, xz, xz, xqa (.ifCond .eq 12) 3 17, xz, xz, xq (.aload_n 0) 1, xqc (.getfield 25) 3 5 4 293, xz, xz, xq (.iload_n 1) 1, xq .iaload 1, xqa (.goto 10) 3 24, xz, xz, xq (.aload_n 0) 1, xqc (.getfield 9) 3 5 0 289, xz, xz, xqc (.invokevirtual 63) 3 12 1 575, xz, xz, xq .ireturn 1]
-- TermReader$Tokens.value(I)I
def xc_87 : List (Option xRow) := [xq (.aload_n 0) 1, xq (.iload_n 1) 1, xqc (.invokevirtual 59) 3 84 2 666, xz, xz, xqa (.ifCond .eq 12) 3 17, xz, xz, xq (.aload_n 0) 1, xqc (.getfield 28) 3 5 5 294, xz, xz, xq (.iload_n 1) 1, xq .iaload 1, xqa (.goto 4) 3 18, xz, xz, xqv (.iconst 0) 1 0, xq .ireturn 1]
-- TermReader$Tokens.size(I)I
def xc_88 : List (Option xRow) := [xq (.aload_n 0) 1, xq (.iload_n 1) 1, xqc (.invokevirtual 59) 3 84 2 666, xz, xz, xqa (.ifCond .eq 12) 3 17, xz, xz, xq (.aload_n 0) 1, xqc (.getfield 31) 3 5 6 295, xz, xz, xq (.iload_n 1) 1, xq .iaload 1, xqa (.goto 4) 3 18, xz, xz, xqv (.iconst 0) 1 0, xq .ireturn 1]
-- TermReader$Tokens.key(I)J
def xc_89 : List (Option xRow) := [xq (.aload_n 0) 1, xq (.iload_n 1) 1, xqc (.invokevirtual 59) 3 84 2 666, xz, xz, xqa (.ifCond .eq 12) 3 17, xz, xz, xq (.aload_n 0) 1, xqc (.getfield 34) 3 5 7 296, xz, xz, xq (.iload_n 1) 1, xq .laload 1, xqa (.goto 4) 3 18, xz, xz, xq (.lconst 0) 1, xq .lreturn 1]
-- TermReader$Tokens.stringCharacter(II)I
def xc_90 : List (Option xRow) := [xq (.aload_n 0) 1, xqc (.getfield 9) 3 5 0 289, xz, xz, xq (.aload_n 0) 1, xq (.iload_n 1) 1, xqc (.invokevirtual 69) 3 87 2 695, xz, xz, xq (.iload_n 2) 1, xq .iadd 1, xqc (.invokevirtual 72) 3 13 2 574, xz, xz, xq .ireturn 1]
-- TermReader$Tokens.isMark(II)Z
def xc_91 : List (Option xRow) := [xq (.aload_n 0) 1, xq (.iload_n 1) 1, xqc (.invokevirtual 55) 3 85 2 662, xz, xz, xqv (.iconst 5) 1 5, xqa (.if_icmp .ne 16) 3 22, xz, xz, xq (.aload_n 0) 1, xq (.iload_n 1) 1, xqc (.invokevirtual 69) 3 87 2 695, xz, xz, xq (.iload_n 2) 1, xqa (.if_icmp .ne 7) 3 22, xz, xz, xqv (.iconst 1) 1 1, xqa (.goto 4) 3 23, xz, xz, xqv (.iconst 0) 1 0, xq .ireturn 1]
-- TermReader$Tokens.isNextTo(I)Z
def xc_92 : List (Option xRow) := [xq (.aload_n 0) 1, xq (.iload_n 1) 1, xqc (.invokevirtual 59) 3 84 2 666, xz, xz, xqa (.ifCond .eq 34) 3 39, xz, xz, xq (.aload_n 0) 1, xq (.iload_n 1) 1, xqv (.iconst 1) 1 1, xq .iadd 1, xqc (.invokevirtual 59) 3 84 2 666, xz, xz, xqa (.ifCond .eq 24) 3 39, xz, xz, xq (.aload_n 0) 1, xqc (.getfield 25) 3 5 4 293, xz, xz, xq (.iload_n 1) 1, xq .iaload 1, xq (.aload_n 0) 1, xqc (.getfield 22) 3 5 3 292, xz, xz, xq (.iload_n 1) 1, xqv (.iconst 1) 1 1, xq .iadd 1, xq .iaload 1, xqa (.if_icmp .ne 7) 3 39, xz, xz, xqv (.iconst 1) 1 1, xqa (.goto 4) 3 40, xz, xz, xqv (.iconst 0) 1 0, xq .ireturn 1]
-- TermReader$Tokens.isCall(I)Z
def xc_93 : List (Option xRow) := [xq (.aload_n 0) 1, xq (.iload_n 1) 1, xqc (.invokevirtual 55) 3 85 2 662, xz, xz, xqv (.iconst 1) 1 1, xqa (.if_icmp .ne 27) 3 33, xz, xz, xq (.aload_n 0) 1, xq (.iload_n 1) 1, xqc (.invokevirtual 75) 3 92 2 687, xz, xz, xqa (.ifCond .eq 19) 3 33, xz, xz, xq (.aload_n 0) 1, xq (.iload_n 1) 1, xqv (.iconst 1) 1 1, xq .iadd 1, xqv (.bipush 40) 2 40, xz, xqc (.invokevirtual 78) 3 91 3 691, xz, xz, xqa (.ifCond .eq 7) 3 33, xz, xz, xqv (.iconst 1) 1 1, xqa (.goto 4) 3 34, xz, xz, xqv (.iconst 0) 1 0, xq .ireturn 1]
-- TermReader$Tokens.isMinusOfInteger(I)Z
def xc_94 : List (Option xRow) := [xq (.aload_n 0) 1, xq (.iload_n 1) 1, xqc (.invokevirtual 55) 3 85 2 662, xz, xz, xqv (.iconst 1) 1 1, xqa (.if_icmp .ne 46) 3 52, xz, xz, xq (.aload_n 0) 1, xq (.iload_n 1) 1, xqc (.invokevirtual 82) 3 89 2 703, xz, xz, xqk (.ldc2_w 86) 3 0 0 707 45, xz, xz, xq .lcmp 1, xqa (.ifCond .ne 34) 3 52, xz, xz, xq (.aload_n 0) 1, xq (.iload_n 1) 1, xqc (.invokevirtual 75) 3 92 2 687, xz, xz, xqa (.ifCond .eq 26) 3 52, xz, xz, xq (.aload_n 0) 1, xq (.iload_n 1) 1, xqv (.iconst 1) 1 1, xq .iadd 1, xqc (.invokevirtual 55) 3 85 2 662, xz, xz, xqv (.iconst 3) 1 3, xqa (.if_icmp .ne 15) 3 52, xz, xz, xq (.aload_n 0) 1, xq (.iload_n 1) 1, xqc (.invokevirtual 88) 3 95 2 708, xz, xz, xqa (.ifCond .ne 7) 3 52, xz, xz, xqv (.iconst 1) 1 1, xqa (.goto 4) 3 53, xz, xz, xqv (.iconst 0) 1 0, xq .ireturn 1]
-- TermReader$Tokens.isQuoted(I)Z
def xc_95 : List (Option xRow) := [xq (.aload_n 0) 1, xq (.iload_n 1) 1, xqc (.invokevirtual 59) 3 84 2 666, xz, xz, xqa (.ifCond .eq 25) 3 30, xz, xz, xq (.aload_n 0) 1, xqc (.getfield 9) 3 5 0 289, xz, xz, xq (.aload_n 0) 1, xqc (.getfield 22) 3 5 3 292, xz, xz, xq (.iload_n 1) 1, xq .iaload 1, xqc (.invokevirtual 72) 3 13 2 574, xz, xz, xqv (.bipush 39) 2 39, xz, xqa (.if_icmp .ne 7) 3 30, xz, xz, xqv (.iconst 1) 1 1, xqa (.goto 4) 3 31, xz, xz, xqv (.iconst 0) 1 0, xq .ireturn 1]
-- TermReader$Tokens.beginsTerm(I)Z
def xc_96 : List (Option xRow) := [xq (.aload_n 0) 1, xq (.iload_n 1) 1, xqc (.invokevirtual 55) 3 85 2 662, xz, xz, xqs (.lookupswitch 65 #[(0, 27), (5, 29)]) 27 70 [(0, 32), (5, 34)], xz, xz, xz, xz, xz, xz, xz, xz, xz, xz, xz, xz, xz, xz, xz, xz, xz, xz, xz, xz, xz, xz, xz, xz, xz, xz, xqv (.iconst 0) 1 0, xq .ireturn 1, xq (.aload_n 0) 1, xq (.iload_n 1) 1, xqv (.bipush 40) 2 40, xz, xqc (.invokevirtual 78) 3 91 3 691, xz, xz, xqa (.ifCond .ne 23) 3 64, xz, xz, xq (.aload_n 0) 1, xq (.iload_n 1) 1, xqv (.bipush 91) 2 91, xz, xqc (.invokevirtual 78) 3 91 3 691, xz, xz, xqa (.ifCond .ne 13) 3 64, xz, xz, xq (.aload_n 0) 1, xq (.iload_n 1) 1, xqv (.bipush 123) 2 123, xz, xqc (.invokevirtual 78) 3 91 3 691, xz, xz, xqa (.ifCond .eq 7) 3 68, xz, xz, xqv (.iconst 1) 1 1, xqa (.goto 4) 3 69, xz, xz, xqv (.iconst 0) 1 0, xq .ireturn 1, xqv (.iconst 1) 1 1, xq .ireturn 1]
-- TermReader$Tokens.skipLayout()Z
def xc_97 : List (Option xRow) := [xqv (.iconst 0) 1 0, xq (.istore_n 1) 1, xq (.iload_n 1) 1, xqv (.bipush 120) 2 120, xz, xqa (.if_icmp .gt 112) 3 117, xz, xz, xq (.aload_n 0) 1, xqc (.getfield 9) 3 5 0 289, xz, xz, xq (.aload_n 0) 1, xqc (.getfield 42) 3 5 9 298, xz, xz, xqc (.invokevirtual 72) 3 13 2 574, xz, xz, xq (.istore_n 2) 1, xq (.iload_n 2) 1, xqv (.bipush 32) 2 32, xz, xqa (.if_icmp .ne 16) 3 39, xz, xz, xq (.aload_n 0) 1, xq .dup 1, xqc (.getfield 42) 3 5 9 298, xz, xz, xqv (.iconst 1) 1 1, xq .iadd 1, xqc (.putfield 42) 3 5 9 298, xz, xz, xqa (.goto 75) 3 111, xz, xz, xq (.iload_n 2) 1, xqv (.bipush 37) 2 37, xz, xqa (.if_icmp .ne 17) 3 59, xz, xz, xq (.aload_n 0) 1, xq (.aload_n 0) 1, xqc (.getfield 9) 3 5 0 289, xz, xz, xqc (.invokevirtual 63) 3 12 1 575, xz, xz, xqc (.putfield 42) 3 5 9 298, xz, xz, xqa (.goto 55) 3 111, xz, xz, xq (.iload_n 2) 1, xqv (.bipush 47) 2 47, xz, xqa (.if_icmp .ne 47) 3 109, xz, xz, xq (.aload_n 0) 1, xqc (.getfield 9) 3 5 0 289, xz, xz, xq (.aload_n 0) 1, xqc (.getfield 42) 3 5 9 298, xz, xz, xqv (.iconst 1) 1 1, xq .iadd 1, xqc (.invokevirtual 72) 3 13 2 574, xz, xz, xqv (.bipush 42) 2 42, xz, xqa (.if_icmp .ne 29) 3 109, xz, xz, xq (.aload_n 0) 1, xq (.aload_n 0) 1, xqc (.getfield 42) 3 5 9 298, xz, xz, xqv (.iconst 2) 1 2, xq .iadd 1, xqc (.invokevirtual 91) 3 98 2 576, xz, xz, xq (.istore_n 3) 1, xq (.iload_n 3) 1, xqv (.iconst (-1)) 1 (-1), xqa (.if_icmp .ne 5) 3 101, xz, xz, xqv (.iconst 0) 1 0, xq .ireturn 1, xq (.aload_n 0) 1, xq (.iload_n 3) 1, xqc (.putfield 42) 3 5 9 298, xz, xz, xqa (.goto 5) 3 111, xz, xz, xqv (.iconst 1) 1 1, xq .ireturn 1, xqv (.iinc 1 1) 3 1, xz, xz, xqa (.goto (-112)) 3 2, xz, xz, xqv (.iconst 1) 1 1, xq .ireturn 1]
-- TermReader$Tokens.behindComment(I)I
def xc_98 : List (Option xRow) := [xq (.iload_n 1) 1, xq (.istore_n 2) 1, xq (.iload_n 2) 1, xq (.aload_n 0) 1, xqc (.getfield 9) 3 5 0 289, xz, xz, xqc (.invokevirtual 63) 3 12 1 575, xz, xz, xqa (.if_icmp .ge 41) 3 51, xz, xz, xq (.aload_n 0) 1, xqc (.getfield 9) 3 5 0 289, xz, xz, xq (.iload_n 2) 1, xqc (.invokevirtual 72) 3 13 2 574, xz, xz, xqv (.bipush 42) 2 42, xz, xqa (.if_icmp .ne 22) 3 45, xz, xz, xq (.aload_n 0) 1, xqc (.getfield 9) 3 5 0 289, xz, xz, xq (.iload_n 2) 1, xqv (.iconst 1) 1 1, xq .iadd 1, xqc (.invokevirtual 72) 3 13 2 574, xz, xz, xqv (.bipush 47) 2 47, xz, xqa (.if_icmp .ne 7) 3 45, xz, xz, xq (.iload_n 2) 1, xqv (.iconst 2) 1 2, xq .iadd 1, xq .ireturn 1, xqv (.iinc 2 1) 3 1, xz, xz, xqa (.goto (-46)) 3 2, xz, xz, xqv (.iconst (-1)) 1 (-1), xq .ireturn 1]
-- TermReader$Tokens.scanToken()Z
def xc_99 : List (Option xRow) := [xq (.aload_n 0) 1, xqc (.getfield 9) 3 5 0 289, xz, xz, xq (.aload_n 0) 1, xqc (.getfield 42) 3 5 9 298, xz, xz, xqc (.invokevirtual 72) 3 13 2 574, xz, xz, xq (.istore_n 1) 1, xq (.aload_n 0) 1, xqc (.getfield 9) 3 5 0 289, xz, xz, xq (.aload_n 0) 1, xqc (.getfield 42) 3 5 9 298, xz, xz, xqv (.iconst 1) 1 1, xq .iadd 1, xqc (.invokevirtual 72) 3 13 2 574, xz, xz, xq (.istore_n 2) 1, xq (.iload_n 1) 1, xqc (.invokestatic 94) 3 201 1 584, xz, xz, xqa (.ifCond .eq 13) 3 43, xz, xz, xq (.aload_n 0) 1, xq (.aload_n 0) 1, xqv (.iconst 0) 1 0, xqc (.invokevirtual 99) 3 101 2 585, xz, xz, xqc (.invokevirtual 103) 3 103 2 600, xz, xz, xq .ireturn 1, xq (.iload_n 1) 1, xqc (.invokestatic 106) 3 202 1 617, xz, xz, xqa (.ifCond .ne 9) 3 56, xz, xz, xq (.iload_n 1) 1, xqv (.bipush 95) 2 95, xz, xqa (.if_icmp .ne 13) 3 66, xz, xz, xq (.aload_n 0) 1, xq (.aload_n 0) 1, xqv (.iconst 0) 1 0, xqc (.invokevirtual 99) 3 101 2 585, xz, xz, xqc (.invokevirtual 109) 3 107 2 618, xz, xz, xq .ireturn 1, xq (.iload_n 1) 1, xqc (.invokestatic 112) 3 203 1 630, xz, xz, xqa (.ifCond .eq 10) 3 80, xz, xz, xq (.aload_n 0) 1, xq (.iload_n 1) 1, xq (.iload_n 2) 1, xqc (.invokevirtual 115) 3 110 3 631, xz, xz, xq .ireturn 1, xq (.iload_n 1) 1, xqc (.invokestatic 118) 3 205 1 589, xz, xz, xqa (.ifCond .eq 35) 3 119, xz, xz, xq (.aload_n 0) 1, xqv (.iconst 1) 1 1, xqc (.invokevirtual 99) 3 101 2 585, xz, xz, xq (.istore_n 3) 1, xq (.aload_n 0) 1, xq (.iload_n 3) 1, xqc (.invokevirtual 121) 3 102 2 643, xz, xz, xqa (.ifCond .eq 15) 3 113, xz, xz, xq (.aload_n 0) 1, xqv (.iconst 0) 1 0, xq (.iload_n 3) 1, xqv (.iconst 0) 1 0, xqv (.iconst 1) 1 1, xq (.lconst 0) 1, xqc (.invokevirtual 124) 3 100 6 613, xz, xz, xqa (.goto 8) 3 118, xz, xz, xq (.aload_n 0) 1, xq (.iload_n 3) 1, xqc (.invokevirtual 103) 3 103 2 600, xz, xz, xq .ireturn 1, xq (.iload_n 1) 1, xqv (.bipush 39) 2 39, xz, xqa (.if_icmp .ne 8) 3 130, xz, xz, xq (.aload_n 0) 1, xqc (.invokevirtual 128) 3 105 1 647, xz, xz, xq .ireturn 1, xq (.iload_n 1) 1, xqv (.bipush 34) 2 34, xz, xqa (.if_icmp .ne 8) 3 141, xz, xz, xq (.aload_n 0) 1, xqc (.invokevirtual 131) 3 112 1 654, xz, xz, xq .ireturn 1, xq (.iload_n 1) 1, xqv (.bipush 33) 2 33, xz, xqa (.if_icmp .eq 9) 3 153, xz, xz, xq (.iload_n 1) 1, xqv (.bipush 59) 2 59, xz, xqa (.if_icmp .ne 14) 3 164, xz, xz, xq (.aload_n 0) 1, xq (.aload_n 0) 1, xqc (.getfield 42) 3 5 9 298, xz, xz, xqv (.iconst 1) 1 1, xq .iadd 1, xqc (.invokevirtual 103) 3 103 2 600, xz, xz, xq .ireturn 1, xq (.iload_n 1) 1, xqv (.bipush 91) 2 91, xz, xqa (.if_icmp .ne 9) 3 176, xz, xz, xq (.iload_n 2) 1, xqv (.bipush 93) 2 93, xz, xqa (.if_icmp .eq 15) 3 188, xz, xz, xq (.iload_n 1) 1, xqv (.bipush 123) 2 123, xz, xqa (.if_icmp .ne 20) 3 199, xz, xz, xq (.iload_n 2) 1, xqv (.bipush 125) 2 125, xz, xqa (.if_icmp .ne 14) 3 199, xz, xz, xq (.aload_n 0) 1, xq (.aload_n 0) 1, xqc (.getfield 42) 3 5 9 298, xz, xz, xqv (.iconst 2) 1 2, xq .iadd 1, xqc (.invokevirtual 103) 3 103 2 600, xz, xz, xq .ireturn 1, xq (.iload_n 1) 1, xqc (.invokestatic 134) 3 206 1 658, xz, xz, xqa (.ifCond .eq 36) 3 239, xz, xz, xq (.aload_n 0) 1, xqv (.iconst 5) 1 5, xq (.aload_n 0) 1, xqc (.getfield 42) 3 5 9 298, xz, xz, xqv (.iconst 1) 1 1, xq .iadd 1, xq (.iload_n 1) 1, xqv (.iconst 1) 1 1, xq (.iload_n 1) 1, xqv (.bipush 44) 2 44, xz, xqa (.if_icmp .ne 9) 3 228, xz, xz, xqk (.ldc2_w 137) 3 0 0 661 44, xz, xz, xqa (.goto 4) 3 229, xz, xz, xq (.lconst 0) 1, xqc (.invokevirtual 124) 3 100 6 613, xz, xz, xqa (.ifCond .eq 7) 3 239, xz, xz, xqv (.iconst 1) 1 1, xqa (.goto 4) 3 240, xz, xz, xqv (.iconst 0) 1 0, xq .ireturn 1]
-- TermReader$Tokens.add(IIIIJ)Z
def xc_100 : List (Option xRow) := [xq (.aload_n 0) 1, xqc (.getfield 38) 3 5 8 297, xz, xz, xqa (.ifCond .lt 12) 3 16, xz, xz, xq (.aload_n 0) 1, xqc (.getfield 38) 3 5 8 297, xz, xz, xqv (.bipush 120) 2 120, xz, xqa (.if_icmp .lt 5) 3 18, xz, xz, xqv (.iconst 0) 1 0, xq .ireturn 1, xq (.aload_n 0) 1, xqc (.getfield 18) 3 5 2 291, xz, xz, xq (.aload_n 0) 1, xqc (.getfield 38) 3 5 8 297, xz, xz, xq (.iload_n 1) 1, xq .iastore 1, xq (.aload_n 0) 1, xqc (.getfield 22) 3 5 3 292, xz, xz, xq (.aload_n 0) 1, xqc (.getfield 38) 3 5 8 297, xz, xz, xq (.aload_n 0) 1, xqc (.getfield 42) 3 5 9 298, xz, xz, xq .iastore 1, xq (.aload_n 0) 1, xqc (.getfield 25) 3 5 4 293, xz, xz, xq (.aload_n 0) 1, xqc (.getfield 38) 3 5 8 297, xz, xz, xq (.iload_n 2) 1, xq .iastore 1, xq (.aload_n 0) 1, xqc (.getfield 28) 3 5 5 294, xz, xz, xq (.aload_n 0) 1, xqc (.getfield 38) 3 5 8 297, xz, xz, xq (.iload_n 3) 1, xq .iastore 1, xq (.aload_n 0) 1, xqc (.getfield 31) 3 5 6 295, xz, xz, xq (.aload_n 0) 1, xqc (.getfield 38) 3 5 8 297, xz, xz, xq (.iload 4) 2, xz, xq .iastore 1, xq (.aload_n 0) 1, xqc (.getfield 34) 3 5 7 296, xz, xz, xq (.aload_n 0) 1, xqc (.getfield 38) 3 5 8 297, xz, xz, xq (.lload 5) 2, xz, xq .lastore 1, xq (.aload_n 0) 1, xq .dup 1, xqc (.getfield 38) 3 5 8 297, xz, xz, xqv (.iconst 1) 1 1, xq .iadd 1, xqc (.putfield 38) 3 5 8 297, xz, xz, xq (.aload_n 0) 1, xq (.iload_n 2) 1, xqc (.putfield 42) 3 5 9 298, xz, xz, xqv (.iconst 1) 1 1, xq .ireturn 1]
-- TermReader$Tokens.behindRow(Z)I
def xc_101 : List (Option xRow) := [xq (.aload_n 0) 1, xqc (.getfield 42) 3 5 9 298, xz, xz, xq (.istore_n 2) 1, xq (.iload_n 2) 1, xq (.aload_n 0) 1, xqc (.getfield 9) 3 5 0 289, xz, xz, xqc (.invokevirtual 63) 3 12 1 575, xz, xz, xqa (.if_icmp .ge 41) 3 54, xz, xz, xq (.aload_n 0) 1, xqc (.getfield 9) 3 5 0 289, xz, xz, xq (.iload_n 2) 1, xqc (.invokevirtual 72) 3 13 2 574, xz, xz, xq (.istore_n 3) 1, xq (.iload_n 1) 1, xqa (.ifCond .eq 13) 3 39, xz, xz, xq (.iload_n 3) 1, xqc (.invokestatic 118) 3 205 1 589, xz, xz, xqa (.ifCond .ne 15) 3 48, xz, xz, xqa (.goto 10) 3 46, xz, xz, xq (.iload_n 3) 1, xqc (.invokestatic 139) 3 204 1 590, xz, xz, xqa (.ifCond .ne 5) 3 48, xz, xz, xq (.iload_n 2) 1, xq .ireturn 1, xqv (.iinc 2 1) 3 1, xz, xz, xqa (.goto (-46)) 3 5, xz, xz, xq (.aload_n 0) 1, xqc (.getfield 9) 3 5 0 289, xz, xz, xqc (.invokevirtual 63) 3 12 1 575, xz, xz, xq .ireturn 1]
-- TermReader$Tokens.isEnd(I)Z
def xc_102 : List (Option xRow) := [xq (.aload_n 0) 1, xqc (.getfield 9) 3 5 0 289, xz, xz, xq (.iload_n 1) 1, xqc (.invokevirtual 72) 3 13 2 574, xz, xz, xq (.istore_n 2) 1, xq (.iload_n 1) 1, xq (.aload_n 0) 1, xqc (.getfield 42) 3 5 9 298, xz, xz, xq .isub 1, xqv (.iconst 1) 1 1, xqa (.if_icmp .ne 40) 3 56, xz, xz, xq (.aload_n 0) 1, xqc (.getfield 9) 3 5 0 289, xz, xz, xq (.aload_n 0) 1, xqc (.getfield 42) 3 5 9 298, xz, xz, xqc (.invokevirtual 72) 3 13 2 574, xz, xz, xqv (.bipush 46) 2 46, xz, xqa (.if_icmp .ne 24) 3 56, xz, xz, xq (.iload_n 2) 1, xqv (.bipush 32) 2 32, xz, xqa (.if_icmp .eq 14) 3 52, xz, xz, xq (.iload_n 2) 1, xqv (.bipush 37) 2 37, xz, xqa (.if_icmp .eq 8) 3 52, xz, xz, xq (.iload_n 2) 1, xqv (.iconst (-1)) 1 (-1), xqa (.if_icmp .ne 7) 3 56, xz, xz, xqv (.iconst 1) 1 1, xqa (.goto 4) 3 57, xz, xz, xqv (.iconst 0) 1 0, xq .ireturn 1]
-- TermReader$Tokens.addPlainName(I)Z
def xc_103 : List (Option xRow) := [xq (.aload_n 0) 1, xqc (.getfield 15) 3 5 1 290, xz, xz, xqc (.invokevirtual 63) 3 12 1 575, xz, xz, xq (.istore_n 2) 1, xq (.aload_n 0) 1, xqc (.getfield 42) 3 5 9 298, xz, xz, xq (.istore_n 3) 1, xq (.iload_n 3) 1, xq (.iload_n 1) 1, xqa (.if_icmp .ge 35) 3 50, xz, xz, xq (.iload_n 3) 1, xq (.aload_n 0) 1, xqc (.getfield 9) 3 5 0 289, xz, xz, xqc (.invokevirtual 63) 3 12 1 575, xz, xz, xqa (.if_icmp .ge 24) 3 50, xz, xz, xq (.aload_n 0) 1, xqc (.getfield 15) 3 5 1 290, xz, xz, xq (.aload_n 0) 1, xqc (.getfield 9) 3 5 0 289, xz, xz, xq (.iload_n 3) 1, xqc (.invokevirtual 72) 3 13 2 574, xz, xz, xqc (.invokevirtual 142) 3 14 2 604, xz, xz, xqv (.iinc 3 1) 3 1, xz, xz, xqa (.goto (-34)) 3 13, xz, xz, xq (.aload_n 0) 1, xq (.iload_n 2) 1, xq (.iload_n 1) 1, xqc (.invokevirtual 145) 3 104 3 605, xz, xz, xq .ireturn 1]
-- TermReader$Tokens.addName(II)Z
def xc_104 : List (Option xRow) := [xq (.aload_n 0) 1, xqc (.getfield 15) 3 5 1 290, xz, xz, xqc (.invokevirtual 63) 3 12 1 575, xz, xz, xq (.iload_n 1) 1, xq .isub 1, xq (.istore_n 3) 1, xq (.iload_n 3) 1, xqv (.bipush 24) 2 24, xz, xqa (.if_icmp .gt 27) 3 40, xz, xz, xq (.aload_n 0) 1, xqv (.iconst 1) 1 1, xq (.iload_n 2) 1, xq (.iload_n 1) 1, xq (.iload_n 3) 1, xq (.aload_n 0) 1, xqc (.getfield 15) 3 5 1 290, xz, xz, xq (.iload_n 1) 1, xq (.iload_n 3) 1, xqc (.invokestatic 148) 3 212 3 609, xz, xz, xqc (.invokevirtual 124) 3 100 6 613, xz, xz, xqa (.ifCond .eq 7) 3 40, xz, xz, xqv (.iconst 1) 1 1, xqa (.goto 4) 3 41, xz, xz, xqv (.iconst 0) 1 0, xq .ireturn 1]
-- TermReader$Tokens.addQuotedName()Z
def xc_105 : List (Option xRow) := [xq (.aload_n 0) 1, xqc (.getfield 15) 3 5 1 290, xz, xz, xqc (.invokevirtual 63) 3 12 1 575, xz, xz, xq (.istore_n 1) 1, xq (.aload_n 0) 1, xqc (.getfield 42) 3 5 9 298, xz, xz, xqv (.iconst 1) 1 1, xq .iadd 1, xq (.istore_n 2) 1, xqv (.iconst 0) 1 0, xq (.istore_n 3) 1, xq (.iload_n 3) 1, xqv (.bipush 120) 2 120, xz, xqa (.if_icmp .ge 120) 3 140, xz, xz, xq (.aload_n 0) 1, xqc (.getfield 9) 3 5 0 289, xz, xz, xq (.iload_n 2) 1, xqc (.invokevirtual 72) 3 13 2 574, xz, xz, xq (.istore 4) 2, xz, xq (.aload_n 0) 1, xqc (.getfield 9) 3 5 0 289, xz, xz, xq (.iload_n 2) 1, xqv (.iconst 1) 1 1, xq .iadd 1, xqc (.invokevirtual 72) 3 13 2 574, xz, xz, xq (.istore 5) 2, xz, xq (.iload 4) 2, xz, xqv (.iconst (-1)) 1 (-1), xqa (.if_icmp .ne 5) 3 53, xz, xz, xqv (.iconst 0) 1 0, xq .ireturn 1, xq (.iload 4) 2, xz, xqv (.bipush 39) 2 39, xz, xqa (.if_icmp .ne 19) 3 76, xz, xz, xq (.iload 5) 2, xz, xqv (.bipush 39) 2 39, xz, xqa (.if_icmp .eq 12) 3 76, xz, xz, xq (.aload_n 0) 1, xq (.iload_n 1) 1, xq (.iload_n 2) 1, xqv (.iconst 1) 1 1, xq .iadd 1, xqc (.invokevirtual 145) 3 104 3 605, xz, xz, xq .ireturn 1, xq (.iload 4) 2, xz, xqv (.bipush 92) 2 92, xz, xqa (.if_icmp .ne 11) 3 91, xz, xz, xq (.iload 5) 2, xz, xqc (.invokestatic 154) 3 106 1 651, xz, xz, xqa (.goto 5) 3 93, xz, xz, xq (.iload 4) 2, xz, xq (.istore 6) 2, xz, xq (.iload 6) 2, xz, xqv (.iconst (-1)) 1 (-1), xqa (.if_icmp .ne 5) 3 103, xz, xz, xqv (.iconst 0) 1 0, xq .ireturn 1, xq (.aload_n 0) 1, xqc (.getfield 15) 3 5 1 290, xz, xz, xq (.iload 6) 2, xz, xqc (.invokevirtual 142) 3 14 2 604, xz, xz, xq (.iload_n 2) 1, xq (.iload 4) 2, xz, xqv (.bipush 39) 2 39, xz, xqa (.if_icmp .eq 10) 3 127, xz, xz, xq (.iload 4) 2, xz, xqv (.bipush 92) 2 92, xz, xqa (.if_icmp .ne 7) 3 131, xz, xz, xqv (.iconst 2) 1 2, xqa (.goto 4) 3 132, xz, xz, xqv (.iconst 1) 1 1, xq .iadd 1, xq (.istore_n 2) 1, xqv (.iinc 3 1) 3 1, xz, xz, xqa (.goto (-120)) 3 17, xz, xz, xqv (.iconst 0) 1 0, xq .ireturn 1]
-- TermReader$Tokens.escaped(I)I
def xc_106 : List (Option xRow) := [xq (.iload_n 0) 1, xqs (.lookupswitch 51 #[(39, 49), (92, 49), (110, 43), (116, 46)]) 43 52 [(39, 50), (92, 50), (110, 44), (116, 47)], xz, xz, xz, xz, xz, xz, xz, xz, xz, xz, xz, xz, xz, xz, xz, xz, xz, xz, xz, xz, xz, xz, xz, xz, xz, xz, xz, xz, xz, xz, xz, xz, xz, xz, xz, xz, xz, xz, xz, xz, xz, xz, xqv (.bipush 10) 2 10, xz, xq .ireturn 1, xqv (.bipush 9) 2 9, xz, xq .ireturn 1, xq (.iload_n 0) 1, xq .ireturn 1, xqv (.iconst (-1)) 1 (-1), xq .ireturn 1]
-- TermReader$Tokens.addVariable(I)Z
def xc_107 : List (Option xRow) := [xq (.iload_n 1) 1, xq (.aload_n 0) 1, xqc (.getfield 42) 3 5 9 298, xz, xz, xq .isub 1, xq (.istore_n 2) 1, xq (.iload_n 2) 1, xqv (.bipush 24) 2 24, xz, xqa (.if_icmp .gt 23) 3 33, xz, xz, xq (.aload_n 0) 1, xqv (.iconst 2) 1 2, xq (.iload_n 1) 1, xq (.aload_n 0) 1, xq (.iload_n 2) 1, xqc (.invokevirtual 157) 3 108 2 622, xz, xz, xq (.iload_n 2) 1, xq (.lconst 0) 1, xqc (.invokevirtual 124) 3 100 6 613, xz, xz, xqa (.ifCond .eq 7) 3 33, xz, xz, xqv (.iconst 1) 1 1, xqa (.goto 4) 3 34, xz, xz, xqv (.iconst 0) 1 0, xq .ireturn 1]
-- TermReader$Tokens.variableNumber(I)I
def xc_108 : List (Option xRow) := [xq (.iload_n 1) 1, xqv (.iconst 1) 1 1, xqa (.if_icmp .ne 23) 3 25, xz, xz, xq (.aload_n 0) 1, xqc (.getfield 9) 3 5 0 289, xz, xz, xq (.aload_n 0) 1, xqc (.getfield 42) 3 5 9 298, xz, xz, xqc (.invokevirtual 72) 3 13 2 574, xz, xz, xqv (.bipush 95) 2 95, xz, xqa (.if_icmp .ne 7) 3 25, xz, xz, xqv (.iconst 1) 1 1, xqa (.goto 4) 3 26, xz, xz, xqv (.iconst 0) 1 0, xq (.istore_n 2) 1, xqv (.iconst 0) 1 0, xq (.istore_n 3) 1, xq (.iload_n 3) 1, xq (.aload_n 0) 1, xqc (.getfield 38) 3 5 8 297, xz, xz, xqa (.if_icmp .ge 60) 3 94, xz, xz, xq (.iload_n 3) 1, xqv (.bipush 120) 2 120, xz, xqa (.if_icmp .ge 54) 3 94, xz, xz, xq (.iload_n 2) 1, xqa (.ifCond .ne 50) 3 94, xz, xz, xq (.aload_n 0) 1, xqc (.getfield 18) 3 5 2 291, xz, xz, xq (.iload_n 3) 1, xq .iaload 1, xqv (.iconst 2) 1 2, xqa (.if_icmp .ne 34) 3 88, xz, xz, xq (.aload_n 0) 1, xqc (.getfield 31) 3 5 6 295, xz, xz, xq (.iload_n 3) 1, xq .iaload 1, xq (.iload_n 1) 1, xqa (.if_icmp .ne 24) 3 88, xz, xz, xq (.aload_n 0) 1, xq (.aload_n 0) 1, xqc (.getfield 22) 3 5 3 292, xz, xz, xq (.iload_n 3) 1, xq .iaload 1, xq (.iload_n 1) 1, xqc (.invokevirtual 160) 3 109 3 626, xz, xz, xqa (.ifCond .eq 10) 3 88, xz, xz, xq (.aload_n 0) 1, xqc (.getfield 28) 3 5 5 294, xz, xz, xq (.iload_n 3) 1, xq .iaload 1, xq .ireturn 1, xqv (.iinc 3 1) 3 1, xz, xz, xqa (.goto (-62)) 3 29, xz, xz, xq (.aload_n 0) 1, xq .dup 1, xqc (.getfield 45) 3 5 10 299, xz, xz, xqv (.iconst 1) 1 1, xq .iadd 1, xqc (.putfield 45) 3 5 10 299, xz, xz, xq (.aload_n 0) 1, xqc (.getfield 45) 3 5 10 299, xz, xz, xqv (.iconst 1) 1 1, xq .isub 1, xq .ireturn 1]
-- TermReader$Tokens.isSameText(II)Z
def xc_109 : List (Option xRow) := [xqv (.iconst 0) 1 0, xq (.istore_n 3) 1, xq (.iload_n 3) 1, xq (.iload_n 2) 1, xqa (.if_icmp .ge 37) 3 41, xz, xz, xq (.aload_n 0) 1, xqc (.getfield 9) 3 5 0 289, xz, xz, xq (.iload_n 1) 1, xq (.iload_n 3) 1, xq .iadd 1, xqc (.invokevirtual 72) 3 13 2 574, xz, xz, xq (.aload_n 0) 1, xqc (.getfield 9) 3 5 0 289, xz, xz, xq (.aload_n 0) 1, xqc (.getfield 42) 3 5 9 298, xz, xz, xq (.iload_n 3) 1, xq .iadd 1, xqc (.invokevirtual 72) 3 13 2 574, xz, xz, xqa (.if_icmp .eq 5) 3 35, xz, xz, xqv (.iconst 0) 1 0, xq .ireturn 1, xqv (.iinc 3 1) 3 1, xz, xz, xqa (.goto (-36)) 3 2, xz, xz, xqv (.iconst 1) 1 1, xq .ireturn 1]
-- TermReader$Tokens.addInteger(II)Z
def xc_110 : List (Option xRow) := [xq (.iload_n 1) 1, xqv (.bipush 48) 2 48, xz, xqa (.if_icmp .ne 63) 3 66, xz, xz, xq (.iload_n 2) 1, xqv (.bipush 39) 2 39, xz, xqa (.if_icmp .ne 57) 3 66, xz, xz, xq (.aload_n 0) 1, xqc (.getfield 9) 3 5 0 289, xz, xz, xq (.aload_n 0) 1, xqc (.getfield 42) 3 5 9 298, xz, xz, xqv (.iconst 2) 1 2, xq .iadd 1, xqc (.invokevirtual 72) 3 13 2 574, xz, xz, xq (.istore_n 3) 1, xq (.iload_n 3) 1, xqv (.iconst (-1)) 1 (-1), xqa (.if_icmp .eq 36) 3 64, xz, xz, xq (.iload_n 3) 1, xqv (.bipush 39) 2 39, xz, xqa (.if_icmp .eq 30) 3 64, xz, xz, xq (.iload_n 3) 1, xqv (.bipush 92) 2 92, xz, xqa (.if_icmp .eq 24) 3 64, xz, xz, xq (.aload_n 0) 1, xqv (.iconst 3) 1 3, xq (.aload_n 0) 1, xqc (.getfield 42) 3 5 9 298, xz, xz, xqv (.iconst 3) 1 3, xq .iadd 1, xq (.iload_n 3) 1, xqv (.iconst 0) 1 0, xq (.lconst 0) 1, xqc (.invokevirtual 124) 3 100 6 613, xz, xz, xqa (.ifCond .eq 7) 3 64, xz, xz, xqv (.iconst 1) 1 1, xqa (.goto 4) 3 65, xz, xz, xqv (.iconst 0) 1 0, xq .ireturn 1, xq (.iload_n 1) 1, xqv (.bipush 48) 2 48, xz, xqa (.if_icmp .ne 44) 3 113, xz, xz, xq (.iload_n 2) 1, xqv (.bipush 120) 2 120, xz, xqa (.if_icmp .ne 38) 3 113, xz, xz, xq (.aload_n 0) 1, xqc (.getfield 9) 3 5 0 289, xz, xz, xq (.aload_n 0) 1, xqc (.getfield 42) 3 5 9 298, xz, xz, xqv (.iconst 2) 1 2, xq .iadd 1, xqc (.invokevirtual 72) 3 13 2 574, xz, xz, xqv (.bipush 16) 2 16, xz, xqc (.invokestatic 163) 3 207 2 635, xz, xz, xqv (.iconst (-1)) 1 (-1), xqa (.if_icmp .eq 16) 3 113, xz, xz, xq (.aload_n 0) 1, xq (.aload_n 0) 1, xqc (.getfield 42) 3 5 9 298, xz, xz, xqv (.iconst 2) 1 2, xq .iadd 1, xqv (.bipush 16) 2 16, xz, xqc (.invokevirtual 167) 3 111 3 638, xz, xz, xq .ireturn 1, xq (.aload_n 0) 1, xq (.aload_n 0) 1, xqc (.getfield 42) 3 5 9 298, xz, xz, xqv (.bipush 10) 2 10, xz, xqc (.invokevirtual 167) 3 111 3 638, xz, xz, xq .ireturn 1]
-- TermReader$Tokens.addDigits(II)Z
def xc_111 : List (Option xRow) := [xq (.lconst 0) 1, xq (.lstore_n 3) 1, xq (.iload_n 1) 1, xq (.istore 5) 2, xz, xq (.iload_n 1) 1, xq (.istore 6) 2, xz, xq (.iload 6) 2, xz, xq (.aload_n 0) 1, xqc (.getfield 9) 3 5 0 289, xz, xz, xqc (.invokevirtual 63) 3 12 1 575, xz, xz, xqa (.if_icmp .ge 58) 3 75, xz, xz, xq (.aload_n 0) 1, xqc (.getfield 9) 3 5 0 289, xz, xz, xq (.iload 6) 2, xz, xqc (.invokevirtual 72) 3 13 2 574, xz, xz, xq (.iload_n 2) 1, xqc (.invokestatic 163) 3 207 2 635, xz, xz, xq (.istore 7) 2, xz, xq (.iload 7) 2, xz, xqv (.iconst (-1)) 1 (-1), xqa (.if_icmp .ne 6) 3 44, xz, xz, xqa (.goto 34) 3 75, xz, xz, xq (.lload_n 3) 1, xq (.iload_n 2) 1, xq .i2l 1, xq .lmul 1, xq (.iload 7) 2, xz, xq .i2l 1, xq .ladd 1, xq (.lstore_n 3) 1, xq (.lload_n 3) 1, xqk (.ldc2_w 170) 3 0 0 642 2147483647, xz, xz, xq .lcmp 1, xqa (.ifCond .le 5) 3 63, xz, xz, xqv (.iconst 0) 1 0, xq .ireturn 1, xq (.iload 6) 2, xz, xqv (.iconst 1) 1 1, xq .iadd 1, xq (.istore 5) 2, xz, xqv (.iinc 6 1) 3 1, xz, xz, xqa (.goto (-64)) 3 8, xz, xz, xq (.aload_n 0) 1, xqv (.iconst 3) 1 3, xq (.iload 5) 2, xz, xq (.lload_n 3) 1, xq .l2i 1, xqv (.iconst 0) 1 0, xq (.lconst 0) 1, xqc (.invokevirtual 124) 3 100 6 613, xz, xz, xq .ireturn 1]
-- TermReader$Tokens.addString()Z
def xc_112 : List (Option xRow) := [xq (.aload_n 0) 1, xqc (.getfield 42) 3 5 9 298, xz, xz, xqv (.iconst 1) 1 1, xq .iadd 1, xq (.istore_n 1) 1, xq (.iload_n 1) 1, xq (.istore_n 2) 1, xq (.iload_n 2) 1, xq (.aload_n 0) 1, xqc (.getfield 9) 3 5 0 289, xz, xz, xqc (.invokevirtual 63) 3 12 1 575, xz, xz, xqa (.if_icmp .ge 65) 3 82, xz, xz, xq (.aload_n 0) 1, xqc (.getfield 9) 3 5 0 289, xz, xz, xq (.iload_n 2) 1, xqc (.invokevirtual 72) 3 13 2 574, xz, xz, xq (.istore_n 3) 1, xq (.iload_n 3) 1, xqv (.bipush 34) 2 34, xz, xqa (.if_icmp .ne 36) 3 68, xz, xz, xq (.iload_n 2) 1, xq (.iload_n 1) 1, xq .isub 1, xq (.istore 4) 2, xz, xq (.iload 4) 2, xz, xqv (.bipush 12) 2 12, xz, xqa (.if_icmp .gt 22) 3 66, xz, xz, xq (.aload_n 0) 1, xqv (.iconst 4) 1 4, xq (.iload_n 2) 1, xqv (.iconst 1) 1 1, xq .iadd 1, xq (.iload_n 1) 1, xq (.iload 4) 2, xz, xq (.lconst 0) 1, xqc (.invokevirtual 124) 3 100 6 613, xz, xz, xqa (.ifCond .eq 7) 3 66, xz, xz, xqv (.iconst 1) 1 1, xqa (.goto 4) 3 67, xz, xz, xqv (.iconst 0) 1 0, xq .ireturn 1, xq (.iload_n 3) 1, xqv (.bipush 92) 2 92, xz, xqa (.if_icmp .ne 5) 3 76, xz, xz, xqv (.iconst 0) 1 0, xq .ireturn 1, xqv (.iinc 2 1) 3 1, xz, xz, xqa (.goto (-70)) 3 9, xz, xz, xqv (.iconst 0) 1 0, xq .ireturn 1]
-- TermReader$Writer.<init>(LTermReader$CharRow;LTermReader$CharRow;LTermReader$Operators;LTermReader$Parts;)V
def xc_113 : List (Option xRow) := [xq (.aload_n 0) 1, xqc (.invokespecial 3) 3 1000 1 350, xz, xz, xq (.aload_n 0) 1, xq (.aload_n 1) 1, xqc (.putfield 9) 3 6 0 351, xz, xz, xq (.aload_n 0) 1, xq (.aload_n 2) 1, xqc (.putfield 15) 3 6 1 352, xz, xz, xq (.aload_n 0) 1, xq (.aload_n 3) 1, xqc (.putfield 18) 3 6 2 353, xz, xz, xq (.aload_n 0) 1, xq (.aload 4) 2, xz, xqc (.putfield 22) 3 6 3 354, xz, xz, xq .return_ 1]
-- TermReader$Writer.whole(I)V
def xc_114 : List (Option xRow) := [xq (.aload_n 0) 1, xqc (.getfield 9) 3 6 0 351, xz, xz, xqv (.iconst 0) 1 0, xqc (.invokevirtual 26) 3 15 2 911, xz, xz, xq (.aload_n 0) 1, xq (.iload_n 1) 1, xqv (.sipush 1200) 3 1200, xz, xz, xqv (.iconst 1) 1 1, xqc (.invokevirtual 32) 3 115 4 912, xz, xz, xq .return_ 1]
-- TermReader$Writer.part(III)V
def xc_115 : List (Option xRow) := [xq (.iload_n 3) 1, xqv (.bipush 14) 2 14, xz, xqa (.if_icmp .le 4) 3 7, xz, xz, xq .return_ 1, xq (.aload_n 0) 1, xqc (.getfield 22) 3 6 3 354, xz, xz, xq (.iload_n 1) 1, xqc (.invokevirtual 36) 3 60 2 916, xz, xz, xqs (.tableswitch 72 0 2 #[25, 49, 64]) 25 87 [(0, 40), (1, 64), (2, 79)], xz, xz, xz, xz, xz, xz, xz, xz, xz, xz, xz, xz, xz, xz, xz, xz, xz, xz, xz, xz, xz, xz, xz, xz, xq (.aload_n 0) 1, xqc (.getfield 9) 3 6 0 351, xz, xz, xqv (.bipush 95) 2 95, xz, xqc (.invokevirtual 42) 3 14 2 920, xz, xz, xq (.aload_n 0) 1, xq (.aload_n 0) 1, xqc (.getfield 22) 3 6 3 354, xz, xz, xq (.iload_n 1) 1, xqc (.invokevirtual 45) 3 61 2 921, xz, xz, xqc (.invokevirtual 48) 3 125 2 925, xz, xz, xqa (.goto 33) 3 94, xz, xz, xq (.aload_n 0) 1, xq (.aload_n 0) 1, xqc (.getfield 22) 3 6 3 354, xz, xz, xq (.iload_n 1) 1, xqc (.invokevirtual 45) 3 61 2 921, xz, xz, xqc (.invokevirtual 48) 3 125 2 925, xz, xz, xqa (.goto 18) 3 94, xz, xz, xq (.aload_n 0) 1, xq (.iload_n 1) 1, xqc (.invokevirtual 51) 3 126 2 930, xz, xz, xqa (.goto 10) 3 94, xz, xz, xq (.aload_n 0) 1, xq (.iload_n 1) 1, xq (.iload_n 2) 1, xq (.iload_n 3) 1, xqc (.invokevirtual 54) 3 116 4 953, xz, xz, xq .return_ 1]
-- TermReader$Writer.compound(III)V
def xc_116 : List (Option xRow) := [xq (.aload_n 0) 1, xq (.iload_n 1) 1, xqc (.invokevirtual 57) 3 117 2 957, xz, xz, xq (.istore 4) 2, xz, xq (.iload 4) 2, xz, xqv (.iconst (-1)) 1 (-1), xqa (.if_icmp .eq 15) 3 25, xz, xz, xq (.aload_n 0) 1, xq (.iload_n 1) 1, xq (.iload 4) 2, xz, xq (.iload_n 2) 1, xq (.iload_n 3) 1, xqc (.invokevirtual 60) 3 118 5 984, xz, xz, xqa (.goto 84) 3 106, xz, xz, xq (.aload_n 0) 1, xqc (.getfield 22) 3 6 3 354, xz, xz, xq (.iload_n 1) 1, xqc (.invokevirtual 64) 3 72 2 1024, xz, xz, xqa (.ifCond .eq 12) 3 45, xz, xz, xq (.aload_n 0) 1, xq (.iload_n 1) 1, xq (.iload_n 3) 1, xqc (.invokevirtual 68) 3 123 3 1031, xz, xz, xqa (.goto 64) 3 106, xz, xz, xq (.aload_n 0) 1, xqc (.getfield 22) 3 6 3 354, xz, xz, xq (.iload_n 1) 1, xqc (.invokevirtual 72) 3 73 2 1040, xz, xz, xqa (.ifCond .eq 42) 3 95, xz, xz, xq (.aload_n 0) 1, xqc (.getfield 9) 3 6 0 351, xz, xz, xqv (.bipush 123) 2 123, xz, xqc (.invokevirtual 42) 3 14 2 920, xz, xz, xq (.aload_n 0) 1, xq (.aload_n 0) 1, xqc (.getfield 22) 3 6 3 354, xz, xz, xq (.iload_n 1) 1, xqc (.invokevirtual 75) 3 63 2 993, xz, xz, xqv (.sipush 1200) 3 1200, xz, xz, xq (.iload_n 3) 1, xqv (.iconst 1) 1 1, xq .iadd 1, xqc (.invokevirtual 32) 3 115 4 912, xz, xz, xq (.aload_n 0) 1, xqc (.getfield 9) 3 6 0 351, xz, xz, xqv (.bipush 125) 2 125, xz, xqc (.invokevirtual 42) 3 14 2 920, xz, xz, xqa (.goto 14) 3 106, xz, xz, xq (.aload_n 0) 1, xq (.iload_n 1) 1, xqc (.invokevirtual 51) 3 126 2 930, xz, xz, xq (.aload_n 0) 1, xq (.iload_n 1) 1, xq (.iload_n 3) 1, xqc (.invokevirtual 78) 3 124 3 1045, xz, xz, xq .return_ 1]
-- TermReader$Writer.slotOf(I)I
def xc_117 : List (Option xRow) := [xq (.aload_n 0) 1, xqc (.getfield 22) 3 6 3 354, xz, xz, xq (.iload_n 1) 1, xqc (.invokevirtual 36) 3 60 2 916, xz, xz, xqv (.iconst 3) 1 3, xqa (.if_icmp .eq 5) 3 14, xz, xz, xqv (.iconst (-1)) 1 (-1), xq .ireturn 1, xq (.aload_n 0) 1, xqc (.getfield 22) 3 6 3 354, xz, xz, xq (.iload_n 1) 1, xqc (.invokevirtual 81) 3 70 2 961, xz, xz, xq (.istore_n 2) 1, xq (.aload_n 0) 1, xqc (.getfield 22) 3 6 3 354, xz, xz, xq (.iload_n 1) 1, xqc (.invokevirtual 84) 3 69 2 969, xz, xz, xq (.lstore_n 3) 1, xq (.aload_n 0) 1, xqc (.getfield 18) 3 6 2 353, xz, xz, xq (.lload_n 3) 1, xqc (.invokevirtual 88) 3 23 2 977, xz, xz, xq (.istore 5) 2, xz, xq (.iload_n 2) 1, xqv (.iconst 1) 1 1, xqa (.if_icmp .ne 12) 3 56, xz, xz, xq (.iload 5) 2, xz, xqv (.iconst (-1)) 1 (-1), xqa (.if_icmp .eq 6) 3 56, xz, xz, xq (.iload 5) 2, xz, xq .ireturn 1, xq (.aload_n 0) 1, xqc (.getfield 18) 3 6 2 353, xz, xz, xq (.lload_n 3) 1, xqc (.invokevirtual 94) 3 24 2 978, xz, xz, xq (.istore 6) 2, xz, xq (.iload_n 2) 1, xqv (.iconst 1) 1 1, xqa (.if_icmp .ne 15) 3 83, xz, xz, xq (.aload_n 0) 1, xqc (.getfield 18) 3 6 2 353, xz, xz, xq (.iload 6) 2, xz, xqc (.invokevirtual 97) 3 32 2 979, xz, xz, xqa (.ifCond .ne 20) 3 100, xz, xz, xq (.iload_n 2) 1, xqv (.iconst 2) 1 2, xqa (.if_icmp .ne 19) 3 104, xz, xz, xq (.aload_n 0) 1, xqc (.getfield 18) 3 6 2 353, xz, xz, xq (.iload 6) 2, xz, xqc (.invokevirtual 100) 3 33 2 983, xz, xz, xqa (.ifCond .eq 7) 3 104, xz, xz, xqv (.iconst 1) 1 1, xqa (.goto 4) 3 105, xz, xz, xqv (.iconst 0) 1 0, xq (.istore 7) 2, xz, xq (.iload 7) 2, xz, xqa (.ifCond .eq 8) 3 117, xz, xz, xq (.iload 6) 2, xz, xqa (.goto 4) 3 118, xz, xz, xqv (.iconst (-1)) 1 (-1), xq .ireturn 1]
-- TermReader$Writer.bracketed(IIII)V
def xc_118 : List (Option xRow) := [xq (.aload_n 0) 1, xqc (.getfield 18) 3 6 2 353, xz, xz, xq (.iload_n 2) 1, xqc (.invokevirtual 103) 3 29 2 988, xz, xz, xq (.iload_n 3) 1, xqa (.if_icmp .le 7) 3 16, xz, xz, xqv (.iconst 1) 1 1, xqa (.goto 4) 3 17, xz, xz, xqv (.iconst 0) 1 0, xq (.istore 5) 2, xz, xq (.iload 5) 2, xz, xqa (.ifCond .eq 12) 3 33, xz, xz, xq (.aload_n 0) 1, xqc (.getfield 9) 3 6 0 351, xz, xz, xqv (.bipush 40) 2 40, xz, xqc (.invokevirtual 42) 3 14 2 920, xz, xz, xq (.aload_n 0) 1, xq (.iload_n 1) 1, xq (.iload_n 2) 1, xq (.iload 4) 2, xz, xqc (.invokevirtual 106) 3 119 4 989, xz, xz, xq (.iload 5) 2, xz, xqa (.ifCond .eq 12) 3 55, xz, xz, xq (.aload_n 0) 1, xqc (.getfield 9) 3 6 0 351, xz, xz, xqv (.bipush 41) 2 41, xz, xqc (.invokevirtual 42) 3 14 2 920, xz, xz, xq .return_ 1]
-- TermReader$Writer.operated(III)V
def xc_119 : List (Option xRow) := [xq (.aload_n 0) 1, xqc (.getfield 22) 3 6 3 354, xz, xz, xq (.iload_n 1) 1, xqc (.invokevirtual 75) 3 63 2 993, xz, xz, xq (.istore 4) 2, xz, xq (.aload_n 0) 1, xqc (.getfield 18) 3 6 2 353, xz, xz, xq (.iload_n 2) 1, xqc (.invokevirtual 109) 3 31 2 994, xz, xz, xqa (.ifCond .eq 35) 3 53, xz, xz, xq (.aload_n 0) 1, xq (.iload_n 1) 1, xqc (.invokevirtual 51) 3 126 2 930, xz, xz, xq (.aload_n 0) 1, xqc (.getfield 9) 3 6 0 351, xz, xz, xqv (.bipush 32) 2 32, xz, xqc (.invokevirtual 42) 3 14 2 920, xz, xz, xq (.aload_n 0) 1, xq (.iload 4) 2, xz, xq (.aload_n 0) 1, xqc (.getfield 18) 3 6 2 353, xz, xz, xq (.iload_n 2) 1, xqc (.invokevirtual 112) 3 36 2 998, xz, xz, xq (.iload_n 3) 1, xqv (.iconst 1) 1 1, xq .iadd 1, xqc (.invokevirtual 115) 3 122 4 999, xz, xz, xq .return_ 1, xq (.aload_n 0) 1, xq (.iload 4) 2, xz, xq (.aload_n 0) 1, xq (.iload 4) 2, xz, xq (.iload_n 2) 1, xqc (.invokevirtual 118) 3 121 3 1009, xz, xz, xq (.iload_n 3) 1, xqv (.iconst 1) 1 1, xq .iadd 1, xqc (.invokevirtual 115) 3 122 4 999, xz, xz, xq (.aload_n 0) 1, xqc (.getfield 18) 3 6 2 353, xz, xz, xq (.iload_n 2) 1, xqc (.invokevirtual 97) 3 32 2 979, xz, xz, xqa (.ifCond .eq 18) 3 95, xz, xz, xq (.aload_n 0) 1, xqc (.getfield 9) 3 6 0 351, xz, xz, xqv (.bipush 32) 2 32, xz, xqc (.invokevirtual 42) 3 14 2 920, xz, xz, xq (.aload_n 0) 1, xq (.iload_n 1) 1, xqc (.invokevirtual 51) 3 126 2 930, xz, xz, xq .return_ 1, xq (.aload_n 0) 1, xq (.iload_n 1) 1, xqc (.invokevirtual 122) 3 120 2 1015, xz, xz, xq (.aload_n 0) 1, xq (.aload_n 0) 1, xqc (.getfield 22) 3 6 3 354, xz, xz, xq (.iload_n 1) 1, xqc (.invokevirtual 125) 3 65 2 1020, xz, xz, xq (.aload_n 0) 1, xqc (.getfield 18) 3 6 2 353, xz, xz, xq (.iload_n 2) 1, xqc (.invokevirtual 112) 3 36 2 998, xz, xz, xq (.iload_n 3) 1, xqv (.iconst 1) 1 1, xq .iadd 1, xqc (.invokevirtual 115) 3 122 4 999, xz, xz, xq .return_ 1]
-- TermReader$Writer.infixName(I)V
def xc_120 : List (Option xRow) := [xq (.aload_n 0) 1, xqc (.getfield 22) 3 6 3 354, xz, xz, xq (.iload_n 1) 1, xqc (.invokevirtual 84) 3 69 2 969, xz, xz, xqk (.ldc2_w 128) 3 0 0 1019 44, xz, xz, xq .lcmp 1, xqa (.ifCond .ne 13) 3 25, xz, xz, xq (.aload_n 0) 1, xqc (.getfield 9) 3 6 0 351, xz, xz, xqv (.bipush 44) 2 44, xz, xqc (.invokevirtual 42) 3 14 2 920, xz, xz, xq .return_ 1, xq (.aload_n 0) 1, xqc (.getfield 9) 3 6 0 351, xz, xz, xqv (.bipush 32) 2 32, xz, xqc (.invokevirtual 42) 3 14 2 920, xz, xz, xq (.aload_n 0) 1, xq (.iload_n 1) 1, xqc (.invokevirtual 51) 3 126 2 930, xz, xz, xq (.aload_n 0) 1, xqc (.getfield 9) 3 6 0 351, xz, xz, xqv (.bipush 32) 2 32, xz, xqc (.invokevirtual 42) 3 14 2 920, xz, xz, xq .return_ 1]
-- TermReader$Writer.leftMost(II)I
def xc_121 : List (Option xRow) := [xq (.aload_n 0) 1, xqc (.getfield 18) 3 6 2 353, xz, xz, xq (.aload_n 0) 1, xq (.iload_n 1) 1, xqc (.invokevirtual 57) 3 117 2 957, xz, xz, xqc (.invokevirtual 130) 3 34 2 1013, xz, xz, xqa (.ifCond .eq 16) 3 28, xz, xz, xq (.aload_n 0) 1, xqc (.getfield 18) 3 6 2 353, xz, xz, xq (.iload_n 2) 1, xqc (.invokevirtual 103) 3 29 2 988, xz, xz, xqv (.iconst 1) 1 1, xq .isub 1, xqa (.goto 11) 3 36, xz, xz, xq (.aload_n 0) 1, xqc (.getfield 18) 3 6 2 353, xz, xz, xq (.iload_n 2) 1, xqc (.invokevirtual 133) 3 35 2 1014, xz, xz, xq .ireturn 1]
-- TermReader$Writer.operand(III)V
def xc_122 : List (Option xRow) := [xq (.aload_n 0) 1, xqc (.getfield 22) 3 6 3 354, xz, xz, xq (.iload_n 1) 1, xqc (.invokevirtual 36) 3 60 2 916, xz, xz, xqv (.iconst 2) 1 2, xqa (.if_icmp .ne 25) 3 34, xz, xz, xq (.aload_n 0) 1, xqc (.getfield 18) 3 6 2 353, xz, xz, xq (.aload_n 0) 1, xqc (.getfield 22) 3 6 3 354, xz, xz, xq (.iload_n 1) 1, xqc (.invokevirtual 84) 3 69 2 969, xz, xz, xqc (.invokevirtual 135) 3 25 2 1003, xz, xz, xqa (.ifCond .eq 7) 3 34, xz, xz, xqv (.iconst 1) 1 1, xqa (.goto 4) 3 35, xz, xz, xqv (.iconst 0) 1 0, xq (.istore 4) 2, xz, xq (.iload 4) 2, xz, xqa (.ifCond .eq 12) 3 51, xz, xz, xq (.aload_n 0) 1, xqc (.getfield 9) 3 6 0 351, xz, xz, xqv (.bipush 40) 2 40, xz, xqc (.invokevirtual 42) 3 14 2 920, xz, xz, xq (.aload_n 0) 1, xq (.iload_n 1) 1, xq (.iload_n 2) 1, xq (.iload_n 3) 1, xqc (.invokevirtual 32) 3 115 4 912, xz, xz, xq (.iload 4) 2, xz, xqa (.ifCond .eq 12) 3 72, xz, xz, xq (.aload_n 0) 1, xqc (.getfield 9) 3 6 0 351, xz, xz, xqv (.bipush 41) 2 41, xz, xqc (.invokevirtual 42) 3 14 2 920, xz, xz, xq .return_ 1]
-- TermReader$Writer.list(II)V
def xc_123 : List (Option xRow) := [xq (.aload_n 0) 1, xqc (.getfield 9) 3 6 0 351, xz, xz, xqv (.bipush 91) 2 91, xz, xqc (.invokevirtual 42) 3 14 2 920, xz, xz, xq (.aload_n 0) 1, xq (.aload_n 0) 1, xqc (.getfield 22) 3 6 3 354, xz, xz, xq (.iload_n 1) 1, xqc (.invokevirtual 75) 3 63 2 993, xz, xz, xqv (.sipush 999) 3 999, xz, xz, xq (.iload_n 2) 1, xqv (.iconst 1) 1 1, xq .iadd 1, xqc (.invokevirtual 32) 3 115 4 912, xz, xz, xq (.aload_n 0) 1, xqc (.getfield 22) 3 6 3 354, xz, xz, xq (.iload_n 1) 1, xqc (.invokevirtual 125) 3 65 2 1020, xz, xz, xq (.istore_n 3) 1, xq (.iload_n 2) 1, xqv (.iconst 1) 1 1, xq .iadd 1, xq (.istore 4) 2, xz, xqv (.iconst 0) 1 0, xq (.istore 5) 2, xz, xq (.iload 5) 2, xz, xqv (.bipush 14) 2 14, xz, xqa (.if_icmp .ge 58) 3 106, xz, xz, xq (.aload_n 0) 1, xqc (.getfield 22) 3 6 3 354, xz, xz, xq (.iload_n 3) 1, xqc (.invokevirtual 64) 3 72 2 1024, xz, xz, xqa (.ifCond .eq 47) 3 106, xz, xz, xqv (.iinc 4 1) 3 1, xz, xz, xq (.aload_n 0) 1, xqc (.getfield 9) 3 6 0 351, xz, xz, xqv (.bipush 44) 2 44, xz, xqc (.invokevirtual 42) 3 14 2 920, xz, xz, xq (.aload_n 0) 1, xq (.aload_n 0) 1, xqc (.getfield 22) 3 6 3 354, xz, xz, xq (.iload_n 3) 1, xqc (.invokevirtual 75) 3 63 2 993, xz, xz, xqv (.sipush 999) 3 999, xz, xz, xq (.iload 4) 2, xz, xqc (.invokevirtual 32) 3 115 4 912, xz, xz, xq (.aload_n 0) 1, xqc (.getfield 22) 3 6 3 354, xz, xz, xq (.iload_n 3) 1, xqc (.invokevirtual 125) 3 65 2 1020, xz, xz, xq (.istore_n 3) 1, xqv (.iinc 5 1) 3 1, xz, xz, xqa (.goto (-59)) 3 44, xz, xz, xq (.aload_n 0) 1, xqc (.getfield 22) 3 6 3 354, xz, xz, xq (.iload_n 3) 1, xqc (.invokevirtual 139) 3 71 2 1035, xz, xz, xqa (.ifCond .ne 22) 3 136, xz, xz, xq (.aload_n 0) 1, xqc (.getfield 9) 3 6 0 351, xz, xz, xqv (.bipush 124) 2 124, xz, xqc (.invokevirtual 42) 3 14 2 920, xz, xz, xq (.aload_n 0) 1, xq (.iload_n 3) 1, xqv (.sipush 999) 3 999, xz, xz, xq (.iload 4) 2, xz, xqc (.invokevirtual 32) 3 115 4 912, xz, xz, xq (.aload_n 0) 1, xqc (.getfield 9) 3 6 0 351, xz, xz, xqv (.bipush 93) 2 93, xz, xqc (.invokevirtual 42) 3 14 2 920, xz, xz, xq .return_ 1]
-- TermReader$Writer.arguments(II)V
def xc_124 : List (Option xRow) := [xq (.aload_n 0) 1, xqc (.getfield 22) 3 6 3 354, xz, xz, xq (.iload_n 1) 1, xqc (.invokevirtual 75) 3 63 2 993, xz, xz, xq (.istore_n 3) 1, xqv (.iconst 0) 1 0, xq (.istore 4) 2, xz, xq (.iload 4) 2, xz, xqv (.bipush 6) 2 6, xz, xqa (.if_icmp .ge 53) 3 69, xz, xz, xq (.iload_n 3) 1, xqv (.iconst (-1)) 1 (-1), xqa (.if_icmp .eq 48) 3 69, xz, xz, xq (.aload_n 0) 1, xqc (.getfield 9) 3 6 0 351, xz, xz, xq (.iload 4) 2, xz, xqa (.ifCond .ne 8) 3 38, xz, xz, xqv (.bipush 40) 2 40, xz, xqa (.goto 5) 3 40, xz, xz, xqv (.bipush 44) 2 44, xz, xqc (.invokevirtual 42) 3 14 2 920, xz, xz, xq (.aload_n 0) 1, xq (.iload_n 3) 1, xqv (.sipush 999) 3 999, xz, xz, xq (.iload_n 2) 1, xqv (.iconst 1) 1 1, xq .iadd 1, xqc (.invokevirtual 32) 3 115 4 912, xz, xz, xq (.aload_n 0) 1, xqc (.getfield 22) 3 6 3 354, xz, xz, xq (.iload_n 3) 1, xqc (.invokevirtual 142) 3 64 2 1049, xz, xz, xq (.istore_n 3) 1, xqv (.iinc 4 1) 3 1, xz, xz, xqa (.goto (-54)) 3 12, xz, xz, xq (.aload_n 0) 1, xqc (.getfield 9) 3 6 0 351, xz, xz, xqv (.bipush 41) 2 41, xz, xqc (.invokevirtual 42) 3 14 2 920, xz, xz, xq .return_ 1]
-- TermReader$Writer.integer(I)V
def xc_125 : List (Option xRow) := [xq (.iload_n 1) 1, xq .i2l 1, xq (.lstore_n 2) 1, xq (.lload_n 2) 1, xq (.lconst 0) 1, xq .lcmp 1, xqa (.ifCond .ge 15) 3 21, xz, xz, xq (.aload_n 0) 1, xqc (.getfield 9) 3 6 0 351, xz, xz, xqv (.bipush 45) 2 45, xz, xqc (.invokevirtual 42) 3 14 2 920, xz, xz, xq (.lload_n 2) 1, xq .lneg 1, xq (.lstore_n 2) 1, xq (.lconst 1) 1, xq (.lstore 4) 2, xz, xqv (.iconst 0) 1 0, xq (.istore 6) 2, xz, xq (.iload 6) 2, xz, xqv (.bipush 10) 2 10, xz, xqa (.if_icmp .ge 28) 3 59, xz, xz, xq (.lload 4) 2, xz, xqk (.ldc2_w 145) 3 0 0 929 10, xz, xz, xq .lmul 1, xq (.lload_n 2) 1, xq .lcmp 1, xqa (.ifCond .gt 17) 3 59, xz, xz, xq (.lload 4) 2, xz, xqk (.ldc2_w 145) 3 0 0 929 10, xz, xz, xq .lmul 1, xq (.lstore 4) 2, xz, xqv (.iinc 6 1) 3 1, xz, xz, xqa (.goto (-29)) 3 27, xz, xz, xqv (.iconst 0) 1 0, xq (.istore 6) 2, xz, xq (.iload 6) 2, xz, xqv (.bipush 11) 2 11, xz, xqa (.if_icmp .ge 43) 3 109, xz, xz, xq (.lload 4) 2, xz, xq (.lconst 0) 1, xq .lcmp 1, xqa (.ifCond .le 36) 3 109, xz, xz, xq (.aload_n 0) 1, xqc (.getfield 9) 3 6 0 351, xz, xz, xqv (.bipush 48) 2 48, xz, xq (.lload_n 2) 1, xq (.lload 4) 2, xz, xq .ldiv 1, xqk (.ldc2_w 145) 3 0 0 929 10, xz, xz, xq .lrem 1, xq .l2i 1, xq .iadd 1, xqc (.invokevirtual 42) 3 14 2 920, xz, xz, xq (.lload 4) 2, xz, xqk (.ldc2_w 145) 3 0 0 929 10, xz, xz, xq .ldiv 1, xq (.lstore 4) 2, xz, xqv (.iinc 6 1) 3 1, xz, xz, xqa (.goto (-44)) 3 62, xz, xz, xq .return_ 1]
-- TermReader$Writer.name(I)V
def xc_126 : List (Option xRow) := [xq (.aload_n 0) 1, xqc (.getfield 22) 3 6 3 354, xz, xz, xq (.iload_n 1) 1, xqc (.invokevirtual 45) 3 61 2 921, xz, xz, xq (.istore_n 2) 1, xq (.aload_n 0) 1, xqc (.getfield 22) 3 6 3 354, xz, xz, xq (.iload_n 1) 1, xqc (.invokevirtual 147) 3 62 2 934, xz, xz, xq (.istore_n 3) 1, xq (.aload_n 0) 1, xq (.iload_n 2) 1, xq (.iload_n 3) 1, xqc (.invokevirtual 150) 3 128 3 938, xz, xz, xqa (.ifCond .ne 7) 3 31, xz, xz, xqv (.iconst 1) 1 1, xqa (.goto 4) 3 32, xz, xz, xqv (.iconst 0) 1 0, xq (.istore 4) 2, xz, xq (.iload 4) 2, xz, xqa (.ifCond .eq 12) 3 48, xz, xz, xq (.aload_n 0) 1, xqc (.getfield 9) 3 6 0 351, xz, xz, xqv (.bipush 39) 2 39, xz, xqc (.invokevirtual 42) 3 14 2 920, xz, xz, xqv (.iconst 0) 1 0, xq (.istore 5) 2, xz, xq (.iload 5) 2, xz, xq (.iload_n 3) 1, xqa (.if_icmp .ge 73) 3 127, xz, xz, xq (.aload_n 0) 1, xqc (.getfield 15) 3 6 1 352, xz, xz, xq (.iload_n 2) 1, xq (.iload 5) 2, xz, xq .iadd 1, xqc (.invokevirtual 154) 3 13 2 942, xz, xz, xq (.istore 6) 2, xz, xq (.iload 4) 2, xz, xqa (.ifCond .eq 11) 3 83, xz, xz, xq (.iload 6) 2, xz, xqc (.invokestatic 157) 3 127 1 950, xz, xz, xqa (.goto 4) 3 84, xz, xz, xqv (.iconst (-1)) 1 (-1), xq (.istore 7) 2, xz, xq (.iload 7) 2, xz, xqv (.iconst (-1)) 1 (-1), xqa (.if_icmp .eq 12) 3 101, xz, xz, xq (.aload_n 0) 1, xqc (.getfield 9) 3 6 0 351, xz, xz, xqv (.bipush 92) 2 92, xz, xqc (.invokevirtual 42) 3 14 2 920, xz, xz, xq (.aload_n 0) 1, xqc (.getfield 9) 3 6 0 351, xz, xz, xq (.iload 7) 2, xz, xqv (.iconst (-1)) 1 (-1), xqa (.if_icmp .eq 8) 3 116, xz, xz, xq (.iload 7) 2, xz, xqa (.goto 5) 3 118, xz, xz, xq (.iload 6) 2, xz, xqc (.invokevirtual 42) 3 14 2 920, xz, xz, xqv (.iinc 5 1) 3 1, xz, xz, xqa (.goto (-73)) 3 51, xz, xz, xq (.iload 4) 2, xz, xqa (.ifCond .eq 12) 3 141, xz, xz, xq (.aload_n 0) 1, xqc (.getfield 9) 3 6 0 351, xz, xz, xqv (.bipush 39) 2 39, xz, xqc (.invokevirtual 42) 3 14 2 920, xz, xz, xq .return_ 1]
-- TermReader$Writer.escapeOf(I)I
def xc_127 : List (Option xRow) := [xq (.iload_n 0) 1, xqs (.lookupswitch 51 #[(9, 46), (10, 43), (39, 49), (92, 49)]) 43 52 [(9, 47), (10, 44), (39, 50), (92, 50)], xz, xz, xz, xz, xz, xz, xz, xz, xz, xz, xz, xz, xz, xz, xz, xz, xz, xz, xz, xz, xz, xz, xz, xz, xz, xz, xz, xz, xz, xz, xz, xz, xz, xz, xz, xz, xz, xz, xz, xz, xz, xz, xqv (.bipush 110) 2 110, xz, xq .ireturn 1, xqv (.bipush 116) 2 116, xz, xq .ireturn 1, xq (.iload_n 0) 1, xq .ireturn 1, xqv (.iconst (-1)) 1 (-1), xq .ireturn 1]
-- TermReader$Writer.isPlain(II)Z
def xc_128 : List (Option xRow) := [xq (.iload_n 2) 1, xqa (.ifCond .le 14) 3 15, xz, xz, xq (.aload_n 0) 1, xqc (.getfield 15) 3 6 1 352, xz, xz, xq (.iload_n 1) 1, xqc (.invokevirtual 154) 3 13 2 942, xz, xz, xqa (.goto 4) 3 16, xz, xz, xqv (.iconst (-1)) 1 (-1), xq (.istore_n 3) 1, xq (.iload_n 2) 1, xqv (.iconst 1) 1 1, xqa (.if_icmp .le 16) 3 35, xz, xz, xq (.aload_n 0) 1, xqc (.getfield 15) 3 6 1 352, xz, xz, xq (.iload_n 1) 1, xqv (.iconst 1) 1 1, xq .iadd 1, xqc (.invokevirtual 154) 3 13 2 942, xz, xz, xqa (.goto 4) 3 36, xz, xz, xqv (.iconst (-1)) 1 (-1), xq (.istore 4) 2, xz, xq (.iload_n 2) 1, xqv (.iconst 1) 1 1, xqa (.if_icmp .ne 17) 3 57, xz, xz, xq (.iload_n 3) 1, xqv (.bipush 33) 2 33, xz, xqa (.if_icmp .eq 9) 3 55, xz, xz, xq (.iload_n 3) 1, xqv (.bipush 59) 2 59, xz, xqa (.if_icmp .ne 5) 3 57, xz, xz, xqv (.iconst 1) 1 1, xq .ireturn 1, xq (.iload_n 2) 1, xqv (.iconst 2) 1 2, xqa (.if_icmp .ne 31) 3 90, xz, xz, xq (.iload_n 3) 1, xqv (.bipush 91) 2 91, xz, xqa (.if_icmp .ne 10) 3 75, xz, xz, xq (.iload 4) 2, xz, xqv (.bipush 93) 2 93, xz, xqa (.if_icmp .eq 16) 3 88, xz, xz, xq (.iload_n 3) 1, xqv (.bipush 123) 2 123, xz, xqa (.if_icmp .ne 12) 3 90, xz, xz, xq (.iload 4) 2, xz, xqv (.bipush 125) 2 125, xz, xqa (.if_icmp .ne 5) 3 90, xz, xz, xqv (.iconst 1) 1 1, xq .ireturn 1, xq (.iload_n 3) 1, xqc (.invokestatic 160) 3 201 1 943, xz, xz, xqa (.ifCond .eq 11) 3 105, xz, xz, xq (.aload_n 0) 1, xq (.iload_n 1) 1, xq (.iload_n 2) 1, xqv (.iconst 0) 1 0, xqc (.invokevirtual 165) 3 129 4 944, xz, xz, xq .ireturn 1, xq (.iload_n 2) 1, xqv (.iconst 1) 1 1, xqa (.if_icmp .ne 9) 3 116, xz, xz, xq (.iload_n 3) 1, xqv (.bipush 46) 2 46, xz, xqa (.if_icmp .eq 16) 3 129, xz, xz, xq (.iload_n 3) 1, xqv (.bipush 47) 2 47, xz, xqa (.if_icmp .ne 14) 3 133, xz, xz, xq (.iload 4) 2, xz, xqv (.bipush 42) 2 42, xz, xqa (.if_icmp .ne 7) 3 133, xz, xz, xqv (.iconst 1) 1 1, xqa (.goto 4) 3 134, xz, xz, xqv (.iconst 0) 1 0, xq (.istore 5) 2, xz, xq (.iload_n 2) 1, xqa (.ifCond .le 22) 3 159, xz, xz, xq (.iload 5) 2, xz, xqa (.ifCond .ne 17) 3 159, xz, xz, xq (.aload_n 0) 1, xq (.iload_n 1) 1, xq (.iload_n 2) 1, xqv (.iconst 1) 1 1, xqc (.invokevirtual 165) 3 129 4 944, xz, xz, xqa (.ifCond .eq 7) 3 159, xz, xz, xqv (.iconst 1) 1 1, xqa (.goto 4) 3 160, xz, xz, xqv (.iconst 0) 1 0, xq .ireturn 1]
-- TermReader$Writer.isRow(IIZ)Z
def xc_129 : List (Option xRow) := [xqv (.iconst 0) 1 0, xq (.istore 4) 2, xz, xq (.iload 4) 2, xz, xq (.iload_n 2) 1, xqa (.if_icmp .ge 47) 3 53, xz, xz, xq (.aload_n 0) 1, xqc (.getfield 15) 3 6 1 352, xz, xz, xq (.iload_n 1) 1, xq (.iload 4) 2, xz, xq .iadd 1, xqc (.invokevirtual 154) 3 13 2 942, xz, xz, xq (.istore 5) 2, xz, xq (.iload_n 3) 1, xqa (.ifCond .eq 14) 3 37, xz, xz, xq (.iload 5) 2, xz, xqc (.invokestatic 169) 3 205 1 948, xz, xz, xqa (.ifCond .ne 16) 3 47, xz, xz, xqa (.goto 11) 3 45, xz, xz, xq (.iload 5) 2, xz, xqc (.invokestatic 172) 3 204 1 949, xz, xz, xqa (.ifCond .ne 5) 3 47, xz, xz, xqv (.iconst 0) 1 0, xq .ireturn 1, xqv (.iinc 4 1) 3 1, xz, xz, xqa (.goto (-47)) 3 3, xz, xz, xqv (.iconst 1) 1 1, xq .ireturn 1]
-- TermReaderModel.<init>()V
def xc_130 : List (Option xRow) := [xq (.aload_n 0) 1, xqc (.invokespecial 1) 3 1000 1 1102, xz, xz, xq (.aload_n 0) 1, xqv (.bipush 120) 2 120, xz, xqc (.newarray .int) 2 0 0 246, xz, xqc (.putfield 7) 3 7 2 1116, xz, xz, xq (.aload_n 0) 1, xqv (.bipush 64) 2 64, xz, xqc (.newarray .long) 2 0 0 245, xz, xqc (.putfield 13) 3 7 4 1118, xz, xz, xq (.aload_n 0) 1, xqv (.bipush 64) 2 64, xz, xqc (.newarray .int) 2 0 0 246, xz, xqc (.putfield 17) 3 7 5 1119, xz, xz, xq (.aload_n 0) 1, xqv (.bipush 64) 2 64, xz, xqc (.newarray .int) 2 0 0 246, xz, xqc (.putfield 20) 3 7 6 1120, xz, xz, xq (.aload_n 0) 1, xqv (.bipush 64) 2 64, xz, xqc (.newarray .int) 2 0 0 246, xz, xqc (.putfield 23) 3 7 7 1121, xz, xz, xq (.aload_n 0) 1, xqv (.bipush 64) 2 64, xz, xqc (.newarray .int) 2 0 0 246, xz, xqc (.putfield 26) 3 7 8 1122, xz, xz, xq (.aload_n 0) 1, xqv (.sipush 1500) 3 1500, xz, xz, xqc (.newarray .int) 2 0 0 246, xz, xqc (.putfield 29) 3 7 10 1124, xz, xz, xq (.aload_n 0) 1, xqv (.sipush 1500) 3 1500, xz, xz, xqc (.newarray .int) 2 0 0 246, xz, xqc (.putfield 32) 3 7 11 1125, xz, xz, xq (.aload_n 0) 1, xqv (.sipush 4600) 3 4600, xz, xz, xqc (.newarray .int) 2 0 0 246, xz, xqc (.putfield 35) 3 7 13 1127, xz, xz, xq (.aload_n 0) 1, xqv (.bipush 41) 2 41, xz, xqc (.newarray .int) 2 0 0 246, xz, xqc (.putfield 38) 3 7 15 1129, xz, xz, xq (.aload_n 0) 1, xqv (.sipush 1000) 3 1000, xz, xz, xqc (.newarray .int) 2 0 0 246, xz, xqc (.putfield 41) 3 7 17 1131, xz, xz, xq (.aload_n 0) 1, xqv (.sipush 1000) 3 1000, xz, xz, xqc (.newarray .int) 2 0 0 246, xz, xqc (.putfield 44) 3 7 18 1132, xz, xz, xq (.aload_n 0) 1, xqv (.sipush 1000) 3 1000, xz, xz, xqc (.newarray .int) 2 0 0 246, xz, xqc (.putfield 47) 3 7 19 1133, xz, xz, xq (.aload_n 0) 1, xqv (.sipush 130) 3 130, xz, xz, xqc (.newarray .int) 2 0 0 246, xz, xqc (.putfield 50) 3 7 26 1140, xz, xz, xq (.aload_n 0) 1, xqv (.bipush 32) 2 32, xz, xqc (.newarray .int) 2 0 0 246, xz, xqc (.putfield 53) 3 7 30 1144, xz, xz, xq (.aload_n 0) 1, xqv (.bipush 32) 2 32, xz, xqc (.newarray .int) 2 0 0 246, xz, xqc (.putfield 56) 3 7 31 1145, xz, xz, xq (.aload_n 0) 1, xqv (.bipush 32) 2 32, xz, xqc (.newarray .int) 2 0 0 246, xz, xqc (.putfield 59) 3 7 32 1146, xz, xz, xq (.aload_n 0) 1, xqv (.bipush 32) 2 32, xz, xqc (.newarray .int) 2 0 0 246, xz, xqc (.putfield 62) 3 7 33 1147, xz, xz, xq (.aload_n 0) 1, xqv (.bipush 32) 2 32, xz, xqc (.newarray .int) 2 0 0 246, xz, xqc (.putfield 65) 3 7 34 1148, xz, xz, xq (.aload_n 0) 1, xqv (.sipush 130) 3 130, xz, xz, xqc (.newarray .int) 2 0 0 246, xz, xqc (.putfield 68) 3 7 36 1150, xz, xz, xq (.aload_n 0) 1, xqv (.sipush 900) 3 900, xz, xz, xqc (.newarray .int) 2 0 0 246, xz, xqc (.putfield 71) 3 7 38 1152, xz, xz, xq (.aload_n 0) 1, xqv (.sipush 900) 3 900, xz, xz, xqc (.newarray .int) 2 0 0 246, xz, xqc (.putfield 74) 3 7 39 1153, xz, xz, xq (.aload_n 0) 1, xqv (.sipush 2600) 3 2600, xz, xz, xqc (.newarray .int) 2 0 0 246, xz, xqc (.putfield 77) 3 7 41 1155, xz, xz, xq (.aload_n 0) 1, xqv (.sipush 2600) 3 2600, xz, xz, xqc (.newarray .int) 2 0 0 246, xz, xqc (.putfield 80) 3 7 43 1157, xz, xz, xq (.aload_n 0) 1, xqv (.bipush 58) 2 58, xz, xqv (.bipush 45) 2 45, xz, xqv (.iconst 0) 1 0, xqc (.invokestatic 83) 3 133 3 1103, xz, xz, xqv (.sipush 1200) 3 1200, xz, xz, xqv (.iconst 0) 1 0, xqc (.invokevirtual 87) 3 135 4 1106, xz, xz, xq (.aload_n 0) 1, xqv (.bipush 58) 2 58, xz, xqv (.bipush 45) 2 45, xz, xqv (.iconst 0) 1 0, xqc (.invokestatic 83) 3 133 3 1103, xz, xz, xqv (.sipush 1200) 3 1200, xz, xz, xqv (.iconst 4) 1 4, xqc (.invokevirtual 87) 3 135 4 1106, xz, xz, xq (.aload_n 0) 1, xqv (.bipush 59) 2 59, xz, xqv (.iconst 0) 1 0, xqv (.iconst 0) 1 0, xqc (.invokestatic 83) 3 133 3 1103, xz, xz, xqv (.sipush 1100) 3 1100, xz, xz, xqv (.iconst 1) 1 1, xqc (.invokevirtual 87) 3 135 4 1106, xz, xz, xq (.aload_n 0) 1, xqv (.bipush 45) 2 45, xz, xqv (.bipush 62) 2 62, xz, xqv (.iconst 0) 1 0, xqc (.invokestatic 83) 3 133 3 1103, xz, xz, xqv (.sipush 1050) 3 1050, xz, xz, xqv (.iconst 1) 1 1, xqc (.invokevirtual 87) 3 135 4 1106, xz, xz, xq (.aload_n 0) 1, xqv (.bipush 92) 2 92, xz, xqv (.bipush 43) 2 43, xz, xqv (.iconst 0) 1 0, xqc (.invokestatic 83) 3 133 3 1103, xz, xz, xqv (.sipush 900) 3 900, xz, xz, xqv (.iconst 3) 1 3, xqc (.invokevirtual 87) 3 135 4 1106, xz, xz, xq (.aload_n 0) 1, xqv (.bipush 61) 2 61, xz, xqv (.iconst 0) 1 0, xqv (.iconst 0) 1 0, xqc (.invokestatic 83) 3 133 3 1103, xz, xz, xqv (.sipush 700) 3 700, xz, xz, xqv (.iconst 0) 1 0, xqc (.invokevirtual 87) 3 135 4 1106, xz, xz, xq (.aload_n 0) 1, xqv (.bipush 60) 2 60, xz, xqv (.iconst 0) 1 0, xqv (.iconst 0) 1 0, xqc (.invokestatic 83) 3 133 3 1103, xz, xz, xqv (.sipush 700) 3 700, xz, xz, xqv (.iconst 0) 1 0, xqc (.invokevirtual 87) 3 135 4 1106, xz, xz, xq (.aload_n 0) 1, xqv (.bipush 105) 2 105, xz, xqv (.bipush 115) 2 115, xz, xqv (.iconst 0) 1 0, xqc (.invokestatic 83) 3 133 3 1103, xz, xz, xqv (.sipush 700) 3 700, xz, xz, xqv (.iconst 0) 1 0, xqc (.invokevirtual 87) 3 135 4 1106, xz, xz, xq (.aload_n 0) 1, xqv (.bipush 43) 2 43, xz, xqv (.iconst 0) 1 0, xqv (.iconst 0) 1 0, xqc (.invokestatic 83) 3 133 3 1103, xz, xz, xqv (.sipush 500) 3 500, xz, xz, xqv (.iconst 2) 1 2, xqc (.invokevirtual 87) 3 135 4 1106, xz, xz, xq (.aload_n 0) 1, xqv (.bipush 45) 2 45, xz, xqv (.iconst 0) 1 0, xqv (.iconst 0) 1 0, xqc (.invokestatic 83) 3 133 3 1103, xz, xz, xqv (.sipush 500) 3 500, xz, xz, xqv (.iconst 2) 1 2, xqc (.invokevirtual 87) 3 135 4 1106, xz, xz, xq (.aload_n 0) 1, xqv (.bipush 42) 2 42, xz, xqv (.iconst 0) 1 0, xqv (.iconst 0) 1 0, xqc (.invokestatic 83) 3 133 3 1103, xz, xz, xqv (.sipush 400) 3 400, xz, xz, xqv (.iconst 2) 1 2, xqc (.invokevirtual 87) 3 135 4 1106, xz, xz, xq (.aload_n 0) 1, xqv (.bipush 47) 2 47, xz, xqv (.iconst 0) 1 0, xqv (.iconst 0) 1 0, xqc (.invokestatic 83) 3 133 3 1103, xz, xz, xqv (.sipush 400) 3 400, xz, xz, xqv (.iconst 2) 1 2, xqc (.invokevirtual 87) 3 135 4 1106, xz, xz, xq (.aload_n 0) 1, xqv (.bipush 94) 2 94, xz, xqv (.iconst 0) 1 0, xqv (.iconst 0) 1 0, xqc (.invokestatic 83) 3 133 3 1103, xz, xz, xqv (.sipush 200) 3 200, xz, xz, xqv (.iconst 1) 1 1, xqc (.invokevirtual 87) 3 135 4 1106, xz, xz, xq (.aload_n 0) 1, xqv (.bipush 45) 2 45, xz, xqv (.iconst 0) 1 0, xqv (.iconst 0) 1 0, xqc (.invokestatic 83) 3 133 3 1103, xz, xz, xqv (.sipush 200) 3 200, xz, xz, xqv (.iconst 3) 1 3, xqc (.invokevirtual 87) 3 135 4 1106, xz, xz, xq .return_ 1]
-- TermReaderModel.thrown()I
def xc_131 : List (Option xRow) := [xq (.aload_n 0) 1, xqc (.getfield 91) 3 7 0 1114, xz, xz, xq .ireturn 1]
-- TermReaderModel.refuse(I)I
def xc_132 : List (Option xRow) := [xq (.aload_n 0) 1, xq (.iload_n 1) 1, xqc (.putfield 91) 3 7 0 1114, xz, xz, xqv (.iconst 0) 1 0, xq .ireturn 1]
-- TermReaderModel.pack(III)J
def xc_133 : List (Option xRow) := [xq (.iload_n 0) 1, xq .i2l 1, xq (.iload_n 1) 1, xq .i2l 1, xqv (.bipush 8) 2 8, xz, xq .lshl 1, xq .lor 1, xq (.iload_n 2) 1, xq .i2l 1, xqv (.bipush 16) 2 16, xz, xq .lshl 1, xq .lor 1, xq .lreturn 1]
-- TermReaderModel.opAt(J)I
def xc_134 : List (Option xRow) := [xqv (.iconst 0) 1 0, xq (.istore_n 3) 1, xq (.iload_n 3) 1, xq (.aload_n 0) 1, xqc (.getfield 95) 3 7 3 1117, xz, xz, xqa (.if_icmp .ge 22) 3 29, xz, xz, xq (.aload_n 0) 1, xqc (.getfield 13) 3 7 4 1118, xz, xz, xq (.iload_n 3) 1, xq .laload 1, xq (.lload_n 1) 1, xq .lcmp 1, xqa (.ifCond .ne 5) 3 23, xz, xz, xq (.iload_n 3) 1, xq .ireturn 1, xqv (.iinc 3 1) 3 1, xz, xz, xqa (.goto (-24)) 3 2, xz, xz, xqv (.iconst (-1)) 1 (-1), xq .ireturn 1]
-- TermReaderModel.tell(JII)V
def xc_135 : List (Option xRow) := [xq (.aload_n 0) 1, xq (.lload_n 1) 1, xqc (.invokevirtual 98) 3 134 2 1110, xz, xz, xq (.istore 5) 2, xz, xq (.iload 5) 2, xz, xqa (.ifCond .ge 43) 3 52, xz, xz, xq (.aload_n 0) 1, xqc (.getfield 95) 3 7 3 1117, xz, xz, xq (.istore 5) 2, xz, xq (.aload_n 0) 1, xq .dup 1, xqc (.getfield 95) 3 7 3 1117, xz, xz, xqv (.iconst 1) 1 1, xq .iadd 1, xqc (.putfield 95) 3 7 3 1117, xz, xz, xq (.aload_n 0) 1, xqc (.getfield 13) 3 7 4 1118, xz, xz, xq (.iload 5) 2, xz, xq (.lload_n 1) 1, xq .lastore 1, xq (.aload_n 0) 1, xqc (.getfield 17) 3 7 5 1119, xz, xz, xq (.iload 5) 2, xz, xqv (.iconst 0) 1 0, xq .iastore 1, xq (.aload_n 0) 1, xqc (.getfield 23) 3 7 7 1121, xz, xz, xq (.iload 5) 2, xz, xqv (.iconst 0) 1 0, xq .iastore 1, xq (.iload 4) 2, xz, xqv (.iconst 3) 1 3, xqa (.if_icmp .eq 9) 3 64, xz, xz, xq (.iload 4) 2, xz, xqv (.iconst 4) 1 4, xqa (.if_icmp .ne 23) 3 84, xz, xz, xq (.aload_n 0) 1, xqc (.getfield 17) 3 7 5 1119, xz, xz, xq (.iload 5) 2, xz, xq (.iload_n 3) 1, xq .iastore 1, xq (.aload_n 0) 1, xqc (.getfield 20) 3 7 6 1120, xz, xz, xq (.iload 5) 2, xz, xq (.iload 4) 2, xz, xq .iastore 1, xqa (.goto 20) 3 101, xz, xz, xq (.aload_n 0) 1, xqc (.getfield 23) 3 7 7 1121, xz, xz, xq (.iload 5) 2, xz, xq (.iload_n 3) 1, xq .iastore 1, xq (.aload_n 0) 1, xqc (.getfield 26) 3 7 8 1122, xz, xz, xq (.iload 5) 2, xz, xq (.iload 4) 2, xz, xq .iastore 1, xq (.aload_n 0) 1, xqc (.getfield 17) 3 7 5 1119, xz, xz, xq (.iload 5) 2, xz, xq .iaload 1, xqa (.ifCond .gt 13) 3 121, xz, xz, xq (.aload_n 0) 1, xqc (.getfield 23) 3 7 7 1121, xz, xz, xq (.iload 5) 2, xz, xq .iaload 1, xqa (.ifCond .le 4) 3 122, xz, xz, xq .return_ 1, xq (.aload_n 0) 1, xq .dup 1, xqc (.getfield 95) 3 7 3 1117, xz, xz, xqv (.iconst 1) 1 1, xq .isub 1, xqc (.putfield 95) 3 7 3 1117, xz, xz, xq (.aload_n 0) 1, xqc (.getfield 13) 3 7 4 1118, xz, xz, xq (.iload 5) 2, xz, xq (.aload_n 0) 1, xqc (.getfield 13) 3 7 4 1118, xz, xz, xq (.aload_n 0) 1, xqc (.getfield 95) 3 7 3 1117, xz, xz, xq .laload 1, xq .lastore 1, xq (.aload_n 0) 1, xqc (.getfield 17) 3 7 5 1119, xz, xz, xq (.iload 5) 2, xz, xq (.aload_n 0) 1, xqc (.getfield 17) 3 7 5 1119, xz, xz, xq (.aload_n 0) 1, xqc (.getfield 95) 3 7 3 1117, xz, xz, xq .iaload 1, xq .iastore 1, xq (.aload_n 0) 1, xqc (.getfield 20) 3 7 6 1120, xz, xz, xq (.iload 5) 2, xz, xq (.aload_n 0) 1, xqc (.getfield 20) 3 7 6 1120, xz, xz, xq (.aload_n 0) 1, xqc (.getfield 95) 3 7 3 1117, xz, xz, xq .iaload 1, xq .iastore 1, xq (.aload_n 0) 1, xqc (.getfield 23) 3 7 7 1121, xz, xz, xq (.iload 5) 2, xz, xq (.aload_n 0) 1, xqc (.getfield 23) 3 7 7 1121, xz, xz, xq (.aload_n 0) 1, xqc (.getfield 95) 3 7 3 1117, xz, xz, xq .iaload 1, xq .iastore 1, xq (.aload_n 0) 1, xqc (.getfield 26) 3 7 8 1122, xz, xz, xq (.iload 5) 2, xz, xq (.aload_n 0) 1, xqc (.getfield 26) 3 7 8 1122, xz, xz, xq (.aload_n 0) 1, xqc (.getfield 95) 3 7 3 1117, xz, xz, xq .iaload 1, xq .iastore 1, xq .return_ 1]
-- TermReaderModel.operators()I
def xc_136 : List (Option xRow) := [xqv (.iconst 0) 1 0, xq (.istore_n 1) 1, xqv (.iconst 0) 1 0, xq (.istore_n 2) 1, xq (.iload_n 2) 1, xq (.aload_n 0) 1, xqc (.getfield 95) 3 7 3 1117, xz, xz, xqa (.if_icmp .ge 41) 3 50, xz, xz, xq (.iload_n 1) 1, xq (.aload_n 0) 1, xqc (.getfield 17) 3 7 5 1119, xz, xz, xq (.iload_n 2) 1, xq .iaload 1, xqa (.ifCond .le 7) 3 26, xz, xz, xqv (.iconst 1) 1 1, xqa (.goto 4) 3 27, xz, xz, xqv (.iconst 0) 1 0, xq (.aload_n 0) 1, xqc (.getfield 23) 3 7 7 1121, xz, xz, xq (.iload_n 2) 1, xq .iaload 1, xqa (.ifCond .le 7) 3 40, xz, xz, xqv (.iconst 1) 1 1, xqa (.goto 4) 3 41, xz, xz, xqv (.iconst 0) 1 0, xq .iadd 1, xq .iadd 1, xq (.istore_n 1) 1, xqv (.iinc 2 1) 3 1, xz, xz, xqa (.goto (-43)) 3 4, xz, xz, xq (.iload_n 1) 1, xq .ireturn 1]
-- TermReaderModel.prefixOf(J)I
def xc_137 : List (Option xRow) := [xq (.aload_n 0) 1, xq (.lload_n 1) 1, xqc (.invokevirtual 98) 3 134 2 1110, xz, xz, xq (.istore_n 3) 1, xq (.iload_n 3) 1, xqa (.ifCond .ge 7) 3 14, xz, xz, xqv (.iconst 0) 1 0, xqa (.goto 9) 3 20, xz, xz, xq (.aload_n 0) 1, xqc (.getfield 17) 3 7 5 1119, xz, xz, xq (.iload_n 3) 1, xq .iaload 1, xq .ireturn 1]
-- TermReaderModel.isInfixType(I)Z
def xc_138 : List (Option xRow) := [xq (.iload_n 0) 1, xqv (.iconst 3) 1 3, xqa (.if_icmp .ge 7) 3 9, xz, xz, xqv (.iconst 1) 1 1, xqa (.goto 4) 3 10, xz, xz, xqv (.iconst 0) 1 0, xq .ireturn 1]
-- TermReaderModel.infixOf(J)I
def xc_139 : List (Option xRow) := [xq (.lload_n 1) 1, xqk (.ldc2_w 102) 3 0 0 1379 44, xz, xz, xq .lcmp 1, xqa (.ifCond .ne 7) 3 12, xz, xz, xqv (.sipush 1000) 3 1000, xz, xz, xq .ireturn 1, xq (.aload_n 0) 1, xq (.lload_n 1) 1, xqc (.invokevirtual 98) 3 134 2 1110, xz, xz, xq (.istore_n 3) 1, xq (.iload_n 3) 1, xqa (.ifCond .lt 15) 3 34, xz, xz, xq (.aload_n 0) 1, xqc (.getfield 26) 3 7 8 1122, xz, xz, xq (.iload_n 3) 1, xq .iaload 1, xqc (.invokestatic 104) 3 138 1 1271, xz, xz, xqa (.ifCond .ne 7) 3 38, xz, xz, xqv (.iconst 0) 1 0, xqa (.goto 9) 3 44, xz, xz, xq (.aload_n 0) 1, xqc (.getfield 23) 3 7 7 1121, xz, xz, xq (.iload_n 3) 1, xq .iaload 1, xq .ireturn 1]
-- TermReaderModel.postfixOf(J)I
def xc_140 : List (Option xRow) := [xq (.aload_n 0) 1, xq (.lload_n 1) 1, xqc (.invokevirtual 98) 3 134 2 1110, xz, xz, xq (.istore_n 3) 1, xq (.iload_n 3) 1, xqa (.ifCond .lt 15) 3 22, xz, xz, xq (.aload_n 0) 1, xqc (.getfield 26) 3 7 8 1122, xz, xz, xq (.iload_n 3) 1, xq .iaload 1, xqc (.invokestatic 104) 3 138 1 1271, xz, xz, xqa (.ifCond .eq 7) 3 26, xz, xz, xqv (.iconst 0) 1 0, xqa (.goto 9) 3 32, xz, xz, xq (.aload_n 0) 1, xqc (.getfield 23) 3 7 7 1121, xz, xz, xq (.iload_n 3) 1, xq .iaload 1, xq .ireturn 1]
-- TermReaderModel.leftOf(J)I
def xc_141 : List (Option xRow) := [xq (.lload_n 1) 1, xqk (.ldc2_w 102) 3 0 0 1379 44, xz, xz, xq .lcmp 1, xqa (.ifCond .ne 7) 3 12, xz, xz, xqv (.sipush 999) 3 999, xz, xz, xq .ireturn 1, xq (.aload_n 0) 1, xq (.lload_n 1) 1, xqc (.invokevirtual 98) 3 134 2 1110, xz, xz, xq (.istore_n 3) 1, xq (.aload_n 0) 1, xqc (.getfield 26) 3 7 8 1122, xz, xz, xq (.iload_n 3) 1, xq .iaload 1, xqv (.iconst 2) 1 2, xqa (.if_icmp .eq 14) 3 39, xz, xz, xq (.aload_n 0) 1, xqc (.getfield 26) 3 7 8 1122, xz, xz, xq (.iload_n 3) 1, xq .iaload 1, xqv (.bipush 6) 2 6, xz, xqa (.if_icmp .ne 12) 3 48, xz, xz, xq (.aload_n 0) 1, xqc (.getfield 23) 3 7 7 1121, xz, xz, xq (.iload_n 3) 1, xq .iaload 1, xqa (.goto 11) 3 56, xz, xz, xq (.aload_n 0) 1, xqc (.getfield 23) 3 7 7 1121, xz, xz, xq (.iload_n 3) 1, xq .iaload 1, xqv (.iconst 1) 1 1, xq .isub 1, xq .ireturn 1]
-- TermReaderModel.rightOf(J)I
def xc_142 : List (Option xRow) := [xq (.lload_n 1) 1, xqk (.ldc2_w 102) 3 0 0 1379 44, xz, xz, xq .lcmp 1, xqa (.ifCond .ne 7) 3 12, xz, xz, xqv (.sipush 1000) 3 1000, xz, xz, xq .ireturn 1, xq (.aload_n 0) 1, xq (.lload_n 1) 1, xqc (.invokevirtual 98) 3 134 2 1110, xz, xz, xq (.istore_n 3) 1, xq (.aload_n 0) 1, xqc (.getfield 26) 3 7 8 1122, xz, xz, xq (.iload_n 3) 1, xq .iaload 1, xqv (.iconst 1) 1 1, xqa (.if_icmp .ne 12) 3 37, xz, xz, xq (.aload_n 0) 1, xqc (.getfield 23) 3 7 7 1121, xz, xz, xq (.iload_n 3) 1, xq .iaload 1, xqa (.goto 11) 3 45, xz, xz, xq (.aload_n 0) 1, xqc (.getfield 23) 3 7 7 1121, xz, xz, xq (.iload_n 3) 1, xq .iaload 1, xqv (.iconst 1) 1 1, xq .isub 1, xq .ireturn 1]
-- TermReaderModel.leftUpTo(J)I
def xc_143 : List (Option xRow) := [xq (.aload_n 0) 1, xq (.lload_n 1) 1, xqc (.invokevirtual 108) 3 139 2 1375, xz, xz, xq (.aload_n 0) 1, xq (.lload_n 1) 1, xqc (.invokevirtual 111) 3 140 2 1380, xz, xz, xq .iadd 1, xqa (.ifCond .le 11) 3 22, xz, xz, xq (.aload_n 0) 1, xq (.lload_n 1) 1, xqc (.invokevirtual 114) 3 141 2 1396, xz, xz, xqa (.goto 4) 3 23, xz, xz, xqv (.iconst 0) 1 0, xq .ireturn 1]
-- TermReaderModel.operandOf(J)I
def xc_144 : List (Option xRow) := [xq (.aload_n 0) 1, xq (.lload_n 1) 1, xqc (.invokevirtual 98) 3 134 2 1110, xz, xz, xq (.istore_n 3) 1, xq (.aload_n 0) 1, xqc (.getfield 20) 3 7 6 1120, xz, xz, xq (.iload_n 3) 1, xq .iaload 1, xqv (.iconst 3) 1 3, xqa (.if_icmp .ne 12) 3 25, xz, xz, xq (.aload_n 0) 1, xqc (.getfield 17) 3 7 5 1119, xz, xz, xq (.iload_n 3) 1, xq .iaload 1, xqa (.goto 11) 3 33, xz, xz, xq (.aload_n 0) 1, xqc (.getfield 17) 3 7 5 1119, xz, xz, xq (.iload_n 3) 1, xq .iaload 1, xqv (.iconst 1) 1 1, xq .isub 1, xq .ireturn 1]
-- TermReaderModel.isSign(I)Z
def xc_145 : List (Option xRow) := [xq (.iload_n 0) 1, xqv (.bipush 43) 2 43, xz, xqa (.if_icmp .eq 99) 3 102, xz, xz, xq (.iload_n 0) 1, xqv (.bipush 45) 2 45, xz, xqa (.if_icmp .eq 93) 3 102, xz, xz, xq (.iload_n 0) 1, xqv (.bipush 42) 2 42, xz, xqa (.if_icmp .eq 87) 3 102, xz, xz, xq (.iload_n 0) 1, xqv (.bipush 47) 2 47, xz, xqa (.if_icmp .eq 81) 3 102, xz, xz, xq (.iload_n 0) 1, xqv (.bipush 92) 2 92, xz, xqa (.if_icmp .eq 75) 3 102, xz, xz, xq (.iload_n 0) 1, xqv (.bipush 94) 2 94, xz, xqa (.if_icmp .eq 69) 3 102, xz, xz, xq (.iload_n 0) 1, xqv (.bipush 60) 2 60, xz, xqa (.if_icmp .eq 63) 3 102, xz, xz, xq (.iload_n 0) 1, xqv (.bipush 62) 2 62, xz, xqa (.if_icmp .eq 57) 3 102, xz, xz, xq (.iload_n 0) 1, xqv (.bipush 61) 2 61, xz, xqa (.if_icmp .eq 51) 3 102, xz, xz, xq (.iload_n 0) 1, xqv (.bipush 126) 2 126, xz, xqa (.if_icmp .eq 45) 3 102, xz, xz, xq (.iload_n 0) 1, xqv (.bipush 58) 2 58, xz, xqa (.if_icmp .eq 39) 3 102, xz, xz, xq (.iload_n 0) 1, xqv (.bipush 46) 2 46, xz, xqa (.if_icmp .eq 33) 3 102, xz, xz, xq (.iload_n 0) 1, xqv (.bipush 63) 2 63, xz, xqa (.if_icmp .eq 27) 3 102, xz, xz, xq (.iload_n 0) 1, xqv (.bipush 64) 2 64, xz, xqa (.if_icmp .eq 21) 3 102, xz, xz, xq (.iload_n 0) 1, xqv (.bipush 35) 2 35, xz, xqa (.if_icmp .eq 15) 3 102, xz, xz, xq (.iload_n 0) 1, xqv (.bipush 38) 2 38, xz, xqa (.if_icmp .eq 9) 3 102, xz, xz, xq (.iload_n 0) 1, xqv (.bipush 36) 2 36, xz, xqa (.if_icmp .ne 7) 3 106, xz, xz, xqv (.iconst 1) 1 1, xqa (.goto 4) 3 107, xz, xz, xqv (.iconst 0) 1 0, xq .ireturn 1]
-- TermReaderModel.isSmall(I)Z
def xc_146 : List (Option xRow) := [xq (.iload_n 0) 1, xqv (.bipush 97) 2 97, xz, xqa (.if_icmp .lt 13) 3 16, xz, xz, xq (.iload_n 0) 1, xqv (.bipush 122) 2 122, xz, xqa (.if_icmp .gt 7) 3 16, xz, xz, xqv (.iconst 1) 1 1, xqa (.goto 4) 3 17, xz, xz, xqv (.iconst 0) 1 0, xq .ireturn 1]
-- TermReaderModel.isGreat(I)Z
def xc_147 : List (Option xRow) := [xq (.iload_n 0) 1, xqv (.bipush 65) 2 65, xz, xqa (.if_icmp .lt 9) 3 12, xz, xz, xq (.iload_n 0) 1, xqv (.bipush 90) 2 90, xz, xqa (.if_icmp .le 9) 3 18, xz, xz, xq (.iload_n 0) 1, xqv (.bipush 95) 2 95, xz, xqa (.if_icmp .ne 7) 3 22, xz, xz, xqv (.iconst 1) 1 1, xqa (.goto 4) 3 23, xz, xz, xqv (.iconst 0) 1 0, xq .ireturn 1]
-- TermReaderModel.isDigit(I)Z
def xc_148 : List (Option xRow) := [xq (.iload_n 0) 1, xqv (.bipush 48) 2 48, xz, xqa (.if_icmp .lt 13) 3 16, xz, xz, xq (.iload_n 0) 1, xqv (.bipush 57) 2 57, xz, xqa (.if_icmp .gt 7) 3 16, xz, xz, xqv (.iconst 1) 1 1, xqa (.goto 4) 3 17, xz, xz, xqv (.iconst 0) 1 0, xq .ireturn 1]
-- TermReaderModel.characters(J)I
def xc_149 : List (Option xRow) := [xqv (.iconst 0) 1 0, xq (.istore_n 2) 1, xq (.iload_n 2) 1, xqv (.bipush 8) 2 8, xz, xqa (.if_icmp .ge 24) 3 29, xz, xz, xq (.lload_n 0) 1, xqv (.bipush 8) 2 8, xz, xq (.iload_n 2) 1, xq .imul 1, xq .lushr 1, xqk (.ldc2_w 117) 3 0 0 1258 255, xz, xz, xq .land 1, xq (.lconst 0) 1, xq .lcmp 1, xqa (.ifCond .eq 9) 3 29, xz, xz, xqv (.iinc 2 1) 3 1, xz, xz, xqa (.goto (-24)) 3 2, xz, xz, xq (.iload_n 2) 1, xq .ireturn 1]
-- TermReaderModel.canBe(JI)Z
def xc_150 : List (Option xRow) := [xq (.iload_n 2) 1, xqa (.ifCond .le 7) 3 8, xz, xz, xqv (.iconst 1) 1 1, xqa (.goto 4) 3 9, xz, xz, xqv (.iconst 0) 1 0, xq (.istore_n 3) 1, xq (.iload_n 2) 1, xqa (.ifCond .le 7) 3 18, xz, xz, xqv (.iconst 1) 1 1, xqa (.goto 4) 3 19, xz, xz, xqv (.iconst 0) 1 0, xq (.istore 4) 2, xz, xqv (.iconst 0) 1 0, xq (.istore 5) 2, xz, xq (.iload 5) 2, xz, xq (.iload_n 2) 1, xqa (.if_icmp .ge 61) 3 88, xz, xz, xq (.lload_n 0) 1, xqv (.bipush 8) 2 8, xz, xq (.iload 5) 2, xz, xq .imul 1, xq .lushr 1, xqk (.ldc2_w 117) 3 0 0 1258 255, xz, xz, xq .land 1, xq .l2i 1, xq (.istore 6) 2, xz, xq (.iload_n 3) 1, xqa (.ifCond .eq 15) 3 60, xz, xz, xq (.iload 6) 2, xz, xqc (.invokestatic 119) 3 146 1 1262, xz, xz, xqa (.ifCond .eq 7) 3 60, xz, xz, xqv (.iconst 1) 1 1, xqa (.goto 4) 3 61, xz, xz, xqv (.iconst 0) 1 0, xq (.istore_n 3) 1, xq (.iload 4) 2, xz, xqa (.ifCond .eq 15) 3 79, xz, xz, xq (.iload 6) 2, xz, xqc (.invokestatic 122) 3 145 1 1265, xz, xz, xqa (.ifCond .eq 7) 3 79, xz, xz, xqv (.iconst 1) 1 1, xqa (.goto 4) 3 80, xz, xz, xqv (.iconst 0) 1 0, xq (.istore 4) 2, xz, xqv (.iinc 5 1) 3 1, xz, xz, xqa (.goto (-61)) 3 24, xz, xz, xq (.iload_n 2) 1, xqv (.iconst 1) 1 1, xqa (.if_icmp .ne 15) 3 105, xz, xz, xq (.lload_n 0) 1, xqk (.ldc2_w 117) 3 0 0 1258 255, xz, xz, xq .land 1, xqk (.ldc2_w 125) 3 0 0 1268 46, xz, xz, xq .lcmp 1, xqa (.ifCond .eq 35) 3 137, xz, xz, xq (.iload_n 2) 1, xqv (.iconst 1) 1 1, xqa (.if_icmp .le 34) 3 141, xz, xz, xq (.lload_n 0) 1, xqk (.ldc2_w 117) 3 0 0 1258 255, xz, xz, xq .land 1, xqk (.ldc2_w 127) 3 0 0 1269 47, xz, xz, xq .lcmp 1, xqa (.ifCond .ne 22) 3 141, xz, xz, xq (.lload_n 0) 1, xqv (.bipush 8) 2 8, xz, xq .lushr 1, xqk (.ldc2_w 117) 3 0 0 1258 255, xz, xz, xq .land 1, xqk (.ldc2_w 129) 3 0 0 1270 42, xz, xz, xq .lcmp 1, xqa (.ifCond .ne 7) 3 141, xz, xz, xqv (.iconst 1) 1 1, xqa (.goto 4) 3 142, xz, xz, xqv (.iconst 0) 1 0, xq (.istore 5) 2, xz, xq (.iload_n 3) 1, xqa (.ifCond .ne 13) 3 158, xz, xz, xq (.iload 4) 2, xz, xqa (.ifCond .eq 12) 3 162, xz, xz, xq (.iload 5) 2, xz, xqa (.ifCond .ne 7) 3 162, xz, xz, xqv (.iconst 1) 1 1, xqa (.goto 4) 3 163, xz, xz, xqv (.iconst 0) 1 0, xq .ireturn 1]
-- TermReaderModel.op(IIJ)V
def xc_151 : List (Option xRow) := [xq (.lload_n 3) 1, xqc (.invokestatic 131) 3 149 1 1255, xz, xz, xq (.istore 5) 2, xz, xq (.aload_n 0) 1, xq (.iload_n 1) 1, xqa (.ifCond .lt 29) 3 37, xz, xz, xq (.iload_n 1) 1, xqv (.sipush 1200) 3 1200, xz, xz, xqa (.if_icmp .gt 22) 3 37, xz, xz, xq (.iload_n 2) 1, xqa (.ifCond .lt 18) 3 37, xz, xz, xq (.iload_n 2) 1, xqv (.bipush 6) 2 6, xz, xqa (.if_icmp .gt 12) 3 37, xz, xz, xq (.lload_n 3) 1, xq (.iload 5) 2, xz, xqc (.invokestatic 134) 3 150 2 1259, xz, xz, xqa (.ifCond .ne 7) 3 41, xz, xz, xqv (.iconst 1) 1 1, xqa (.goto 4) 3 42, xz, xz, xqv (.iconst 0) 1 0, xqc (.putfield 91) 3 7 0 1114, xz, xz, xq (.aload_n 0) 1, xqc (.getfield 91) 3 7 0 1114, xz, xz, xqa (.ifCond .le 4) 3 53, xz, xz, xq .return_ 1, xq (.iload 5) 2, xz, xqv (.bipush 8) 2 8, xz, xqa (.if_icmp .ne 7) 3 64, xz, xz, xq (.lload_n 3) 1, xqa (.goto 14) 3 75, xz, xz, xq (.lload_n 3) 1, xq (.lconst 1) 1, xqv (.bipush 8) 2 8, xz, xq (.iload 5) 2, xz, xq .imul 1, xq .lshl 1, xq (.lconst 1) 1, xq .lsub 1, xq .land 1, xq (.lstore 6) 2, xz, xq (.iload_n 2) 1, xqv (.iconst 3) 1 3, xqa (.if_icmp .eq 8) 3 87, xz, xz, xq (.iload_n 2) 1, xqv (.iconst 4) 1 4, xqa (.if_icmp .ne 7) 3 91, xz, xz, xqv (.iconst 1) 1 1, xqa (.goto 4) 3 92, xz, xz, xqv (.iconst 0) 1 0, xq (.istore 8) 2, xz, xq (.aload_n 0) 1, xq (.lload 6) 2, xz, xqc (.invokevirtual 98) 3 134 2 1110, xz, xz, xq (.istore 9) 2, xz, xq (.iload 9) 2, xz, xqa (.ifCond .lt 35) 3 139, xz, xz, xq (.iload 8) 2, xz, xqa (.ifCond .eq 16) 3 125, xz, xz, xq (.aload_n 0) 1, xqc (.getfield 17) 3 7 5 1119, xz, xz, xq (.iload 9) 2, xz, xq .iaload 1, xqa (.ifCond .le 20) 3 139, xz, xz, xqa (.goto 13) 3 135, xz, xz, xq (.aload_n 0) 1, xqc (.getfield 23) 3 7 7 1121, xz, xz, xq (.iload 9) 2, xz, xq .iaload 1, xqa (.ifCond .le 7) 3 139, xz, xz, xqv (.iconst 1) 1 1, xqa (.goto 4) 3 140, xz, xz, xqv (.iconst 0) 1 0, xq (.istore 10) 2, xz, xq (.iload_n 1) 1, xqa (.ifCond .le 34) 3 177, xz, xz, xq (.iload 8) 2, xz, xqa (.ifCond .ne 29) 3 177, xz, xz, xq (.iload 10) 2, xz, xqa (.ifCond .eq 24) 3 177, xz, xz, xq (.aload_n 0) 1, xqc (.getfield 26) 3 7 8 1122, xz, xz, xq (.iload 9) 2, xz, xq .iaload 1, xqc (.invokestatic 104) 3 138 1 1271, xz, xz, xq (.iload_n 2) 1, xqc (.invokestatic 104) 3 138 1 1271, xz, xz, xqa (.if_icmp .eq 7) 3 177, xz, xz, xqv (.iconst 1) 1 1, xqa (.goto 4) 3 178, xz, xz, xqv (.iconst 0) 1 0, xq (.istore 11) 2, xz, xq (.iload 11) 2, xz, xqa (.ifCond .ne 21) 3 203, xz, xz, xq (.iload_n 1) 1, xqa (.ifCond .le 23) 3 209, xz, xz, xq (.iload 10) 2, xz, xqa (.ifCond .ne 18) 3 209, xz, xz, xq (.aload_n 0) 1, xqc (.invokevirtual 138) 3 136 1 1274, xz, xz, xqv (.bipush 24) 2 24, xz, xqa (.if_icmp .ne 9) 3 209, xz, xz, xq (.aload_n 0) 1, xqv (.iconst 2) 1 2, xqc (.putfield 91) 3 7 0 1114, xz, xz, xq .return_ 1, xq (.iload_n 1) 1, xqa (.ifCond .gt 8) 3 218, xz, xz, xq (.iload 9) 2, xz, xqa (.ifCond .lt 11) 3 226, xz, xz, xq (.aload_n 0) 1, xq (.lload 6) 2, xz, xq (.iload_n 1) 1, xq (.iload_n 2) 1, xqc (.invokevirtual 87) 3 135 4 1106, xz, xz, xq .return_ 1]
-- TermReaderModel.text(J)Z
def xc_152 : List (Option xRow) := [xq (.aload_n 0) 1, xqv (.iconst 0) 1 0, xqc (.putfield 91) 3 7 0 1114, xz, xz, xq (.lload_n 1) 1, xqc (.invokestatic 131) 3 149 1 1255, xz, xz, xq (.istore_n 3) 1, xq (.iload_n 3) 1, xqa (.ifCond .le 18) 3 29, xz, xz, xq (.aload_n 0) 1, xqc (.getfield 142) 3 7 1 1115, xz, xz, xq (.iload_n 3) 1, xq .iadd 1, xqv (.bipush 120) 2 120, xz, xqa (.if_icmp .gt 7) 3 29, xz, xz, xqv (.iconst 1) 1 1, xqa (.goto 4) 3 30, xz, xz, xqv (.iconst 0) 1 0, xq (.istore 4) 2, xz, xqv (.iconst 0) 1 0, xq (.istore 5) 2, xz, xq (.iload 5) 2, xz, xq (.iload_n 3) 1, xqa (.if_icmp .ge 57) 3 95, xz, xz, xq (.iload 4) 2, xz, xqa (.ifCond .eq 43) 3 86, xz, xz, xq (.lload_n 1) 1, xqv (.bipush 8) 2 8, xz, xq (.iload 5) 2, xz, xq .imul 1, xq .lushr 1, xqk (.ldc2_w 117) 3 0 0 1258 255, xz, xz, xq .land 1, xqk (.ldc2_w 145) 3 0 0 1282 32, xz, xz, xq .lcmp 1, xqa (.ifCond .lt 25) 3 86, xz, xz, xq (.lload_n 1) 1, xqv (.bipush 8) 2 8, xz, xq (.iload 5) 2, xz, xq .imul 1, xq .lushr 1, xqk (.ldc2_w 117) 3 0 0 1258 255, xz, xz, xq .land 1, xqk (.ldc2_w 147) 3 0 0 1283 126, xz, xz, xq .lcmp 1, xqa (.ifCond .gt 7) 3 86, xz, xz, xqv (.iconst 1) 1 1, xqa (.goto 4) 3 87, xz, xz, xqv (.iconst 0) 1 0, xq (.istore 4) 2, xz, xqv (.iinc 5 1) 3 1, xz, xz, xqa (.goto (-57)) 3 35, xz, xz, xq (.iload 4) 2, xz, xqa (.ifCond .ne 5) 3 102, xz, xz, xqv (.iconst 0) 1 0, xq .ireturn 1, xqv (.iconst 0) 1 0, xq (.istore 5) 2, xz, xq (.iload 5) 2, xz, xq (.iload_n 3) 1, xqa (.if_icmp .ge 33) 3 141, xz, xz, xq (.aload_n 0) 1, xqc (.getfield 7) 3 7 2 1116, xz, xz, xq (.aload_n 0) 1, xqc (.getfield 142) 3 7 1 1115, xz, xz, xq (.iload 5) 2, xz, xq .iadd 1, xq (.lload_n 1) 1, xqv (.bipush 8) 2 8, xz, xq (.iload 5) 2, xz, xq .imul 1, xq .lushr 1, xqk (.ldc2_w 117) 3 0 0 1258 255, xz, xz, xq .land 1, xq .l2i 1, xq .iastore 1, xqv (.iinc 5 1) 3 1, xz, xz, xqa (.goto (-33)) 3 105, xz, xz, xq (.aload_n 0) 1, xq .dup 1, xqc (.getfield 142) 3 7 1 1115, xz, xz, xq (.iload_n 3) 1, xq .iadd 1, xqc (.putfield 142) 3 7 1 1115, xz, xz, xqv (.iconst 1) 1 1, xq .ireturn 1]
-- TermReaderModel.charAt(I)I
def xc_153 : List (Option xRow) := [xq (.iload_n 1) 1, xq (.aload_n 0) 1, xqc (.getfield 142) 3 7 1 1115, xz, xz, xqa (.if_icmp .ge 12) 3 17, xz, xz, xq (.aload_n 0) 1, xqc (.getfield 7) 3 7 2 1116, xz, xz, xq (.iload_n 1) 1, xq .iaload 1, xqa (.goto 4) 3 18, xz, xz, xqv (.iconst 0) 1 0, xq .ireturn 1]
-- TermReaderModel.behindLayout(I)I
def xc_154 : List (Option xRow) := [xq (.iload_n 1) 1, xq (.istore_n 2) 1, xqv (.iconst 1) 1 1, xq (.istore_n 3) 1, xq (.iload_n 3) 1, xqa (.ifCond .eq 132) 3 137, xz, xz, xqv (.iconst 0) 1 0, xq (.istore_n 3) 1, xq (.aload_n 0) 1, xq (.iload_n 2) 1, xqc (.invokevirtual 149) 3 153 2 1304, xz, xz, xqv (.bipush 32) 2 32, xz, xqa (.if_icmp .ne 9) 3 26, xz, xz, xqv (.iinc 2 1) 3 1, xz, xz, xqa (.goto (-13)) 3 10, xz, xz, xq (.aload_n 0) 1, xq (.iload_n 2) 1, xqc (.invokevirtual 149) 3 153 2 1304, xz, xz, xqv (.bipush 37) 2 37, xz, xqa (.if_icmp .ne 8) 3 41, xz, xz, xq (.aload_n 0) 1, xqc (.getfield 142) 3 7 1 1115, xz, xz, xq (.istore_n 2) 1, xq (.aload_n 0) 1, xq (.iload_n 2) 1, xqc (.invokevirtual 149) 3 153 2 1304, xz, xz, xqv (.bipush 47) 2 47, xz, xqa (.if_icmp .ne (-44)) 3 4, xz, xz, xq (.aload_n 0) 1, xq (.iload_n 2) 1, xqv (.iconst 1) 1 1, xq .iadd 1, xqc (.invokevirtual 149) 3 153 2 1304, xz, xz, xqv (.bipush 42) 2 42, xz, xqa (.if_icmp .ne (-56)) 3 4, xz, xz, xqv (.iinc 2 2) 3 2, xz, xz, xq (.iload_n 2) 1, xq (.aload_n 0) 1, xqc (.getfield 142) 3 7 1 1115, xz, xz, xqa (.if_icmp .ge 31) 3 102, xz, xz, xq (.aload_n 0) 1, xq (.iload_n 2) 1, xqc (.invokevirtual 149) 3 153 2 1304, xz, xz, xqv (.bipush 42) 2 42, xz, xqa (.if_icmp .ne 15) 3 96, xz, xz, xq (.aload_n 0) 1, xq (.iload_n 2) 1, xqv (.iconst 1) 1 1, xq .iadd 1, xqc (.invokevirtual 149) 3 153 2 1304, xz, xz, xqv (.bipush 47) 2 47, xz, xqa (.if_icmp .eq 9) 3 102, xz, xz, xqv (.iinc 2 1) 3 1, xz, xz, xqa (.goto (-33)) 3 66, xz, xz, xq (.iload_n 2) 1, xq (.aload_n 0) 1, xqc (.getfield 142) 3 7 1 1115, xz, xz, xqa (.if_icmp .ge 9) 3 116, xz, xz, xq (.iload_n 2) 1, xqv (.iconst 2) 1 2, xq .iadd 1, xqa (.goto 6) 3 119, xz, xz, xqv (.sipush 200) 3 200, xz, xz, xq (.istore_n 2) 1, xq (.iload_n 2) 1, xq (.aload_n 0) 1, xqc (.getfield 142) 3 7 1 1115, xz, xz, xqa (.if_icmp .gt 7) 3 132, xz, xz, xqv (.iconst 1) 1 1, xqa (.goto 4) 3 133, xz, xz, xqv (.iconst 0) 1 0, xq (.istore_n 3) 1, xqa (.goto (-130)) 3 4, xz, xz, xq (.iload_n 2) 1, xq .ireturn 1]
-- TermReaderModel.keep(I)V
def xc_155 : List (Option xRow) := [xq (.aload_n 0) 1, xqc (.getfield 50) 3 7 26 1140, xz, xz, xq (.aload_n 0) 1, xqc (.getfield 153) 3 7 25 1139, xz, xz, xq (.iload_n 1) 1, xq .iastore 1, xq (.aload_n 0) 1, xq .dup 1, xqc (.getfield 153) 3 7 25 1139, xz, xz, xqv (.iconst 1) 1 1, xq .iadd 1, xqc (.putfield 153) 3 7 25 1139, xz, xz, xq .return_ 1]
-- TermReaderModel.word(I)I
def xc_156 : List (Option xRow) := [xq (.iload_n 1) 1, xq (.istore_n 2) 1, xq (.aload_n 0) 1, xq (.iload_n 2) 1, xqc (.invokevirtual 149) 3 153 2 1304, xz, xz, xqc (.invokestatic 119) 3 146 1 1262, xz, xz, xqa (.ifCond .ne 25) 3 35, xz, xz, xq (.aload_n 0) 1, xq (.iload_n 2) 1, xqc (.invokevirtual 149) 3 153 2 1304, xz, xz, xqc (.invokestatic 156) 3 147 1 1308, xz, xz, xqa (.ifCond .ne 14) 3 35, xz, xz, xq (.aload_n 0) 1, xq (.iload_n 2) 1, xqc (.invokevirtual 149) 3 153 2 1304, xz, xz, xqc (.invokestatic 159) 3 148 1 1315, xz, xz, xqa (.ifCond .eq 18) 3 50, xz, xz, xq (.aload_n 0) 1, xq (.aload_n 0) 1, xq (.iload_n 2) 1, xqc (.invokevirtual 149) 3 153 2 1304, xz, xz, xqc (.invokevirtual 162) 3 155 2 1318, xz, xz, xqv (.iinc 2 1) 3 1, xz, xz, xqa (.goto (-45)) 3 2, xz, xz, xq (.iload_n 2) 1, xq .ireturn 1]
-- TermReaderModel.scan(I)V
def xc_157 : List (Option xRow) := [xq (.aload_n 0) 1, xq (.iload_n 1) 1, xqc (.invokevirtual 166) 3 154 2 1300, xz, xz, xq (.istore_n 2) 1, xq (.aload_n 0) 1, xqv (.iconst 0) 1 0, xqc (.putfield 153) 3 7 25 1139, xz, xz, xq (.aload_n 0) 1, xqv (.iconst 0) 1 0, xqc (.putfield 169) 3 7 24 1138, xz, xz, xq (.aload_n 0) 1, xqv (.iconst 0) 1 0, xqc (.putfield 173) 3 7 23 1137, xz, xz, xq (.aload_n 0) 1, xq (.iload_n 2) 1, xqc (.putfield 176) 3 7 21 1135, xz, xz, xq (.aload_n 0) 1, xq (.iload_n 2) 1, xqc (.invokevirtual 149) 3 153 2 1304, xz, xz, xq (.istore_n 3) 1, xq (.iload_n 2) 1, xq (.aload_n 0) 1, xqc (.getfield 142) 3 7 1 1115, xz, xz, xqa (.if_icmp .le 17) 3 54, xz, xz, xq (.aload_n 0) 1, xqv (.bipush 7) 2 7, xz, xqc (.putfield 179) 3 7 20 1134, xz, xz, xq (.aload_n 0) 1, xq (.iload_n 2) 1, xqc (.putfield 182) 3 7 22 1136, xz, xz, xqa (.goto 139) 3 190, xz, xz, xq (.iload_n 2) 1, xq (.aload_n 0) 1, xqc (.getfield 142) 3 7 1 1115, xz, xz, xqa (.if_icmp .ne 17) 3 76, xz, xz, xq (.aload_n 0) 1, xqv (.bipush 6) 2 6, xz, xqc (.putfield 179) 3 7 20 1134, xz, xz, xq (.aload_n 0) 1, xq (.iload_n 2) 1, xqc (.putfield 182) 3 7 22 1136, xz, xz, xqa (.goto 117) 3 190, xz, xz, xq (.iload_n 3) 1, xqc (.invokestatic 119) 3 146 1 1262, xz, xz, xqa (.ifCond .ne 10) 3 90, xz, xz, xq (.iload_n 3) 1, xqc (.invokestatic 156) 3 147 1 1308, xz, xz, xqa (.ifCond .eq 46) 3 133, xz, xz, xq (.aload_n 0) 1, xq (.iload_n 3) 1, xqc (.invokestatic 119) 3 146 1 1262, xz, xz, xqa (.ifCond .eq 7) 3 102, xz, xz, xqv (.iconst 4) 1 4, xqa (.goto 4) 3 103, xz, xz, xqv (.iconst 2) 1 2, xqc (.putfield 179) 3 7 20 1134, xz, xz, xq (.aload_n 0) 1, xq (.aload_n 0) 1, xq (.iload_n 2) 1, xqc (.invokevirtual 185) 3 156 2 1311, xz, xz, xqc (.putfield 182) 3 7 22 1136, xz, xz, xq (.aload_n 0) 1, xqc (.getfield 153) 3 7 25 1139, xz, xz, xqv (.bipush 24) 2 24, xz, xqa (.if_icmp .le 69) 3 190, xz, xz, xq (.aload_n 0) 1, xqv (.bipush 7) 2 7, xz, xqc (.putfield 179) 3 7 20 1134, xz, xz, xqa (.goto 60) 3 190, xz, xz, xq (.iload_n 3) 1, xqc (.invokestatic 159) 3 148 1 1315, xz, xz, xqa (.ifCond .eq 11) 3 148, xz, xz, xq (.aload_n 0) 1, xq (.iload_n 2) 1, xqc (.invokevirtual 188) 3 161 2 1322, xz, xz, xqa (.goto 45) 3 190, xz, xz, xq (.iload_n 3) 1, xqc (.invokestatic 122) 3 145 1 1265, xz, xz, xqa (.ifCond .eq 11) 3 163, xz, xz, xq (.aload_n 0) 1, xq (.iload_n 2) 1, xqc (.invokevirtual 191) 3 158 2 1330, xz, xz, xqa (.goto 30) 3 190, xz, xz, xq (.iload_n 3) 1, xqv (.bipush 39) 2 39, xz, xqa (.if_icmp .eq 9) 3 175, xz, xz, xq (.iload_n 3) 1, xqv (.bipush 34) 2 34, xz, xqa (.if_icmp .ne 12) 3 184, xz, xz, xq (.aload_n 0) 1, xq (.iload_n 2) 1, xq (.iload_n 3) 1, xqc (.invokevirtual 194) 3 162 3 1334, xz, xz, xqa (.goto 9) 3 190, xz, xz, xq (.aload_n 0) 1, xq (.iload_n 2) 1, xq (.iload_n 3) 1, xqc (.invokevirtual 198) 3 159 3 1338, xz, xz, xq .return_ 1]
-- TermReaderModel.signs(I)V
def xc_158 : List (Option xRow) := [xq (.iload_n 1) 1, xq (.istore_n 2) 1, xq (.aload_n 0) 1, xq (.iload_n 2) 1, xqc (.invokevirtual 149) 3 153 2 1304, xz, xz, xqc (.invokestatic 122) 3 145 1 1265, xz, xz, xqa (.ifCond .eq 18) 3 28, xz, xz, xq (.aload_n 0) 1, xq (.aload_n 0) 1, xq (.iload_n 2) 1, xqc (.invokevirtual 149) 3 153 2 1304, xz, xz, xqc (.invokevirtual 162) 3 155 2 1318, xz, xz, xqv (.iinc 2 1) 3 1, xz, xz, xqa (.goto (-23)) 3 2, xz, xz, xq (.aload_n 0) 1, xq (.iload_n 2) 1, xqc (.putfield 182) 3 7 22 1136, xz, xz, xq (.aload_n 0) 1, xqc (.getfield 153) 3 7 25 1139, xz, xz, xqv (.iconst 1) 1 1, xqa (.if_icmp .ne 46) 3 84, xz, xz, xq (.aload_n 0) 1, xqc (.getfield 50) 3 7 26 1140, xz, xz, xqv (.iconst 0) 1 0, xq .iaload 1, xqv (.bipush 46) 2 46, xz, xqa (.if_icmp .ne 35) 3 84, xz, xz, xq (.iload_n 2) 1, xq (.aload_n 0) 1, xqc (.getfield 142) 3 7 1 1115, xz, xz, xqa (.if_icmp .eq 23) 3 80, xz, xz, xq (.aload_n 0) 1, xq (.iload_n 2) 1, xqc (.invokevirtual 149) 3 153 2 1304, xz, xz, xqv (.bipush 32) 2 32, xz, xqa (.if_icmp .eq 13) 3 80, xz, xz, xq (.aload_n 0) 1, xq (.iload_n 2) 1, xqc (.invokevirtual 149) 3 153 2 1304, xz, xz, xqv (.bipush 37) 2 37, xz, xqa (.if_icmp .ne 7) 3 84, xz, xz, xqv (.iconst 1) 1 1, xqa (.goto 4) 3 85, xz, xz, xqv (.iconst 0) 1 0, xq (.istore_n 3) 1, xq (.aload_n 0) 1, xq (.iload_n 3) 1, xqa (.ifCond .eq 7) 3 95, xz, xz, xqv (.iconst 0) 1 0, xqa (.goto 18) 3 110, xz, xz, xq (.aload_n 0) 1, xqc (.getfield 153) 3 7 25 1139, xz, xz, xqv (.bipush 24) 2 24, xz, xqa (.if_icmp .le 8) 3 109, xz, xz, xqv (.bipush 7) 2 7, xz, xqa (.goto 4) 3 110, xz, xz, xqv (.iconst 4) 1 4, xqc (.putfield 179) 3 7 20 1134, xz, xz, xq .return_ 1]
-- TermReaderModel.single(II)V
def xc_159 : List (Option xRow) := [xq (.aload_n 0) 1, xq (.iload_n 1) 1, xqv (.iconst 1) 1 1, xq .iadd 1, xqc (.invokevirtual 149) 3 153 2 1304, xz, xz, xq (.istore_n 3) 1, xq (.iload_n 2) 1, xqv (.bipush 91) 2 91, xz, xqa (.if_icmp .ne 9) 3 20, xz, xz, xq (.iload_n 3) 1, xqv (.bipush 93) 2 93, xz, xqa (.if_icmp .eq 15) 3 32, xz, xz, xq (.iload_n 2) 1, xqv (.bipush 123) 2 123, xz, xqa (.if_icmp .ne 13) 3 36, xz, xz, xq (.iload_n 3) 1, xqv (.bipush 125) 2 125, xz, xqa (.if_icmp .ne 7) 3 36, xz, xz, xqv (.iconst 1) 1 1, xqa (.goto 4) 3 37, xz, xz, xqv (.iconst 0) 1 0, xq (.istore 4) 2, xz, xq (.iload 4) 2, xz, xqa (.ifCond .ne 15) 3 56, xz, xz, xq (.iload_n 2) 1, xqv (.bipush 33) 2 33, xz, xqa (.if_icmp .eq 9) 3 56, xz, xz, xq (.iload_n 2) 1, xqv (.bipush 59) 2 59, xz, xqa (.if_icmp .ne 40) 3 93, xz, xz, xq (.aload_n 0) 1, xqv (.iconst 4) 1 4, xqc (.putfield 179) 3 7 20 1134, xz, xz, xq (.aload_n 0) 1, xq (.iload_n 2) 1, xqc (.invokevirtual 162) 3 155 2 1318, xz, xz, xq (.iload 4) 2, xz, xqa (.ifCond .eq 8) 3 76, xz, xz, xq (.aload_n 0) 1, xq (.iload_n 3) 1, xqc (.invokevirtual 162) 3 155 2 1318, xz, xz, xq (.aload_n 0) 1, xq (.iload_n 1) 1, xq (.iload 4) 2, xz, xqa (.ifCond .eq 7) 3 87, xz, xz, xqv (.iconst 2) 1 2, xqa (.goto 4) 3 88, xz, xz, xqv (.iconst 1) 1 1, xq .iadd 1, xqc (.putfield 182) 3 7 22 1136, xz, xz, xq .return_ 1, xq (.iload_n 2) 1, xqv (.bipush 40) 2 40, xz, xqa (.if_icmp .eq 45) 3 141, xz, xz, xq (.iload_n 2) 1, xqv (.bipush 41) 2 41, xz, xqa (.if_icmp .eq 39) 3 141, xz, xz, xq (.iload_n 2) 1, xqv (.bipush 91) 2 91, xz, xqa (.if_icmp .eq 33) 3 141, xz, xz, xq (.iload_n 2) 1, xqv (.bipush 93) 2 93, xz, xqa (.if_icmp .eq 27) 3 141, xz, xz, xq (.iload_n 2) 1, xqv (.bipush 123) 2 123, xz, xqa (.if_icmp .eq 21) 3 141, xz, xz, xq (.iload_n 2) 1, xqv (.bipush 125) 2 125, xz, xqa (.if_icmp .eq 15) 3 141, xz, xz, xq (.iload_n 2) 1, xqv (.bipush 44) 2 44, xz, xqa (.if_icmp .eq 9) 3 141, xz, xz, xq (.iload_n 2) 1, xqv (.bipush 124) 2 124, xz, xqa (.if_icmp .ne 7) 3 145, xz, xz, xqv (.iconst 1) 1 1, xqa (.goto 4) 3 146, xz, xz, xqv (.iconst 0) 1 0, xq (.istore 5) 2, xz, xq (.aload_n 0) 1, xq (.iload 5) 2, xz, xqa (.ifCond .eq 7) 3 158, xz, xz, xqv (.iconst 5) 1 5, xqa (.goto 5) 3 160, xz, xz, xqv (.bipush 7) 2 7, xz, xqc (.putfield 179) 3 7 20 1134, xz, xz, xq (.aload_n 0) 1, xq (.iload_n 2) 1, xqc (.putfield 173) 3 7 23 1137, xz, xz, xq (.aload_n 0) 1, xq (.iload_n 1) 1, xqv (.iconst 1) 1 1, xq .iadd 1, xqc (.putfield 182) 3 7 22 1136, xz, xz, xq .return_ 1]
-- TermReaderModel.hex(I)I
def xc_160 : List (Option xRow) := [xq (.iload_n 0) 1, xqc (.invokestatic 159) 3 148 1 1315, xz, xz, xqa (.ifCond .eq 10) 3 14, xz, xz, xq (.iload_n 0) 1, xqv (.bipush 48) 2 48, xz, xq .isub 1, xqa (.goto 26) 3 37, xz, xz, xq (.iload_n 0) 1, xqv (.bipush 97) 2 97, xz, xqa (.if_icmp .lt 19) 3 36, xz, xz, xq (.iload_n 0) 1, xqv (.bipush 102) 2 102, xz, xqa (.if_icmp .gt 13) 3 36, xz, xz, xq (.iload_n 0) 1, xqv (.bipush 97) 2 97, xz, xq .isub 1, xqv (.bipush 10) 2 10, xz, xq .iadd 1, xqa (.goto 4) 3 37, xz, xz, xqv (.iconst (-1)) 1 (-1), xq .ireturn 1]
-- TermReaderModel.number(I)V
def xc_161 : List (Option xRow) := [xq (.iload_n 1) 1, xq (.istore_n 2) 1, xq (.aload_n 0) 1, xqv (.iconst 1) 1 1, xqc (.putfield 179) 3 7 20 1134, xz, xz, xq (.aload_n 0) 1, xq (.iload_n 2) 1, xqc (.invokevirtual 149) 3 153 2 1304, xz, xz, xqv (.bipush 48) 2 48, xz, xqa (.if_icmp .ne 68) 3 82, xz, xz, xq (.aload_n 0) 1, xq (.iload_n 2) 1, xqv (.iconst 1) 1 1, xq .iadd 1, xqc (.invokevirtual 149) 3 153 2 1304, xz, xz, xqv (.bipush 39) 2 39, xz, xqa (.if_icmp .ne 56) 3 82, xz, xz, xq (.aload_n 0) 1, xq (.iload_n 2) 1, xqv (.iconst 2) 1 2, xq .iadd 1, xqc (.invokevirtual 149) 3 153 2 1304, xz, xz, xq (.istore_n 3) 1, xq (.aload_n 0) 1, xq (.iload_n 2) 1, xqv (.iconst 2) 1 2, xq .iadd 1, xq (.aload_n 0) 1, xqc (.getfield 142) 3 7 1 1115, xz, xz, xqa (.if_icmp .ge 15) 3 60, xz, xz, xq (.iload_n 3) 1, xqv (.bipush 39) 2 39, xz, xqa (.if_icmp .eq 9) 3 60, xz, xz, xq (.iload_n 3) 1, xqv (.bipush 92) 2 92, xz, xqa (.if_icmp .ne 8) 3 65, xz, xz, xqv (.bipush 7) 2 7, xz, xqa (.goto 4) 3 66, xz, xz, xqv (.iconst 1) 1 1, xqc (.putfield 179) 3 7 20 1134, xz, xz, xq (.aload_n 0) 1, xq (.iload_n 3) 1, xqc (.putfield 173) 3 7 23 1137, xz, xz, xq (.aload_n 0) 1, xq (.iload_n 2) 1, xqv (.iconst 3) 1 3, xq .iadd 1, xqc (.putfield 182) 3 7 22 1136, xz, xz, xq .return_ 1, xq (.aload_n 0) 1, xq (.iload_n 2) 1, xqc (.invokevirtual 149) 3 153 2 1304, xz, xz, xqv (.bipush 48) 2 48, xz, xqa (.if_icmp .ne 32) 3 121, xz, xz, xq (.aload_n 0) 1, xq (.iload_n 2) 1, xqv (.iconst 1) 1 1, xq .iadd 1, xqc (.invokevirtual 149) 3 153 2 1304, xz, xz, xqv (.bipush 120) 2 120, xz, xqa (.if_icmp .ne 20) 3 121, xz, xz, xq (.aload_n 0) 1, xq (.iload_n 2) 1, xqv (.iconst 2) 1 2, xq .iadd 1, xqc (.invokevirtual 149) 3 153 2 1304, xz, xz, xqc (.invokestatic 201) 3 160 1 1326, xz, xz, xqa (.ifCond .lt 7) 3 121, xz, xz, xqv (.iconst 1) 1 1, xqa (.goto 4) 3 122, xz, xz, xqv (.iconst 0) 1 0, xq (.istore_n 3) 1, xq (.iload_n 3) 1, xqa (.ifCond .eq 8) 3 132, xz, xz, xqv (.bipush 16) 2 16, xz, xqa (.goto 5) 3 134, xz, xz, xqv (.bipush 10) 2 10, xz, xq (.istore 4) 2, xz, xq (.iload_n 2) 1, xq (.iload_n 3) 1, xqa (.ifCond .eq 7) 3 145, xz, xz, xqv (.iconst 2) 1 2, xqa (.goto 4) 3 146, xz, xz, xqv (.iconst 0) 1 0, xq .iadd 1, xq (.istore_n 2) 1, xq (.lconst 0) 1, xq (.lstore 5) 2, xz, xq (.iload_n 3) 1, xqa (.ifCond .eq 17) 3 169, xz, xz, xq (.aload_n 0) 1, xq (.iload_n 2) 1, xqc (.invokevirtual 149) 3 153 2 1304, xz, xz, xqc (.invokestatic 201) 3 160 1 1326, xz, xz, xqa (.ifCond .lt 55) 3 218, xz, xz, xqa (.goto 14) 3 180, xz, xz, xq (.aload_n 0) 1, xq (.iload_n 2) 1, xqc (.invokevirtual 149) 3 153 2 1304, xz, xz, xqc (.invokestatic 159) 3 148 1 1315, xz, xz, xqa (.ifCond .eq 41) 3 218, xz, xz, xq (.lload 5) 2, xz, xqk (.ldc2_w 204) 3 0 0 1329 2147483647, xz, xz, xq .lcmp 1, xqa (.ifCond .le 8) 3 194, xz, xz, xq (.lload 5) 2, xz, xqa (.goto 19) 3 210, xz, xz, xq (.lload 5) 2, xz, xq (.iload 4) 2, xz, xq .i2l 1, xq .lmul 1, xq (.aload_n 0) 1, xq (.iload_n 2) 1, xqc (.invokevirtual 149) 3 153 2 1304, xz, xz, xqc (.invokestatic 201) 3 160 1 1326, xz, xz, xq .i2l 1, xq .ladd 1, xq (.lstore 5) 2, xz, xqv (.iinc 2 1) 3 1, xz, xz, xqa (.goto (-64)) 3 151, xz, xz, xq (.aload_n 0) 1, xq (.iload_n 2) 1, xqc (.putfield 182) 3 7 22 1136, xz, xz, xq (.aload_n 0) 1, xq (.lload 5) 2, xz, xqk (.ldc2_w 204) 3 0 0 1329 2147483647, xz, xz, xq .lcmp 1, xqa (.ifCond .le 8) 3 238, xz, xz, xqv (.bipush 7) 2 7, xz, xqa (.goto 4) 3 239, xz, xz, xqv (.iconst 1) 1 1, xqc (.putfield 179) 3 7 20 1134, xz, xz, xq (.aload_n 0) 1, xq (.lload 5) 2, xz, xq .l2i 1, xqc (.putfield 173) 3 7 23 1137, xz, xz, xq .return_ 1]
-- TermReaderModel.quotes(II)V
def xc_162 : List (Option xRow) := [xq (.iload_n 1) 1, xqv (.iconst 1) 1 1, xq .iadd 1, xq (.istore_n 3) 1, xqv (.iconst 0) 1 0, xq (.istore 4) 2, xz, xq (.aload_n 0) 1, xq (.iload_n 2) 1, xqv (.bipush 34) 2 34, xz, xqa (.if_icmp .ne 7) 3 18, xz, xz, xqv (.iconst 3) 1 3, xqa (.goto 4) 3 19, xz, xz, xqv (.iconst 4) 1 4, xqc (.putfield 179) 3 7 20 1134, xz, xz, xq (.aload_n 0) 1, xqv (.iconst 1) 1 1, xqc (.putfield 169) 3 7 24 1138, xz, xz, xq (.iload 4) 2, xz, xqa (.ifCond .ne 191) 3 220, xz, xz, xq (.aload_n 0) 1, xqc (.getfield 179) 3 7 20 1134, xz, xz, xqv (.bipush 7) 2 7, xz, xqa (.if_icmp .eq 182) 3 220, xz, xz, xq (.aload_n 0) 1, xq (.iload_n 3) 1, xqc (.invokevirtual 149) 3 153 2 1304, xz, xz, xq (.istore 5) 2, xz, xq (.aload_n 0) 1, xq (.iload_n 3) 1, xqv (.iconst 1) 1 1, xq .iadd 1, xqc (.invokevirtual 149) 3 153 2 1304, xz, xz, xq (.istore 6) 2, xz, xq (.iload_n 3) 1, xq (.aload_n 0) 1, xqc (.getfield 142) 3 7 1 1115, xz, xz, xqa (.if_icmp .lt 12) 3 74, xz, xz, xq (.aload_n 0) 1, xqv (.bipush 7) 2 7, xz, xqc (.putfield 179) 3 7 20 1134, xz, xz, xqa (.goto 146) 3 217, xz, xz, xq (.iload 5) 2, xz, xq (.iload_n 2) 1, xqa (.if_icmp .ne 25) 3 102, xz, xz, xq (.iload_n 2) 1, xqv (.bipush 39) 2 39, xz, xqa (.if_icmp .ne 10) 3 93, xz, xz, xq (.iload 6) 2, xz, xqv (.bipush 39) 2 39, xz, xqa (.if_icmp .eq 12) 3 102, xz, xz, xqv (.iconst 1) 1 1, xq (.istore 4) 2, xz, xqv (.iinc 3 1) 3 1, xz, xz, xqa (.goto 118) 3 217, xz, xz, xq (.iload 5) 2, xz, xqv (.bipush 92) 2 92, xz, xqa (.if_icmp .ne 91) 3 197, xz, xz, xq (.iload_n 2) 1, xqv (.bipush 39) 2 39, xz, xqa (.if_icmp .ne 35) 3 147, xz, xz, xq (.iload 6) 2, xz, xqv (.bipush 110) 2 110, xz, xqa (.if_icmp .eq 24) 3 143, xz, xz, xq (.iload 6) 2, xz, xqv (.bipush 116) 2 116, xz, xqa (.if_icmp .eq 17) 3 143, xz, xz, xq (.iload 6) 2, xz, xqv (.bipush 92) 2 92, xz, xqa (.if_icmp .eq 10) 3 143, xz, xz, xq (.iload 6) 2, xz, xqv (.bipush 39) 2 39, xz, xqa (.if_icmp .ne 7) 3 147, xz, xz, xqv (.iconst 1) 1 1, xqa (.goto 4) 3 148, xz, xz, xqv (.iconst 0) 1 0, xq (.istore 7) 2, xz, xq (.aload_n 0) 1, xq (.iload 6) 2, xz, xqv (.bipush 110) 2 110, xz, xqa (.if_icmp .ne 8) 3 163, xz, xz, xqv (.bipush 10) 2 10, xz, xqa (.goto 17) 3 177, xz, xz, xq (.iload 6) 2, xz, xqv (.bipush 116) 2 116, xz, xqa (.if_icmp .ne 8) 3 175, xz, xz, xqv (.bipush 9) 2 9, xz, xqa (.goto 5) 3 177, xz, xz, xq (.iload 6) 2, xz, xqc (.invokevirtual 162) 3 155 2 1318, xz, xz, xq (.iload 7) 2, xz, xqa (.ifCond .ne 9) 3 191, xz, xz, xq (.aload_n 0) 1, xqv (.bipush 7) 2 7, xz, xqc (.putfield 179) 3 7 20 1134, xz, xz, xqv (.iinc 3 2) 3 2, xz, xz, xqa (.goto 23) 3 217, xz, xz, xq (.aload_n 0) 1, xq (.iload 5) 2, xz, xqc (.invokevirtual 162) 3 155 2 1318, xz, xz, xq (.iload_n 3) 1, xq (.iload 5) 2, xz, xq (.iload_n 2) 1, xqa (.if_icmp .ne 7) 3 214, xz, xz, xqv (.iconst 2) 1 2, xqa (.goto 4) 3 215, xz, xz, xqv (.iconst 1) 1 1, xq .iadd 1, xq (.istore_n 3) 1, xqa (.goto (-190)) 3 27, xz, xz, xq (.aload_n 0) 1, xq (.iload_n 3) 1, xqc (.putfield 182) 3 7 22 1136, xz, xz, xq (.aload_n 0) 1, xqc (.getfield 153) 3 7 25 1139, xz, xz, xq (.iload_n 2) 1, xqv (.bipush 34) 2 34, xz, xqa (.if_icmp .ne 8) 3 240, xz, xz, xqv (.bipush 12) 2 12, xz, xqa (.goto 5) 3 242, xz, xz, xqv (.bipush 24) 2 24, xz, xqa (.if_icmp .le 9) 3 251, xz, xz, xq (.aload_n 0) 1, xqv (.bipush 7) 2 7, xz, xqc (.putfield 179) 3 7 20 1134, xz, xz, xq .return_ 1]
-- TermReaderModel.key()J
def xc_163 : List (Option xRow) := [xq (.lconst 0) 1, xq (.lstore_n 1) 1, xqv (.iconst 0) 1 0, xq (.istore_n 3) 1, xq (.iload_n 3) 1, xq (.aload_n 0) 1, xqc (.getfield 153) 3 7 25 1139, xz, xz, xqa (.if_icmp .ge 33) 3 42, xz, xz, xq (.aload_n 0) 1, xqc (.getfield 153) 3 7 25 1139, xz, xz, xqv (.bipush 8) 2 8, xz, xqa (.if_icmp .gt 24) 3 42, xz, xz, xq (.lload_n 1) 1, xq (.aload_n 0) 1, xqc (.getfield 50) 3 7 26 1140, xz, xz, xq (.iload_n 3) 1, xq .iaload 1, xq .i2l 1, xqv (.bipush 8) 2 8, xz, xq (.iload_n 3) 1, xq .imul 1, xq .lshl 1, xq .lor 1, xq (.lstore_n 1) 1, xqv (.iinc 3 1) 3 1, xz, xz, xqa (.goto (-35)) 3 4, xz, xz, xq (.aload_n 0) 1, xqc (.getfield 153) 3 7 25 1139, xz, xz, xqv (.bipush 8) 2 8, xz, xqa (.if_icmp .gt 10) 3 58, xz, xz, xq (.aload_n 0) 1, xqc (.getfield 153) 3 7 25 1139, xz, xz, xqa (.ifCond .ne 9) 3 64, xz, xz, xqk (.ldc2_w 206) 3 0 0 1370 (-1), xz, xz, xqa (.goto 4) 3 65, xz, xz, xq (.lload_n 1) 1, xq .lreturn 1]
-- TermReaderModel.keyOf(I)J
def xc_164 : List (Option xRow) := [xq (.aload_n 0) 1, xqc (.getfield 32) 3 7 11 1125, xz, xz, xq (.iload_n 1) 1, xq .iaload 1, xq (.istore_n 2) 1, xq (.lconst 0) 1, xq (.lstore_n 3) 1, xqv (.iconst 0) 1 0, xq (.istore 5) 2, xz, xq (.iload 5) 2, xz, xq (.iload_n 2) 1, xqa (.if_icmp .ge 39) 3 54, xz, xz, xq (.iload_n 2) 1, xqv (.bipush 8) 2 8, xz, xqa (.if_icmp .gt 33) 3 54, xz, xz, xq (.lload_n 3) 1, xq (.aload_n 0) 1, xqc (.getfield 35) 3 7 13 1127, xz, xz, xq (.aload_n 0) 1, xqc (.getfield 29) 3 7 10 1124, xz, xz, xq (.iload_n 1) 1, xq .iaload 1, xq (.iload 5) 2, xz, xq .iadd 1, xq .iaload 1, xq .i2l 1, xqv (.bipush 8) 2 8, xz, xq (.iload 5) 2, xz, xq .imul 1, xq .lshl 1, xq .lor 1, xq (.lstore_n 3) 1, xqv (.iinc 5 1) 3 1, xz, xz, xqa (.goto (-39)) 3 12, xz, xz, xq (.iload_n 2) 1, xqv (.bipush 8) 2 8, xz, xqa (.if_icmp .gt 7) 3 64, xz, xz, xq (.iload_n 2) 1, xqa (.ifCond .ne 9) 3 70, xz, xz, xqk (.ldc2_w 206) 3 0 0 1370 (-1), xz, xz, xqa (.goto 4) 3 71, xz, xz, xq (.lload_n 3) 1, xq .lreturn 1]
-- TermReaderModel.intern()I
def xc_165 : List (Option xRow) := [xqv (.iconst 0) 1 0, xq (.istore_n 1) 1, xq (.iload_n 1) 1, xq (.aload_n 0) 1, xqc (.getfield 208) 3 7 9 1123, xz, xz, xqa (.if_icmp .ge 82) 3 89, xz, xz, xq (.aload_n 0) 1, xqc (.getfield 32) 3 7 11 1125, xz, xz, xq (.iload_n 1) 1, xq .iaload 1, xq (.aload_n 0) 1, xqc (.getfield 153) 3 7 25 1139, xz, xz, xqa (.if_icmp .ne 7) 3 27, xz, xz, xqv (.iconst 1) 1 1, xqa (.goto 4) 3 28, xz, xz, xqv (.iconst 0) 1 0, xq (.istore_n 2) 1, xqv (.iconst 0) 1 0, xq (.istore_n 3) 1, xq (.iload_n 3) 1, xq (.aload_n 0) 1, xqc (.getfield 153) 3 7 25 1139, xz, xz, xqa (.if_icmp .ge 41) 3 77, xz, xz, xq (.iload_n 2) 1, xqa (.ifCond .eq 37) 3 77, xz, xz, xq (.aload_n 0) 1, xqc (.getfield 35) 3 7 13 1127, xz, xz, xq (.aload_n 0) 1, xqc (.getfield 29) 3 7 10 1124, xz, xz, xq (.iload_n 1) 1, xq .iaload 1, xq (.iload_n 3) 1, xq .iadd 1, xq .iaload 1, xq (.aload_n 0) 1, xqc (.getfield 50) 3 7 26 1140, xz, xz, xq (.iload_n 3) 1, xq .iaload 1, xqa (.if_icmp .ne 7) 3 69, xz, xz, xqv (.iconst 1) 1 1, xqa (.goto 4) 3 70, xz, xz, xqv (.iconst 0) 1 0, xq (.istore_n 2) 1, xqv (.iinc 3 1) 3 1, xz, xz, xqa (.goto (-43)) 3 31, xz, xz, xq (.iload_n 2) 1, xqa (.ifCond .eq 5) 3 83, xz, xz, xq (.iload_n 1) 1, xq .ireturn 1, xqv (.iinc 1 1) 3 1, xz, xz, xqa (.goto (-84)) 3 2, xz, xz, xq (.aload_n 0) 1, xqc (.getfield 29) 3 7 10 1124, xz, xz, xq (.aload_n 0) 1, xqc (.getfield 208) 3 7 9 1123, xz, xz, xq (.aload_n 0) 1, xqc (.getfield 211) 3 7 12 1126, xz, xz, xq .iastore 1, xq (.aload_n 0) 1, xqc (.getfield 32) 3 7 11 1125, xz, xz, xq (.aload_n 0) 1, xqc (.getfield 208) 3 7 9 1123, xz, xz, xq (.aload_n 0) 1, xqc (.getfield 153) 3 7 25 1139, xz, xz, xq .iastore 1, xqv (.iconst 0) 1 0, xq (.istore_n 1) 1, xq (.iload_n 1) 1, xq (.aload_n 0) 1, xqc (.getfield 153) 3 7 25 1139, xz, xz, xqa (.if_icmp .ge 26) 3 148, xz, xz, xq (.aload_n 0) 1, xqc (.getfield 35) 3 7 13 1127, xz, xz, xq (.aload_n 0) 1, xqc (.getfield 211) 3 7 12 1126, xz, xz, xq (.iload_n 1) 1, xq .iadd 1, xq (.aload_n 0) 1, xqc (.getfield 50) 3 7 26 1140, xz, xz, xq (.iload_n 1) 1, xq .iaload 1, xq .iastore 1, xqv (.iinc 1 1) 3 1, xz, xz, xqa (.goto (-28)) 3 117, xz, xz, xq (.aload_n 0) 1, xq .dup 1, xqc (.getfield 211) 3 7 12 1126, xz, xz, xq (.aload_n 0) 1, xqc (.getfield 153) 3 7 25 1139, xz, xz, xq .iadd 1, xqc (.putfield 211) 3 7 12 1126, xz, xz, xq (.aload_n 0) 1, xq .dup 1, xqc (.getfield 208) 3 7 9 1123, xz, xz, xqv (.iconst 1) 1 1, xq .iadd 1, xqc (.putfield 208) 3 7 9 1123, xz, xz, xq (.aload_n 0) 1, xqc (.getfield 208) 3 7 9 1123, xz, xz, xqv (.iconst 1) 1 1, xq .isub 1, xq .ireturn 1]
-- TermReaderModel.named(II)I
def xc_166 : List (Option xRow) := [xq (.aload_n 0) 1, xqv (.iconst 0) 1 0, xqc (.putfield 153) 3 7 25 1139, xz, xz, xq (.aload_n 0) 1, xq (.iload_n 1) 1, xqc (.invokevirtual 162) 3 155 2 1318, xz, xz, xq (.iload_n 2) 1, xqa (.ifCond .le 8) 3 19, xz, xz, xq (.aload_n 0) 1, xq (.iload_n 2) 1, xqc (.invokevirtual 162) 3 155 2 1318, xz, xz, xq (.aload_n 0) 1, xqc (.invokevirtual 214) 3 165 1 1350, xz, xz, xq .ireturn 1]
-- TermReaderModel.add(III)I
def xc_167 : List (Option xRow) := [xq (.aload_n 0) 1, xqc (.getfield 41) 3 7 17 1131, xz, xz, xq (.aload_n 0) 1, xqc (.getfield 217) 3 7 16 1130, xz, xz, xq (.iload_n 1) 1, xq .iastore 1, xq (.aload_n 0) 1, xqc (.getfield 44) 3 7 18 1132, xz, xz, xq (.aload_n 0) 1, xqc (.getfield 217) 3 7 16 1130, xz, xz, xq (.iload_n 2) 1, xq .iastore 1, xq (.aload_n 0) 1, xqc (.getfield 47) 3 7 19 1133, xz, xz, xq (.aload_n 0) 1, xqc (.getfield 217) 3 7 16 1130, xz, xz, xq (.iload_n 3) 1, xq .iastore 1, xq (.aload_n 0) 1, xq .dup 1, xqc (.getfield 217) 3 7 16 1130, xz, xz, xqv (.iconst 1) 1 1, xq .iadd 1, xqc (.putfield 217) 3 7 16 1130, xz, xz, xq (.aload_n 0) 1, xqc (.getfield 217) 3 7 16 1130, xz, xz, xqv (.iconst 1) 1 1, xq .isub 1, xq .ireturn 1]
-- TermReaderModel.ahead(III)V
def xc_168 : List (Option xRow) := [xq (.aload_n 0) 1, xqc (.getfield 217) 3 7 16 1130, xz, xz, xq (.istore 4) 2, xz, xq (.iload 4) 2, xz, xq (.iload_n 1) 1, xqa (.if_icmp .le 57) 3 66, xz, xz, xq (.aload_n 0) 1, xqc (.getfield 41) 3 7 17 1131, xz, xz, xq (.iload 4) 2, xz, xq (.aload_n 0) 1, xqc (.getfield 41) 3 7 17 1131, xz, xz, xq (.iload 4) 2, xz, xqv (.iconst 1) 1 1, xq .isub 1, xq .iaload 1, xq .iastore 1, xq (.aload_n 0) 1, xqc (.getfield 44) 3 7 18 1132, xz, xz, xq (.iload 4) 2, xz, xq (.aload_n 0) 1, xqc (.getfield 44) 3 7 18 1132, xz, xz, xq (.iload 4) 2, xz, xqv (.iconst 1) 1 1, xq .isub 1, xq .iaload 1, xq .iastore 1, xq (.aload_n 0) 1, xqc (.getfield 47) 3 7 19 1133, xz, xz, xq (.iload 4) 2, xz, xq (.aload_n 0) 1, xqc (.getfield 47) 3 7 19 1133, xz, xz, xq (.iload 4) 2, xz, xqv (.iconst 1) 1 1, xq .isub 1, xq .iaload 1, xq .iastore 1, xqv (.iinc 4 (-1)) 3 (-1), xz, xz, xqa (.goto (-57)) 3 6, xz, xz, xq (.aload_n 0) 1, xqc (.getfield 41) 3 7 17 1131, xz, xz, xq (.iload_n 1) 1, xqv (.iconst 3) 1 3, xq .iastore 1, xq (.aload_n 0) 1, xqc (.getfield 44) 3 7 18 1132, xz, xz, xq (.iload_n 1) 1, xq (.iload_n 2) 1, xq .iastore 1, xq (.aload_n 0) 1, xqc (.getfield 47) 3 7 19 1133, xz, xz, xq (.iload_n 1) 1, xq (.iload_n 3) 1, xq .iastore 1, xq (.aload_n 0) 1, xq .dup 1, xqc (.getfield 217) 3 7 16 1130, xz, xz, xqv (.iconst 1) 1 1, xq .iadd 1, xqc (.putfield 217) 3 7 16 1130, xz, xz, xq .return_ 1]
-- TermReaderModel.enter(III)V
def xc_169 : List (Option xRow) := [xq (.aload_n 0) 1, xqc (.getfield 220) 3 7 29 1143, xz, xz, xqv (.bipush 10) 2 10, xz, xqa (.if_icmp .le 9) 3 15, xz, xz, xq (.aload_n 0) 1, xqv (.iconst 1) 1 1, xqc (.putfield 223) 3 7 28 1142, xz, xz, xq .return_ 1, xq (.aload_n 0) 1, xqc (.getfield 53) 3 7 30 1144, xz, xz, xq (.aload_n 0) 1, xqc (.getfield 220) 3 7 29 1143, xz, xz, xq (.iload_n 1) 1, xq .iastore 1, xq (.aload_n 0) 1, xqc (.getfield 56) 3 7 31 1145, xz, xz, xq (.aload_n 0) 1, xqc (.getfield 220) 3 7 29 1143, xz, xz, xq (.aload_n 0) 1, xqc (.getfield 217) 3 7 16 1130, xz, xz, xq .iastore 1, xq (.aload_n 0) 1, xqc (.getfield 59) 3 7 32 1146, xz, xz, xq (.aload_n 0) 1, xqc (.getfield 220) 3 7 29 1143, xz, xz, xqv (.iconst (-1)) 1 (-1), xq .iastore 1, xq (.aload_n 0) 1, xqc (.getfield 62) 3 7 33 1147, xz, xz, xq (.aload_n 0) 1, xqc (.getfield 220) 3 7 29 1143, xz, xz, xq (.iload_n 2) 1, xq .iastore 1, xq (.aload_n 0) 1, xqc (.getfield 65) 3 7 34 1148, xz, xz, xq (.aload_n 0) 1, xqc (.getfield 220) 3 7 29 1143, xz, xz, xq (.iload_n 3) 1, xq .iastore 1, xq (.aload_n 0) 1, xq .dup 1, xqc (.getfield 220) 3 7 29 1143, xz, xz, xqv (.iconst 1) 1 1, xq .iadd 1, xqc (.putfield 220) 3 7 29 1143, xz, xz, xq .return_ 1]
-- TermReaderModel.canBegin()Z
def xc_170 : List (Option xRow) := [xq (.aload_n 0) 1, xqc (.getfield 179) 3 7 20 1134, xz, xz, xqa (.ifCond .eq 78) 3 82, xz, xz, xq (.aload_n 0) 1, xqc (.getfield 179) 3 7 20 1134, xz, xz, xqv (.bipush 6) 2 6, xz, xqa (.if_icmp .eq 69) 3 82, xz, xz, xq (.aload_n 0) 1, xqc (.getfield 179) 3 7 20 1134, xz, xz, xqv (.bipush 7) 2 7, xz, xqa (.if_icmp .eq 60) 3 82, xz, xz, xq (.aload_n 0) 1, xqc (.getfield 179) 3 7 20 1134, xz, xz, xqv (.iconst 5) 1 5, xqa (.if_icmp .ne 48) 3 78, xz, xz, xq (.aload_n 0) 1, xqc (.getfield 173) 3 7 23 1137, xz, xz, xqv (.bipush 41) 2 41, xz, xqa (.if_icmp .eq 43) 3 82, xz, xz, xq (.aload_n 0) 1, xqc (.getfield 173) 3 7 23 1137, xz, xz, xqv (.bipush 93) 2 93, xz, xqa (.if_icmp .eq 34) 3 82, xz, xz, xq (.aload_n 0) 1, xqc (.getfield 173) 3 7 23 1137, xz, xz, xqv (.bipush 125) 2 125, xz, xqa (.if_icmp .eq 25) 3 82, xz, xz, xq (.aload_n 0) 1, xqc (.getfield 173) 3 7 23 1137, xz, xz, xqv (.bipush 44) 2 44, xz, xqa (.if_icmp .eq 16) 3 82, xz, xz, xq (.aload_n 0) 1, xqc (.getfield 173) 3 7 23 1137, xz, xz, xqv (.bipush 124) 2 124, xz, xqa (.if_icmp .eq 7) 3 82, xz, xz, xqv (.iconst 1) 1 1, xqa (.goto 4) 3 83, xz, xz, xqv (.iconst 0) 1 0, xq .ireturn 1]
-- TermReaderModel.variable()I
def xc_171 : List (Option xRow) := [xq (.aload_n 0) 1, xqc (.getfield 153) 3 7 25 1139, xz, xz, xqv (.iconst 1) 1 1, xqa (.if_icmp .ne 18) 3 23, xz, xz, xq (.aload_n 0) 1, xqc (.getfield 50) 3 7 26 1140, xz, xz, xqv (.iconst 0) 1 0, xq .iaload 1, xqv (.bipush 95) 2 95, xz, xqa (.if_icmp .ne 7) 3 23, xz, xz, xqv (.iconst 1) 1 1, xqa (.goto 4) 3 24, xz, xz, xqv (.iconst 0) 1 0, xq (.istore_n 1) 1, xq (.aload_n 0) 1, xqc (.invokevirtual 214) 3 165 1 1350, xz, xz, xq (.istore_n 2) 1, xqv (.iconst 0) 1 0, xq (.istore_n 3) 1, xq (.iload_n 3) 1, xq (.aload_n 0) 1, xqc (.getfield 226) 3 7 35 1149, xz, xz, xqa (.if_icmp .ge 25) 3 62, xz, xz, xq (.iload_n 1) 1, xqa (.ifCond .ne 21) 3 62, xz, xz, xq (.aload_n 0) 1, xqc (.getfield 68) 3 7 36 1150, xz, xz, xq (.iload_n 3) 1, xq .iaload 1, xq (.iload_n 2) 1, xqa (.if_icmp .ne 5) 3 56, xz, xz, xq (.iload_n 3) 1, xq .ireturn 1, xqv (.iinc 3 1) 3 1, xz, xz, xqa (.goto (-27)) 3 32, xz, xz, xq (.aload_n 0) 1, xqc (.getfield 68) 3 7 36 1150, xz, xz, xq (.aload_n 0) 1, xqc (.getfield 226) 3 7 35 1149, xz, xz, xq (.iload_n 1) 1, xqa (.ifCond .eq 7) 3 78, xz, xz, xqv (.iconst (-1)) 1 (-1), xqa (.goto 4) 3 79, xz, xz, xq (.iload_n 2) 1, xq .iastore 1, xq (.aload_n 0) 1, xq .dup 1, xqc (.getfield 226) 3 7 35 1149, xz, xz, xqv (.iconst 1) 1 1, xq .iadd 1, xqc (.putfield 226) 3 7 35 1149, xz, xz, xq (.aload_n 0) 1, xqc (.getfield 226) 3 7 35 1149, xz, xz, xqv (.iconst 1) 1 1, xq .isub 1, xq .ireturn 1]
-- TermReaderModel.string()V
def xc_172 : List (Option xRow) := [xq (.aload_n 0) 1, xqc (.getfield 153) 3 7 25 1139, xz, xz, xq (.istore_n 1) 1, xqv (.iconst 0) 1 0, xq (.istore_n 2) 1, xq (.iload_n 2) 1, xq (.iload_n 1) 1, xqa (.if_icmp .ge 21) 3 30, xz, xz, xq (.aload_n 0) 1, xqc (.getfield 77) 3 7 41 1155, xz, xz, xq (.iload_n 2) 1, xq (.aload_n 0) 1, xqc (.getfield 50) 3 7 26 1140, xz, xz, xq (.iload_n 2) 1, xq .iaload 1, xq .iastore 1, xqv (.iinc 2 1) 3 1, xz, xz, xqa (.goto (-20)) 3 7, xz, xz, xq (.aload_n 0) 1, xqv (.bipush 46) 2 46, xz, xqv (.iconst 0) 1 0, xqc (.invokevirtual 229) 3 166 3 1358, xz, xz, xq (.istore_n 2) 1, xqv (.iconst 0) 1 0, xq (.istore_n 3) 1, xq (.iload_n 3) 1, xq (.iload_n 1) 1, xqa (.if_icmp .ge 32) 3 74, xz, xz, xq (.aload_n 0) 1, xqv (.iconst 3) 1 3, xq (.iload_n 2) 1, xqv (.iconst 2) 1 2, xqc (.invokevirtual 232) 3 167 4 1342, xz, xz, xq (.istore 4) 2, xz, xq (.aload_n 0) 1, xqv (.iconst 1) 1 1, xq (.aload_n 0) 1, xqc (.getfield 77) 3 7 41 1155, xz, xz, xq (.iload_n 3) 1, xq .iaload 1, xqv (.iconst 0) 1 0, xqc (.invokevirtual 232) 3 167 4 1342, xz, xz, xq (.istore 5) 2, xz, xqv (.iinc 3 1) 3 1, xz, xz, xqa (.goto (-31)) 3 40, xz, xz, xq (.aload_n 0) 1, xqv (.iconst 2) 1 2, xq (.aload_n 0) 1, xqv (.bipush 91) 2 91, xz, xqv (.bipush 93) 2 93, xz, xqc (.invokevirtual 229) 3 166 3 1358, xz, xz, xqv (.iconst 0) 1 0, xqc (.invokevirtual 232) 3 167 4 1342, xz, xz, xq (.istore_n 3) 1, xq .return_ 1]
-- TermReaderModel.begin()V
def xc_173 : List (Option xRow) := [xq (.aload_n 0) 1, xqc (.getfield 220) 3 7 29 1143, xz, xz, xqv (.iconst 1) 1 1, xq .isub 1, xq (.istore_n 1) 1, xq (.aload_n 0) 1, xq (.aload_n 0) 1, xqc (.getfield 236) 3 7 27 1141, xz, xz, xqc (.invokevirtual 239) 3 157 2 1296, xz, xz, xq (.aload_n 0) 1, xq (.aload_n 0) 1, xqc (.getfield 182) 3 7 22 1136, xz, xz, xqc (.putfield 236) 3 7 27 1141, xz, xz, xq (.aload_n 0) 1, xqc (.getfield 179) 3 7 20 1134, xz, xz, xqv (.iconst 1) 1 1, xqa (.if_icmp .ne 17) 3 45, xz, xz, xq (.aload_n 0) 1, xqv (.iconst 1) 1 1, xq (.aload_n 0) 1, xqc (.getfield 173) 3 7 23 1137, xz, xz, xqv (.iconst 0) 1 0, xqc (.invokevirtual 232) 3 167 4 1342, xz, xz, xq (.istore_n 2) 1, xqa (.goto 169) 3 211, xz, xz, xq (.aload_n 0) 1, xqc (.getfield 179) 3 7 20 1134, xz, xz, xqv (.iconst 2) 1 2, xqa (.if_icmp .ne 17) 3 67, xz, xz, xq (.aload_n 0) 1, xqv (.iconst 0) 1 0, xq (.aload_n 0) 1, xqc (.invokevirtual 242) 3 171 1 1346, xz, xz, xqv (.iconst 0) 1 0, xqc (.invokevirtual 232) 3 167 4 1342, xz, xz, xq (.istore_n 2) 1, xqa (.goto 147) 3 211, xz, xz, xq (.aload_n 0) 1, xqc (.getfield 179) 3 7 20 1134, xz, xz, xqv (.iconst 3) 1 3, xqa (.if_icmp .ne 10) 3 82, xz, xz, xq (.aload_n 0) 1, xqc (.invokevirtual 245) 3 172 1 1354, xz, xz, xqa (.goto 132) 3 211, xz, xz, xq (.aload_n 0) 1, xqc (.getfield 179) 3 7 20 1134, xz, xz, xqv (.iconst 4) 1 4, xqa (.if_icmp .ne 9) 3 96, xz, xz, xq (.aload_n 0) 1, xq (.iload_n 1) 1, xqc (.invokevirtual 248) 3 174 2 1362, xz, xz, xq .return_ 1, xq (.aload_n 0) 1, xqc (.getfield 179) 3 7 20 1134, xz, xz, xqv (.iconst 5) 1 5, xqa (.if_icmp .ne 22) 3 123, xz, xz, xq (.aload_n 0) 1, xqc (.getfield 173) 3 7 23 1137, xz, xz, xqv (.bipush 40) 2 40, xz, xqa (.if_icmp .ne 13) 3 123, xz, xz, xq (.aload_n 0) 1, xqv (.sipush 1200) 3 1200, xz, xz, xqv (.iconst 1) 1 1, xqv (.iconst 0) 1 0, xqc (.invokevirtual 251) 3 169 4 1288, xz, xz, xq .return_ 1, xq (.aload_n 0) 1, xqc (.getfield 179) 3 7 20 1134, xz, xz, xqv (.iconst 5) 1 5, xqa (.if_icmp .ne 36) 3 164, xz, xz, xq (.aload_n 0) 1, xqc (.getfield 173) 3 7 23 1137, xz, xz, xqv (.bipush 91) 2 91, xz, xqa (.if_icmp .ne 27) 3 164, xz, xz, xq (.aload_n 0) 1, xqv (.iconst 3) 1 3, xq (.aload_n 0) 1, xqv (.bipush 46) 2 46, xz, xqv (.iconst 0) 1 0, xqc (.invokevirtual 229) 3 166 3 1358, xz, xz, xqv (.iconst 2) 1 2, xqc (.invokevirtual 232) 3 167 4 1342, xz, xz, xq (.istore_n 2) 1, xq (.aload_n 0) 1, xqv (.sipush 999) 3 999, xz, xz, xqv (.iconst 3) 1 3, xqv (.iconst 0) 1 0, xqc (.invokevirtual 251) 3 169 4 1288, xz, xz, xq .return_ 1, xq (.aload_n 0) 1, xqc (.getfield 179) 3 7 20 1134, xz, xz, xqv (.iconst 5) 1 5, xqa (.if_icmp .ne 37) 3 206, xz, xz, xq (.aload_n 0) 1, xqc (.getfield 173) 3 7 23 1137, xz, xz, xqv (.bipush 123) 2 123, xz, xqa (.if_icmp .ne 28) 3 206, xz, xz, xq (.aload_n 0) 1, xqv (.iconst 3) 1 3, xq (.aload_n 0) 1, xqv (.bipush 123) 2 123, xz, xqv (.bipush 125) 2 125, xz, xqc (.invokevirtual 229) 3 166 3 1358, xz, xz, xqv (.iconst 1) 1 1, xqc (.invokevirtual 232) 3 167 4 1342, xz, xz, xq (.istore_n 2) 1, xq (.aload_n 0) 1, xqv (.sipush 1200) 3 1200, xz, xz, xqv (.iconst 5) 1 5, xqv (.iconst 0) 1 0, xqc (.invokevirtual 251) 3 169 4 1288, xz, xz, xq .return_ 1, xq (.aload_n 0) 1, xqv (.iconst 1) 1 1, xqc (.putfield 223) 3 7 28 1142, xz, xz, xq (.aload_n 0) 1, xqc (.getfield 59) 3 7 32 1146, xz, xz, xq (.iload_n 1) 1, xqv (.iconst 0) 1 0, xq .iastore 1, xq .return_ 1]
-- TermReaderModel.nameBegins(I)V
def xc_174 : List (Option xRow) := [xq (.aload_n 0) 1, xqc (.getfield 169) 3 7 24 1138, xz, xz, xqa (.ifCond .ne 40) 3 44, xz, xz, xq (.aload_n 0) 1, xqc (.getfield 153) 3 7 25 1139, xz, xz, xqv (.iconst 1) 1 1, xqa (.if_icmp .ne 32) 3 44, xz, xz, xq (.aload_n 0) 1, xqc (.getfield 50) 3 7 26 1140, xz, xz, xqv (.iconst 0) 1 0, xq .iaload 1, xqv (.bipush 45) 2 45, xz, xqa (.if_icmp .ne 21) 3 44, xz, xz, xq (.aload_n 0) 1, xq (.aload_n 0) 1, xqc (.getfield 182) 3 7 22 1136, xz, xz, xqc (.invokevirtual 149) 3 153 2 1304, xz, xz, xqc (.invokestatic 159) 3 148 1 1315, xz, xz, xqa (.ifCond .eq 7) 3 44, xz, xz, xqv (.iconst 1) 1 1, xqa (.goto 4) 3 45, xz, xz, xqv (.iconst 0) 1 0, xq (.istore_n 2) 1, xq (.iload_n 2) 1, xqa (.ifCond .eq 63) 3 110, xz, xz, xq (.aload_n 0) 1, xq (.aload_n 0) 1, xqc (.getfield 236) 3 7 27 1141, xz, xz, xqc (.invokevirtual 239) 3 157 2 1296, xz, xz, xq (.aload_n 0) 1, xq (.aload_n 0) 1, xqc (.getfield 182) 3 7 22 1136, xz, xz, xqc (.putfield 236) 3 7 27 1141, xz, xz, xq (.aload_n 0) 1, xq (.aload_n 0) 1, xqc (.getfield 223) 3 7 28 1142, xz, xz, xqa (.ifCond .ne 11) 3 82, xz, xz, xq (.aload_n 0) 1, xqc (.getfield 179) 3 7 20 1134, xz, xz, xqv (.iconst 1) 1 1, xqa (.if_icmp .eq 7) 3 86, xz, xz, xqv (.iconst 1) 1 1, xqa (.goto 4) 3 87, xz, xz, xqv (.iconst 0) 1 0, xqc (.putfield 223) 3 7 28 1142, xz, xz, xq (.aload_n 0) 1, xqv (.iconst 1) 1 1, xq (.aload_n 0) 1, xqc (.getfield 173) 3 7 23 1137, xz, xz, xq .ineg 1, xqv (.iconst 0) 1 0, xqc (.invokevirtual 232) 3 167 4 1342, xz, xz, xq (.istore_n 3) 1, xq (.aload_n 0) 1, xqc (.getfield 59) 3 7 32 1146, xz, xz, xq (.iload_n 1) 1, xqv (.iconst 0) 1 0, xq .iastore 1, xq .return_ 1, xq (.aload_n 0) 1, xqc (.invokevirtual 214) 3 165 1 1350, xz, xz, xq (.istore_n 3) 1, xq (.aload_n 0) 1, xqc (.invokevirtual 255) 3 163 1 1366, xz, xz, xq (.lstore 4) 2, xz, xq (.aload_n 0) 1, xq (.aload_n 0) 1, xqc (.getfield 182) 3 7 22 1136, xz, xz, xqc (.invokevirtual 149) 3 153 2 1304, xz, xz, xqv (.bipush 40) 2 40, xz, xqa (.if_icmp .ne 33) 3 164, xz, xz, xq (.aload_n 0) 1, xq (.aload_n 0) 1, xqc (.getfield 182) 3 7 22 1136, xz, xz, xqv (.iconst 1) 1 1, xq .iadd 1, xqc (.putfield 236) 3 7 27 1141, xz, xz, xq (.aload_n 0) 1, xqv (.iconst 3) 1 3, xq (.iload_n 3) 1, xqv (.iconst 0) 1 0, xqc (.invokevirtual 232) 3 167 4 1342, xz, xz, xq (.istore 6) 2, xz, xq (.aload_n 0) 1, xqv (.sipush 999) 3 999, xz, xz, xqv (.iconst 2) 1 2, xq (.iload 6) 2, xz, xqc (.invokevirtual 251) 3 169 4 1288, xz, xz, xq .return_ 1, xq (.aload_n 0) 1, xq (.lload 4) 2, xz, xqc (.invokevirtual 259) 3 137 2 1371, xz, xz, xq (.istore 6) 2, xz, xq (.iload 6) 2, xz, xqa (.ifCond .le 169) 3 343, xz, xz, xq (.iload 6) 2, xz, xq (.aload_n 0) 1, xqc (.getfield 53) 3 7 30 1144, xz, xz, xq (.iload_n 1) 1, xq .iaload 1, xqa (.if_icmp .gt 158) 3 343, xz, xz, xq (.aload_n 0) 1, xq (.aload_n 0) 1, xqc (.getfield 236) 3 7 27 1141, xz, xz, xqc (.invokevirtual 239) 3 157 2 1296, xz, xz, xq (.aload_n 0) 1, xqc (.getfield 169) 3 7 24 1138, xz, xz, xqa (.ifCond .ne 40) 3 240, xz, xz, xq (.aload_n 0) 1, xqc (.getfield 153) 3 7 25 1139, xz, xz, xqv (.iconst 1) 1 1, xqa (.if_icmp .ne 32) 3 240, xz, xz, xq (.aload_n 0) 1, xqc (.getfield 50) 3 7 26 1140, xz, xz, xqv (.iconst 0) 1 0, xq .iaload 1, xqv (.bipush 45) 2 45, xz, xqa (.if_icmp .ne 21) 3 240, xz, xz, xq (.aload_n 0) 1, xq (.aload_n 0) 1, xqc (.getfield 182) 3 7 22 1136, xz, xz, xqc (.invokevirtual 149) 3 153 2 1304, xz, xz, xqc (.invokestatic 159) 3 148 1 1315, xz, xz, xqa (.ifCond .eq 7) 3 240, xz, xz, xqv (.iconst 1) 1 1, xqa (.goto 4) 3 241, xz, xz, xqv (.iconst 0) 1 0, xq (.istore 7) 2, xz, xq (.aload_n 0) 1, xqc (.getfield 179) 3 7 20 1134, xz, xz, xqv (.iconst 4) 1 4, xqa (.if_icmp .ne 56) 3 304, xz, xz, xq (.aload_n 0) 1, xq (.aload_n 0) 1, xqc (.getfield 182) 3 7 22 1136, xz, xz, xqc (.invokevirtual 149) 3 153 2 1304, xz, xz, xqv (.bipush 40) 2 40, xz, xqa (.if_icmp .eq 43) 3 304, xz, xz, xq (.iload 7) 2, xz, xqa (.ifCond .ne 38) 3 304, xz, xz, xq (.aload_n 0) 1, xq (.aload_n 0) 1, xqc (.invokevirtual 255) 3 163 1 1366, xz, xz, xqc (.invokevirtual 108) 3 139 2 1375, xz, xz, xq (.aload_n 0) 1, xq (.aload_n 0) 1, xqc (.invokevirtual 255) 3 163 1 1366, xz, xz, xqc (.invokevirtual 111) 3 140 2 1380, xz, xz, xq .iadd 1, xqa (.ifCond .le 18) 3 304, xz, xz, xq (.aload_n 0) 1, xq (.aload_n 0) 1, xqc (.invokevirtual 255) 3 163 1 1366, xz, xz, xqc (.invokevirtual 259) 3 137 2 1371, xz, xz, xqa (.ifCond .ne 7) 3 304, xz, xz, xqv (.iconst 1) 1 1, xqa (.goto 4) 3 305, xz, xz, xqv (.iconst 0) 1 0, xq (.istore 8) 2, xz, xq (.aload_n 0) 1, xqc (.invokevirtual 262) 3 170 1 1384, xz, xz, xqa (.ifCond .eq 32) 3 343, xz, xz, xq (.iload 8) 2, xz, xqa (.ifCond .ne 27) 3 343, xz, xz, xq (.aload_n 0) 1, xqv (.iconst 3) 1 3, xq (.iload_n 3) 1, xqv (.iconst 1) 1 1, xqc (.invokevirtual 232) 3 167 4 1342, xz, xz, xq (.istore 9) 2, xz, xq (.aload_n 0) 1, xq (.aload_n 0) 1, xq (.lload 4) 2, xz, xqc (.invokevirtual 266) 3 144 2 1388, xz, xz, xqv (.bipush 6) 2 6, xz, xq (.iload 6) 2, xz, xqc (.invokevirtual 251) 3 169 4 1288, xz, xz, xq .return_ 1, xq (.aload_n 0) 1, xqv (.iconst 2) 1 2, xq (.iload_n 3) 1, xqv (.iconst 0) 1 0, xqc (.invokevirtual 232) 3 167 4 1342, xz, xz, xq (.istore 7) 2, xz, xq (.aload_n 0) 1, xqc (.getfield 59) 3 7 32 1146, xz, xz, xq (.iload_n 1) 1, xqv (.iconst 0) 1 0, xq .iastore 1, xq .return_ 1]
-- TermReaderModel.goOn()V
def xc_175 : List (Option xRow) := [xq (.aload_n 0) 1, xqc (.getfield 220) 3 7 29 1143, xz, xz, xqv (.iconst 1) 1 1, xq .isub 1, xq (.istore_n 1) 1, xq (.aload_n 0) 1, xq (.aload_n 0) 1, xqc (.getfield 236) 3 7 27 1141, xz, xz, xqc (.invokevirtual 239) 3 157 2 1296, xz, xz, xq (.aload_n 0) 1, xqc (.getfield 179) 3 7 20 1134, xz, xz, xqv (.iconst 5) 1 5, xqa (.if_icmp .ne 16) 3 36, xz, xz, xq (.aload_n 0) 1, xqc (.getfield 173) 3 7 23 1137, xz, xz, xqv (.bipush 44) 2 44, xz, xqa (.if_icmp .ne 7) 3 36, xz, xz, xqv (.iconst 1) 1 1, xqa (.goto 4) 3 37, xz, xz, xqv (.iconst 0) 1 0, xq (.istore_n 2) 1, xq (.iload_n 2) 1, xqa (.ifCond .eq 9) 3 48, xz, xz, xqk (.ldc2_w 102) 3 0 0 1379 44, xz, xz, xqa (.goto 21) 3 66, xz, xz, xq (.aload_n 0) 1, xqc (.getfield 179) 3 7 20 1134, xz, xz, xqv (.iconst 4) 1 4, xqa (.if_icmp .ne 10) 3 63, xz, xz, xq (.aload_n 0) 1, xqc (.invokevirtual 255) 3 163 1 1366, xz, xz, xqa (.goto 6) 3 66, xz, xz, xqk (.ldc2_w 206) 3 0 0 1370 (-1), xz, xz, xq (.lstore_n 3) 1, xq (.aload_n 0) 1, xqc (.getfield 182) 3 7 22 1136, xz, xz, xq (.istore 5) 2, xz, xq (.aload_n 0) 1, xq (.lload_n 3) 1, xqc (.invokevirtual 108) 3 139 2 1375, xz, xz, xq (.istore 6) 2, xz, xq (.iload 6) 2, xz, xqa (.ifCond .le 102) 3 184, xz, xz, xq (.iload 6) 2, xz, xq (.aload_n 0) 1, xqc (.getfield 53) 3 7 30 1144, xz, xz, xq (.iload_n 1) 1, xq .iaload 1, xqa (.if_icmp .gt 91) 3 184, xz, xz, xq (.aload_n 0) 1, xqc (.getfield 59) 3 7 32 1146, xz, xz, xq (.iload_n 1) 1, xq .iaload 1, xq (.aload_n 0) 1, xq (.lload_n 3) 1, xqc (.invokevirtual 114) 3 141 2 1396, xz, xz, xqa (.if_icmp .gt 77) 3 184, xz, xz, xq (.iload_n 2) 1, xqa (.ifCond .eq 13) 3 124, xz, xz, xq (.aload_n 0) 1, xqv (.bipush 44) 2 44, xz, xqv (.iconst 0) 1 0, xqc (.invokevirtual 229) 3 166 3 1358, xz, xz, xqa (.goto 7) 3 128, xz, xz, xq (.aload_n 0) 1, xqc (.invokevirtual 214) 3 165 1 1350, xz, xz, xq (.istore 7) 2, xz, xq (.aload_n 0) 1, xq (.iload 5) 2, xz, xqc (.invokevirtual 239) 3 157 2 1296, xz, xz, xq (.aload_n 0) 1, xqc (.invokevirtual 262) 3 170 1 1384, xz, xz, xqa (.ifCond .eq 36) 3 176, xz, xz, xq (.aload_n 0) 1, xq (.aload_n 0) 1, xqc (.getfield 56) 3 7 31 1145, xz, xz, xq (.iload_n 1) 1, xq .iaload 1, xq (.iload 7) 2, xz, xqv (.iconst 2) 1 2, xqc (.invokevirtual 269) 3 168 4 1400, xz, xz, xq (.aload_n 0) 1, xq (.iload 5) 2, xz, xqc (.putfield 236) 3 7 27 1141, xz, xz, xq (.aload_n 0) 1, xq (.aload_n 0) 1, xq (.lload_n 3) 1, xqc (.invokevirtual 272) 3 142 2 1404, xz, xz, xqv (.bipush 7) 2 7, xz, xq (.iload 6) 2, xz, xqc (.invokevirtual 251) 3 169 4 1288, xz, xz, xq .return_ 1, xq (.aload_n 0) 1, xq (.aload_n 0) 1, xqc (.getfield 236) 3 7 27 1141, xz, xz, xqc (.invokevirtual 239) 3 157 2 1296, xz, xz, xq (.aload_n 0) 1, xq (.lload_n 3) 1, xqc (.invokevirtual 111) 3 140 2 1380, xz, xz, xq (.istore 7) 2, xz, xq (.iload 7) 2, xz, xqa (.ifCond .le 58) 3 251, xz, xz, xq (.iload 7) 2, xz, xq (.aload_n 0) 1, xqc (.getfield 53) 3 7 30 1144, xz, xz, xq (.iload_n 1) 1, xq .iaload 1, xqa (.if_icmp .gt 47) 3 251, xz, xz, xq (.aload_n 0) 1, xqc (.getfield 59) 3 7 32 1146, xz, xz, xq (.iload_n 1) 1, xq .iaload 1, xq (.aload_n 0) 1, xq (.lload_n 3) 1, xqc (.invokevirtual 114) 3 141 2 1396, xz, xz, xqa (.if_icmp .gt 33) 3 251, xz, xz, xq (.aload_n 0) 1, xq (.aload_n 0) 1, xqc (.getfield 56) 3 7 31 1145, xz, xz, xq (.iload_n 1) 1, xq .iaload 1, xq (.aload_n 0) 1, xqc (.invokevirtual 214) 3 165 1 1350, xz, xz, xqv (.iconst 1) 1 1, xqc (.invokevirtual 269) 3 168 4 1400, xz, xz, xq (.aload_n 0) 1, xq (.iload 5) 2, xz, xqc (.putfield 236) 3 7 27 1141, xz, xz, xq (.aload_n 0) 1, xqc (.getfield 59) 3 7 32 1146, xz, xz, xq (.iload_n 1) 1, xq (.iload 7) 2, xz, xq .iastore 1, xq .return_ 1, xq (.aload_n 0) 1, xq (.aload_n 0) 1, xqc (.getfield 223) 3 7 28 1142, xz, xz, xqa (.ifCond .ne 12) 3 268, xz, xz, xq (.aload_n 0) 1, xqc (.getfield 179) 3 7 20 1134, xz, xz, xqv (.bipush 7) 2 7, xz, xqa (.if_icmp .ne 7) 3 272, xz, xz, xqv (.iconst 1) 1 1, xqa (.goto 4) 3 273, xz, xz, xqv (.iconst 0) 1 0, xqc (.putfield 223) 3 7 28 1142, xz, xz, xq (.aload_n 0) 1, xq .dup 1, xqc (.getfield 220) 3 7 29 1143, xz, xz, xqv (.iconst 1) 1 1, xq .isub 1, xqc (.putfield 220) 3 7 29 1143, xz, xz, xq (.aload_n 0) 1, xqc (.getfield 220) 3 7 29 1143, xz, xz, xqa (.ifCond .le 26) 3 316, xz, xz, xq (.aload_n 0) 1, xqc (.getfield 223) 3 7 28 1142, xz, xz, xqa (.ifCond .ne 19) 3 316, xz, xz, xq (.aload_n 0) 1, xq (.aload_n 0) 1, xqc (.getfield 62) 3 7 33 1147, xz, xz, xq (.iload_n 1) 1, xq .iaload 1, xq (.aload_n 0) 1, xqc (.getfield 65) 3 7 34 1148, xz, xz, xq (.iload_n 1) 1, xq .iaload 1, xqc (.invokevirtual 275) 3 176 3 1408, xz, xz, xq .return_ 1]
-- TermReaderModel.whole(II)V
def xc_176 : List (Option xRow) := [xq (.aload_n 0) 1, xqc (.getfield 220) 3 7 29 1143, xz, xz, xqv (.iconst 1) 1 1, xq .isub 1, xq (.istore_n 3) 1, xq (.iload_n 1) 1, xqv (.bipush 6) 2 6, xz, xqa (.if_icmp .eq 9) 3 19, xz, xz, xq (.iload_n 1) 1, xqv (.bipush 7) 2 7, xz, xqa (.if_icmp .ne 11) 3 27, xz, xz, xq (.aload_n 0) 1, xqc (.getfield 59) 3 7 32 1146, xz, xz, xq (.iload_n 3) 1, xq (.iload_n 2) 1, xq .iastore 1, xq .return_ 1, xq (.aload_n 0) 1, xq (.aload_n 0) 1, xqc (.getfield 236) 3 7 27 1141, xz, xz, xqc (.invokevirtual 239) 3 157 2 1296, xz, xz, xq (.aload_n 0) 1, xq (.aload_n 0) 1, xqc (.getfield 182) 3 7 22 1136, xz, xz, xqc (.putfield 236) 3 7 27 1141, xz, xz, xq (.aload_n 0) 1, xqc (.getfield 179) 3 7 20 1134, xz, xz, xqv (.iconst 5) 1 5, xqa (.if_icmp .ne 10) 3 58, xz, xz, xq (.aload_n 0) 1, xqc (.getfield 173) 3 7 23 1137, xz, xz, xqa (.goto 4) 3 59, xz, xz, xqv (.iconst 0) 1 0, xq (.istore 4) 2, xz, xq (.aload_n 0) 1, xqc (.getfield 59) 3 7 32 1146, xz, xz, xq (.iload_n 3) 1, xqv (.iconst 0) 1 0, xq .iastore 1, xq (.iload_n 1) 1, xqv (.iconst 1) 1 1, xqa (.if_icmp .eq 13) 3 83, xz, xz, xq (.iload_n 1) 1, xqv (.iconst 4) 1 4, xqa (.if_icmp .eq 8) 3 83, xz, xz, xq (.iload_n 1) 1, xqv (.iconst 5) 1 5, xqa (.if_icmp .ne 42) 3 122, xz, xz, xq (.aload_n 0) 1, xq (.iload 4) 2, xz, xq (.iload_n 1) 1, xqv (.iconst 1) 1 1, xqa (.if_icmp .ne 8) 3 96, xz, xz, xqv (.bipush 41) 2 41, xz, xqa (.goto 15) 3 108, xz, xz, xq (.iload_n 1) 1, xqv (.iconst 4) 1 4, xqa (.if_icmp .ne 8) 3 106, xz, xz, xqv (.bipush 93) 2 93, xz, xqa (.goto 5) 3 108, xz, xz, xqv (.bipush 125) 2 125, xz, xqa (.if_icmp .eq 7) 3 115, xz, xz, xqv (.iconst 1) 1 1, xqa (.goto 4) 3 116, xz, xz, xqv (.iconst 0) 1 0, xqc (.putfield 223) 3 7 28 1142, xz, xz, xqa (.goto 162) 3 281, xz, xz, xq (.iload_n 1) 1, xqv (.iconst 2) 1 2, xqa (.if_icmp .ne 73) 3 197, xz, xz, xq (.aload_n 0) 1, xqc (.getfield 47) 3 7 19 1133, xz, xz, xq (.iload_n 2) 1, xq .dup2 1, xq .iaload 1, xqv (.iconst 1) 1 1, xq .iadd 1, xq .iastore 1, xq (.aload_n 0) 1, xq (.iload 4) 2, xz, xqv (.bipush 41) 2 41, xz, xqa (.if_icmp .eq 10) 3 152, xz, xz, xq (.iload 4) 2, xz, xqv (.bipush 44) 2 44, xz, xqa (.if_icmp .ne 14) 3 163, xz, xz, xq (.aload_n 0) 1, xqc (.getfield 47) 3 7 19 1133, xz, xz, xq (.iload_n 2) 1, xq .iaload 1, xqv (.bipush 6) 2 6, xz, xqa (.if_icmp .le 7) 3 167, xz, xz, xqv (.iconst 1) 1 1, xqa (.goto 4) 3 168, xz, xz, xqv (.iconst 0) 1 0, xqc (.putfield 223) 3 7 28 1142, xz, xz, xq (.iload 4) 2, xz, xqv (.bipush 44) 2 44, xz, xqa (.if_icmp .ne 106) 3 281, xz, xz, xq (.aload_n 0) 1, xqc (.getfield 223) 3 7 28 1142, xz, xz, xqa (.ifCond .ne 99) 3 281, xz, xz, xq (.aload_n 0) 1, xqv (.sipush 999) 3 999, xz, xz, xqv (.iconst 2) 1 2, xq (.iload_n 2) 1, xqc (.invokevirtual 251) 3 169 4 1288, xz, xz, xqa (.goto 87) 3 281, xz, xz, xq (.iload 4) 2, xz, xqv (.bipush 44) 2 44, xz, xqa (.if_icmp .ne 30) 3 231, xz, xz, xq (.aload_n 0) 1, xqv (.iconst 3) 1 3, xq (.aload_n 0) 1, xqv (.bipush 46) 2 46, xz, xqv (.iconst 0) 1 0, xqc (.invokevirtual 229) 3 166 3 1358, xz, xz, xqv (.iconst 2) 1 2, xqc (.invokevirtual 232) 3 167 4 1342, xz, xz, xq (.istore 5) 2, xz, xq (.aload_n 0) 1, xqv (.sipush 999) 3 999, xz, xz, xqv (.iconst 3) 1 3, xqv (.iconst 0) 1 0, xqc (.invokevirtual 251) 3 169 4 1288, xz, xz, xqa (.goto 53) 3 281, xz, xz, xq (.iload 4) 2, xz, xqv (.bipush 124) 2 124, xz, xqa (.if_icmp .ne 15) 3 250, xz, xz, xq (.aload_n 0) 1, xqv (.sipush 999) 3 999, xz, xz, xqv (.iconst 4) 1 4, xqv (.iconst 0) 1 0, xqc (.invokevirtual 251) 3 169 4 1288, xz, xz, xqa (.goto 34) 3 281, xz, xz, xq (.iload 4) 2, xz, xqv (.bipush 93) 2 93, xz, xqa (.if_icmp .ne 22) 3 276, xz, xz, xq (.aload_n 0) 1, xqv (.iconst 2) 1 2, xq (.aload_n 0) 1, xqv (.bipush 91) 2 91, xz, xqv (.bipush 93) 2 93, xz, xqc (.invokevirtual 229) 3 166 3 1358, xz, xz, xqv (.iconst 0) 1 0, xqc (.invokevirtual 232) 3 167 4 1342, xz, xz, xq (.istore 5) 2, xz, xqa (.goto 8) 3 281, xz, xz, xq (.aload_n 0) 1, xqv (.iconst 1) 1 1, xqc (.putfield 223) 3 7 28 1142, xz, xz, xq .return_ 1]
-- TermReaderModel.read()I
def xc_177 : List (Option xRow) := [xq (.aload_n 0) 1, xqv (.iconst 0) 1 0, xqc (.putfield 91) 3 7 0 1114, xz, xz, xq (.aload_n 0) 1, xqc (.getfield 217) 3 7 16 1130, xz, xz, xq (.istore_n 1) 1, xq (.aload_n 0) 1, xqc (.getfield 208) 3 7 9 1123, xz, xz, xq (.istore_n 2) 1, xq (.aload_n 0) 1, xqc (.getfield 211) 3 7 12 1126, xz, xz, xq (.istore_n 3) 1, xq (.aload_n 0) 1, xqv (.iconst 0) 1 0, xqc (.putfield 236) 3 7 27 1141, xz, xz, xq (.aload_n 0) 1, xqv (.iconst 0) 1 0, xqc (.putfield 223) 3 7 28 1142, xz, xz, xq (.aload_n 0) 1, xqv (.iconst 0) 1 0, xqc (.putfield 220) 3 7 29 1143, xz, xz, xq (.aload_n 0) 1, xqv (.iconst 0) 1 0, xqc (.putfield 226) 3 7 35 1149, xz, xz, xq (.aload_n 0) 1, xqv (.sipush 1200) 3 1200, xz, xz, xqv (.iconst 0) 1 0, xqv (.iconst 0) 1 0, xqc (.invokevirtual 251) 3 169 4 1288, xz, xz, xq (.aload_n 0) 1, xqc (.getfield 220) 3 7 29 1143, xz, xz, xqa (.ifCond .le 38) 3 91, xz, xz, xq (.aload_n 0) 1, xqc (.getfield 223) 3 7 28 1142, xz, xz, xqa (.ifCond .ne 31) 3 91, xz, xz, xq (.aload_n 0) 1, xqc (.getfield 59) 3 7 32 1146, xz, xz, xq (.aload_n 0) 1, xqc (.getfield 220) 3 7 29 1143, xz, xz, xqv (.iconst 1) 1 1, xq .isub 1, xq .iaload 1, xqa (.ifCond .ge 10) 3 84, xz, xz, xq (.aload_n 0) 1, xqc (.invokevirtual 278) 3 173 1 1292, xz, xz, xqa (.goto (-32)) 3 49, xz, xz, xq (.aload_n 0) 1, xqc (.invokevirtual 281) 3 175 1 1392, xz, xz, xqa (.goto (-39)) 3 49, xz, xz, xq (.aload_n 0) 1, xq (.aload_n 0) 1, xqc (.getfield 236) 3 7 27 1141, xz, xz, xqc (.invokevirtual 239) 3 157 2 1296, xz, xz, xq (.aload_n 0) 1, xq (.aload_n 0) 1, xqc (.getfield 223) 3 7 28 1142, xz, xz, xqa (.ifCond .ne 10) 3 114, xz, xz, xq (.aload_n 0) 1, xqc (.getfield 179) 3 7 20 1134, xz, xz, xqa (.ifCond .eq 7) 3 118, xz, xz, xqv (.iconst 1) 1 1, xqa (.goto 4) 3 119, xz, xz, xqv (.iconst 0) 1 0, xqc (.putfield 223) 3 7 28 1142, xz, xz, xq (.aload_n 0) 1, xq (.aload_n 0) 1, xqc (.getfield 223) 3 7 28 1142, xz, xz, xqa (.ifCond .ne 17) 3 144, xz, xz, xq (.aload_n 0) 1, xq (.iload_n 1) 1, xq (.aload_n 0) 1, xqc (.getfield 217) 3 7 16 1130, xz, xz, xqc (.invokevirtual 284) 3 197 3 1412, xz, xz, xqv (.bipush 14) 2 14, xz, xqa (.if_icmp .le 7) 3 148, xz, xz, xqv (.iconst 1) 1 1, xqa (.goto 4) 3 149, xz, xz, xqv (.iconst 0) 1 0, xqc (.putfield 223) 3 7 28 1142, xz, xz, xq (.aload_n 0) 1, xqc (.getfield 287) 3 7 14 1128, xz, xz, xqv (.bipush 40) 2 40, xz, xqa (.if_icmp .ge 17) 3 175, xz, xz, xq (.aload_n 0) 1, xqc (.getfield 217) 3 7 16 1130, xz, xz, xqv (.sipush 600) 3 600, xz, xz, xqa (.if_icmp .gt 7) 3 175, xz, xz, xqv (.iconst 1) 1 1, xqa (.goto 4) 3 176, xz, xz, xqv (.iconst 0) 1 0, xq (.istore 4) 2, xz, xq (.aload_n 0) 1, xqc (.getfield 223) 3 7 28 1142, xz, xz, xqa (.ifCond .ne 8) 3 190, xz, xz, xq (.iload 4) 2, xz, xqa (.ifCond .ne 47) 3 234, xz, xz, xq (.aload_n 0) 1, xq (.iload_n 1) 1, xqc (.putfield 217) 3 7 16 1130, xz, xz, xq (.aload_n 0) 1, xq (.iload_n 2) 1, xqc (.putfield 208) 3 7 9 1123, xz, xz, xq (.aload_n 0) 1, xq (.iload_n 3) 1, xqc (.putfield 211) 3 7 12 1126, xz, xz, xq (.aload_n 0) 1, xqc (.getfield 223) 3 7 28 1142, xz, xz, xqa (.ifCond .eq 8) 3 217, xz, xz, xq (.aload_n 0) 1, xqv (.iconst 0) 1 0, xqc (.putfield 142) 3 7 1 1115, xz, xz, xq (.aload_n 0) 1, xq (.aload_n 0) 1, xqc (.getfield 223) 3 7 28 1142, xz, xz, xqa (.ifCond .eq 7) 3 229, xz, xz, xqv (.iconst 1) 1 1, xqa (.goto 4) 3 230, xz, xz, xqv (.iconst 2) 1 2, xqc (.invokevirtual 290) 3 132 2 1420, xz, xz, xq .ireturn 1, xq (.aload_n 0) 1, xqc (.getfield 182) 3 7 22 1136, xz, xz, xq (.istore 5) 2, xz, xq (.iload 5) 2, xz, xq (.aload_n 0) 1, xqc (.getfield 142) 3 7 1 1115, xz, xz, xqa (.if_icmp .ge 28) 3 274, xz, xz, xq (.aload_n 0) 1, xqc (.getfield 7) 3 7 2 1116, xz, xz, xq (.iload 5) 2, xz, xq (.aload_n 0) 1, xqc (.getfield 182) 3 7 22 1136, xz, xz, xq .isub 1, xq (.aload_n 0) 1, xqc (.getfield 7) 3 7 2 1116, xz, xz, xq (.iload 5) 2, xz, xq .iaload 1, xq .iastore 1, xqv (.iinc 5 1) 3 1, xz, xz, xqa (.goto (-31)) 3 240, xz, xz, xq (.aload_n 0) 1, xq .dup 1, xqc (.getfield 142) 3 7 1 1115, xz, xz, xq (.aload_n 0) 1, xqc (.getfield 182) 3 7 22 1136, xz, xz, xq .isub 1, xqc (.putfield 142) 3 7 1 1115, xz, xz, xq (.aload_n 0) 1, xqc (.getfield 38) 3 7 15 1129, xz, xz, xq (.aload_n 0) 1, xqc (.getfield 287) 3 7 14 1128, xz, xz, xq (.iload_n 1) 1, xq .iastore 1, xq (.aload_n 0) 1, xq .dup 1, xqc (.getfield 287) 3 7 14 1128, xz, xz, xqv (.iconst 1) 1 1, xq .iadd 1, xqc (.putfield 287) 3 7 14 1128, xz, xz, xq (.aload_n 0) 1, xqc (.getfield 38) 3 7 15 1129, xz, xz, xq (.aload_n 0) 1, xqc (.getfield 287) 3 7 14 1128, xz, xz, xq (.aload_n 0) 1, xqc (.getfield 217) 3 7 16 1130, xz, xz, xq .iastore 1, xq (.aload_n 0) 1, xqc (.getfield 287) 3 7 14 1128, xz, xz, xqv (.iconst 1) 1 1, xq .isub 1, xq .ireturn 1]
-- TermReaderModel.isTerm(I)Z
def xc_178 : List (Option xRow) := [xq (.iload_n 1) 1, xqa (.ifCond .lt 15) 3 16, xz, xz, xq (.iload_n 1) 1, xq (.aload_n 0) 1, xqc (.getfield 287) 3 7 14 1128, xz, xz, xqa (.if_icmp .ge 7) 3 16, xz, xz, xqv (.iconst 1) 1 1, xqa (.goto 4) 3 17, xz, xz, xqv (.iconst 0) 1 0, xq .ireturn 1]
-- TermReaderModel.skip(I)I
def xc_179 : List (Option xRow) := [xqv (.iconst 1) 1 1, xq (.istore_n 2) 1, xq (.iload_n 1) 1, xq (.istore_n 3) 1, xq (.iload_n 2) 1, xqa (.ifCond .le 20) 3 25, xz, xz, xq (.iload_n 2) 1, xq (.aload_n 0) 1, xqc (.getfield 47) 3 7 19 1133, xz, xz, xq (.iload_n 3) 1, xq .iaload 1, xqv (.iconst 1) 1 1, xq .isub 1, xq .iadd 1, xq (.istore_n 2) 1, xqv (.iinc 3 1) 3 1, xz, xz, xqa (.goto (-18)) 3 4, xz, xz, xq (.iload_n 3) 1, xq .ireturn 1]
-- TermReaderModel.out(I)V
def xc_180 : List (Option xRow) := [xq (.aload_n 0) 1, xqc (.getfield 77) 3 7 41 1155, xz, xz, xq (.aload_n 0) 1, xqc (.getfield 293) 3 7 40 1154, xz, xz, xq (.iload_n 1) 1, xq .iastore 1, xq (.aload_n 0) 1, xq .dup 1, xqc (.getfield 293) 3 7 40 1154, xz, xz, xqv (.iconst 1) 1 1, xq .iadd 1, xqc (.putfield 293) 3 7 40 1154, xz, xz, xq .return_ 1]
-- TermReaderModel.later(II)V
def xc_181 : List (Option xRow) := [xq (.aload_n 0) 1, xqc (.getfield 71) 3 7 38 1152, xz, xz, xq (.aload_n 0) 1, xqc (.getfield 296) 3 7 37 1151, xz, xz, xq (.iload_n 1) 1, xq .iastore 1, xq (.aload_n 0) 1, xqc (.getfield 74) 3 7 39 1153, xz, xz, xq (.aload_n 0) 1, xqc (.getfield 296) 3 7 37 1151, xz, xz, xq (.iload_n 2) 1, xq .iastore 1, xq (.aload_n 0) 1, xq .dup 1, xqc (.getfield 296) 3 7 37 1151, xz, xz, xqv (.iconst 1) 1 1, xq .iadd 1, xqc (.putfield 296) 3 7 37 1151, xz, xz, xq .return_ 1]
-- TermReaderModel.digits(J)V
def xc_182 : List (Option xRow) := [xq (.lconst 1) 1, xq (.lstore_n 3) 1, xq (.lload_n 1) 1, xq (.lload_n 3) 1, xq .ldiv 1, xqk (.ldc2_w 299) 3 0 0 1476 9, xz, xz, xq .lcmp 1, xqa (.ifCond .le 12) 3 21, xz, xz, xq (.lload_n 3) 1, xqk (.ldc2_w 301) 3 0 0 1477 10, xz, xz, xq .lmul 1, xq (.lstore_n 3) 1, xqa (.goto (-16)) 3 2, xz, xz, xq (.lload_n 3) 1, xq (.lconst 0) 1, xq .lcmp 1, xqa (.ifCond .le 27) 3 51, xz, xz, xq (.aload_n 0) 1, xqv (.bipush 48) 2 48, xz, xq (.lload_n 1) 1, xq (.lload_n 3) 1, xq .ldiv 1, xqk (.ldc2_w 301) 3 0 0 1477 10, xz, xz, xq .lrem 1, xq .l2i 1, xq .iadd 1, xqc (.invokevirtual 303) 3 180 2 1432, xz, xz, xq (.lload_n 3) 1, xqk (.ldc2_w 301) 3 0 0 1477 10, xz, xz, xq .ldiv 1, xq (.lstore_n 3) 1, xqa (.goto (-27)) 3 21, xz, xz, xq .return_ 1]
-- TermReaderModel.isPlain(I)Z
def xc_183 : List (Option xRow) := [xq (.aload_n 0) 1, xqc (.getfield 32) 3 7 11 1125, xz, xz, xq (.iload_n 1) 1, xq .iaload 1, xq (.istore_n 2) 1, xq (.aload_n 0) 1, xqc (.getfield 29) 3 7 10 1124, xz, xz, xq (.iload_n 1) 1, xq .iaload 1, xq (.istore_n 3) 1, xq (.iload_n 2) 1, xqa (.ifCond .le 12) 3 27, xz, xz, xq (.aload_n 0) 1, xqc (.getfield 35) 3 7 13 1127, xz, xz, xq (.iload_n 3) 1, xq .iaload 1, xqa (.goto 4) 3 28, xz, xz, xqv (.iconst 0) 1 0, xq (.istore 4) 2, xz, xq (.iload_n 2) 1, xqv (.iconst 1) 1 1, xqa (.if_icmp .le 14) 3 46, xz, xz, xq (.aload_n 0) 1, xqc (.getfield 35) 3 7 13 1127, xz, xz, xq (.iload_n 3) 1, xqv (.iconst 1) 1 1, xq .iadd 1, xq .iaload 1, xqa (.goto 4) 3 47, xz, xz, xqv (.iconst 0) 1 0, xq (.istore 5) 2, xz, xq (.iload_n 2) 1, xqa (.ifCond .le 15) 3 65, xz, xz, xq (.iload 4) 2, xz, xqc (.invokestatic 119) 3 146 1 1262, xz, xz, xqa (.ifCond .eq 7) 3 65, xz, xz, xqv (.iconst 1) 1 1, xqa (.goto 4) 3 66, xz, xz, xqv (.iconst 0) 1 0, xq (.istore 6) 2, xz, xq (.iload_n 2) 1, xqa (.ifCond .le 7) 3 76, xz, xz, xqv (.iconst 1) 1 1, xqa (.goto 4) 3 77, xz, xz, xqv (.iconst 0) 1 0, xq (.istore 7) 2, xz, xqv (.iconst 0) 1 0, xq (.istore 8) 2, xz, xq (.iload 8) 2, xz, xq (.iload_n 2) 1, xqa (.if_icmp .ge 76) 3 161, xz, xz, xq (.aload_n 0) 1, xqc (.getfield 35) 3 7 13 1127, xz, xz, xq (.iload_n 3) 1, xq (.iload 8) 2, xz, xq .iadd 1, xq .iaload 1, xq (.istore 9) 2, xz, xq (.iload 6) 2, xz, xqa (.ifCond .eq 31) 3 132, xz, xz, xq (.iload 9) 2, xz, xqc (.invokestatic 119) 3 146 1 1262, xz, xz, xqa (.ifCond .ne 19) 3 128, xz, xz, xq (.iload 9) 2, xz, xqc (.invokestatic 156) 3 147 1 1308, xz, xz, xqa (.ifCond .ne 11) 3 128, xz, xz, xq (.iload 9) 2, xz, xqc (.invokestatic 159) 3 148 1 1315, xz, xz, xqa (.ifCond .eq 7) 3 132, xz, xz, xqv (.iconst 1) 1 1, xqa (.goto 4) 3 133, xz, xz, xqv (.iconst 0) 1 0, xq (.istore 6) 2, xz, xq (.iload 7) 2, xz, xqa (.ifCond .eq 15) 3 152, xz, xz, xq (.iload 9) 2, xz, xqc (.invokestatic 122) 3 145 1 1265, xz, xz, xqa (.ifCond .eq 7) 3 152, xz, xz, xqv (.iconst 1) 1 1, xqa (.goto 4) 3 153, xz, xz, xqv (.iconst 0) 1 0, xq (.istore 7) 2, xz, xqv (.iinc 8 1) 3 1, xz, xz, xqa (.goto (-76)) 3 82, xz, xz, xq (.iload_n 2) 1, xqv (.iconst 1) 1 1, xqa (.if_icmp .ne 10) 3 173, xz, xz, xq (.iload 4) 2, xz, xqv (.bipush 46) 2 46, xz, xqa (.if_icmp .eq 17) 3 187, xz, xz, xq (.iload 4) 2, xz, xqv (.bipush 47) 2 47, xz, xqa (.if_icmp .ne 14) 3 191, xz, xz, xq (.iload 5) 2, xz, xqv (.bipush 42) 2 42, xz, xqa (.if_icmp .ne 7) 3 191, xz, xz, xqv (.iconst 1) 1 1, xqa (.goto 4) 3 192, xz, xz, xqv (.iconst 0) 1 0, xq (.istore 8) 2, xz, xq (.iload 6) 2, xz, xqa (.ifCond .ne 65) 3 261, xz, xz, xq (.iload 7) 2, xz, xqa (.ifCond .eq 8) 3 209, xz, xz, xq (.iload 8) 2, xz, xqa (.ifCond .eq 55) 3 261, xz, xz, xq (.iload_n 2) 1, xqv (.iconst 1) 1 1, xqa (.if_icmp .ne 17) 3 228, xz, xz, xq (.iload 4) 2, xz, xqv (.bipush 33) 2 33, xz, xqa (.if_icmp .eq 43) 3 261, xz, xz, xq (.iload 4) 2, xz, xqv (.bipush 59) 2 59, xz, xqa (.if_icmp .eq 36) 3 261, xz, xz, xq (.iload_n 2) 1, xqv (.iconst 2) 1 2, xqa (.if_icmp .ne 35) 3 265, xz, xz, xq (.iload 4) 2, xz, xqv (.bipush 91) 2 91, xz, xqa (.if_icmp .ne 10) 3 247, xz, xz, xq (.iload 5) 2, xz, xqv (.bipush 93) 2 93, xz, xqa (.if_icmp .eq 17) 3 261, xz, xz, xq (.iload 4) 2, xz, xqv (.bipush 123) 2 123, xz, xqa (.if_icmp .ne 14) 3 265, xz, xz, xq (.iload 5) 2, xz, xqv (.bipush 125) 2 125, xz, xqa (.if_icmp .ne 7) 3 265, xz, xz, xqv (.iconst 1) 1 1, xqa (.goto 4) 3 266, xz, xz, xqv (.iconst 0) 1 0, xq .ireturn 1]
-- TermReaderModel.name(I)V
def xc_184 : List (Option xRow) := [xq (.aload_n 0) 1, xq (.iload_n 1) 1, xqc (.invokevirtual 306) 3 183 2 1440, xz, xz, xq (.istore_n 2) 1, xq (.iload_n 2) 1, xqa (.ifCond .ne 9) 3 16, xz, xz, xq (.aload_n 0) 1, xqv (.bipush 39) 2 39, xz, xqc (.invokevirtual 303) 3 180 2 1432, xz, xz, xqv (.iconst 0) 1 0, xq (.istore_n 3) 1, xq (.iload_n 3) 1, xq (.aload_n 0) 1, xqc (.getfield 32) 3 7 11 1125, xz, xz, xq (.iload_n 1) 1, xq .iaload 1, xqa (.if_icmp .ge 104) 3 129, xz, xz, xq (.aload_n 0) 1, xqc (.getfield 35) 3 7 13 1127, xz, xz, xq (.aload_n 0) 1, xqc (.getfield 29) 3 7 10 1124, xz, xz, xq (.iload_n 1) 1, xq .iaload 1, xq (.iload_n 3) 1, xq .iadd 1, xq .iaload 1, xq (.istore 4) 2, xz, xq (.iload 4) 2, xz, xqv (.bipush 10) 2 10, xz, xqa (.if_icmp .eq 28) 3 75, xz, xz, xq (.iload 4) 2, xz, xqv (.bipush 9) 2 9, xz, xqa (.if_icmp .eq 21) 3 75, xz, xz, xq (.iload_n 2) 1, xqa (.ifCond .ne 21) 3 79, xz, xz, xq (.iload 4) 2, xz, xqv (.bipush 92) 2 92, xz, xqa (.if_icmp .eq 10) 3 75, xz, xz, xq (.iload 4) 2, xz, xqv (.bipush 39) 2 39, xz, xqa (.if_icmp .ne 7) 3 79, xz, xz, xqv (.iconst 1) 1 1, xqa (.goto 4) 3 80, xz, xz, xqv (.iconst 0) 1 0, xq (.istore 5) 2, xz, xq (.iload 5) 2, xz, xqa (.ifCond .eq 9) 3 93, xz, xz, xq (.aload_n 0) 1, xqv (.bipush 92) 2 92, xz, xqc (.invokevirtual 303) 3 180 2 1432, xz, xz, xq (.aload_n 0) 1, xq (.iload 4) 2, xz, xqv (.bipush 10) 2 10, xz, xqa (.if_icmp .ne 8) 3 106, xz, xz, xqv (.bipush 110) 2 110, xz, xqa (.goto 17) 3 120, xz, xz, xq (.iload 4) 2, xz, xqv (.bipush 9) 2 9, xz, xqa (.if_icmp .ne 8) 3 118, xz, xz, xqv (.bipush 116) 2 116, xz, xqa (.goto 5) 3 120, xz, xz, xq (.iload 4) 2, xz, xqc (.invokevirtual 303) 3 180 2 1432, xz, xz, xqv (.iinc 3 1) 3 1, xz, xz, xqa (.goto (-108)) 3 18, xz, xz, xq (.iload_n 2) 1, xqa (.ifCond .ne 9) 3 139, xz, xz, xq (.aload_n 0) 1, xqv (.bipush 39) 2 39, xz, xqc (.invokevirtual 303) 3 180 2 1432, xz, xz, xq .return_ 1]
-- TermReaderModel.isNamed(IIII)Z
def xc_185 : List (Option xRow) := [xq (.aload_n 0) 1, xqc (.getfield 44) 3 7 18 1132, xz, xz, xq (.iload_n 1) 1, xq .iaload 1, xq (.istore 5) 2, xz, xq (.aload_n 0) 1, xqc (.getfield 47) 3 7 19 1133, xz, xz, xq (.iload_n 1) 1, xq .iaload 1, xq (.iload 4) 2, xz, xqa (.if_icmp .ne 84) 3 100, xz, xz, xq (.aload_n 0) 1, xqc (.getfield 41) 3 7 17 1131, xz, xz, xq (.iload_n 1) 1, xq .iaload 1, xqv (.iconst 2) 1 2, xqa (.if_icmp .eq 13) 3 39, xz, xz, xq (.aload_n 0) 1, xqc (.getfield 41) 3 7 17 1131, xz, xz, xq (.iload_n 1) 1, xq .iaload 1, xqv (.iconst 3) 1 3, xqa (.if_icmp .ne 64) 3 100, xz, xz, xq (.aload_n 0) 1, xqc (.getfield 32) 3 7 11 1125, xz, xz, xq (.iload 5) 2, xz, xq .iaload 1, xq (.iload_n 3) 1, xqa (.ifCond .le 7) 3 54, xz, xz, xqv (.iconst 2) 1 2, xqa (.goto 4) 3 55, xz, xz, xqv (.iconst 1) 1 1, xqa (.if_icmp .ne 45) 3 100, xz, xz, xq (.aload_n 0) 1, xqc (.getfield 35) 3 7 13 1127, xz, xz, xq (.aload_n 0) 1, xqc (.getfield 29) 3 7 10 1124, xz, xz, xq (.iload 5) 2, xz, xq .iaload 1, xq .iaload 1, xq (.iload_n 2) 1, xqa (.if_icmp .ne 29) 3 100, xz, xz, xq (.iload_n 3) 1, xqa (.ifCond .eq 21) 3 96, xz, xz, xq (.aload_n 0) 1, xqc (.getfield 35) 3 7 13 1127, xz, xz, xq (.aload_n 0) 1, xqc (.getfield 29) 3 7 10 1124, xz, xz, xq (.iload 5) 2, xz, xq .iaload 1, xqv (.iconst 1) 1 1, xq .iadd 1, xq .iaload 1, xq (.iload_n 3) 1, xqa (.if_icmp .ne 7) 3 100, xz, xz, xqv (.iconst 1) 1 1, xqa (.goto 4) 3 101, xz, xz, xqv (.iconst 0) 1 0, xq .ireturn 1]
-- TermReaderModel.priorityOf(I)I
def xc_186 : List (Option xRow) := [xq (.aload_n 0) 1, xqc (.getfield 41) 3 7 17 1131, xz, xz, xq (.iload_n 1) 1, xq .iaload 1, xqv (.iconst 3) 1 3, xqa (.if_icmp .ne 28) 3 35, xz, xz, xq (.aload_n 0) 1, xq (.iload_n 1) 1, xqv (.bipush 46) 2 46, xz, xqv (.iconst 0) 1 0, xqv (.iconst 2) 1 2, xqc (.invokevirtual 309) 3 185 5 1452, xz, xz, xqa (.ifCond .ne 16) 3 35, xz, xz, xq (.aload_n 0) 1, xq (.iload_n 1) 1, xqv (.bipush 123) 2 123, xz, xqv (.bipush 125) 2 125, xz, xqv (.iconst 1) 1 1, xqc (.invokevirtual 309) 3 185 5 1452, xz, xz, xqa (.ifCond .eq 5) 3 37, xz, xz, xqv (.iconst 0) 1 0, xq .ireturn 1, xq (.aload_n 0) 1, xq (.aload_n 0) 1, xqc (.getfield 44) 3 7 18 1132, xz, xz, xq (.iload_n 1) 1, xq .iaload 1, xqc (.invokevirtual 313) 3 164 2 1464, xz, xz, xq (.lstore_n 2) 1, xq (.aload_n 0) 1, xqc (.getfield 47) 3 7 19 1133, xz, xz, xq (.iload_n 1) 1, xq .iaload 1, xqv (.iconst 2) 1 2, xqa (.if_icmp .ne 9) 3 64, xz, xz, xq (.aload_n 0) 1, xq (.lload_n 2) 1, xqc (.invokevirtual 108) 3 139 2 1375, xz, xz, xq .ireturn 1, xq (.aload_n 0) 1, xqc (.getfield 47) 3 7 19 1133, xz, xz, xq (.iload_n 1) 1, xq .iaload 1, xqv (.iconst 1) 1 1, xqa (.if_icmp .eq 5) 3 76, xz, xz, xqv (.iconst 0) 1 0, xq .ireturn 1, xq (.aload_n 0) 1, xq (.lload_n 2) 1, xqc (.invokevirtual 259) 3 137 2 1371, xz, xz, xqa (.ifCond .le 11) 3 92, xz, xz, xq (.aload_n 0) 1, xq (.lload_n 2) 1, xqc (.invokevirtual 259) 3 137 2 1371, xz, xz, xqa (.goto 8) 3 97, xz, xz, xq (.aload_n 0) 1, xq (.lload_n 2) 1, xqc (.invokevirtual 111) 3 140 2 1380, xz, xz, xq .ireturn 1]
-- TermReaderModel.isOperator(I)Z
def xc_187 : List (Option xRow) := [xq (.aload_n 0) 1, xqc (.getfield 41) 3 7 17 1131, xz, xz, xq (.iload_n 1) 1, xq .iaload 1, xqv (.iconst 2) 1 2, xqa (.if_icmp .eq 5) 3 12, xz, xz, xqv (.iconst 0) 1 0, xq .ireturn 1, xq (.aload_n 0) 1, xq (.aload_n 0) 1, xqc (.getfield 44) 3 7 18 1132, xz, xz, xq (.iload_n 1) 1, xq .iaload 1, xqc (.invokevirtual 313) 3 164 2 1464, xz, xz, xq (.lstore_n 2) 1, xq (.aload_n 0) 1, xq (.lload_n 2) 1, xqc (.invokevirtual 259) 3 137 2 1371, xz, xz, xq (.aload_n 0) 1, xq (.lload_n 2) 1, xqc (.invokevirtual 108) 3 139 2 1375, xz, xz, xq .iadd 1, xq (.aload_n 0) 1, xq (.lload_n 2) 1, xqc (.invokevirtual 111) 3 140 2 1380, xz, xz, xq .iadd 1, xqa (.ifCond .le 7) 3 47, xz, xz, xqv (.iconst 1) 1 1, xqa (.goto 4) 3 48, xz, xz, xqv (.iconst 0) 1 0, xq .ireturn 1]
-- TermReaderModel.part(II)V
def xc_188 : List (Option xRow) := [xq (.iload_n 2) 1, xqv (.sipush 2000) 3 2000, xz, xz, xqa (.if_icmp .lt 7) 3 11, xz, xz, xqv (.iconst 1) 1 1, xqa (.goto 4) 3 12, xz, xz, xqv (.iconst 0) 1 0, xq (.istore_n 3) 1, xq (.aload_n 0) 1, xq (.iload_n 1) 1, xqc (.invokevirtual 317) 3 186 2 1460, xz, xz, xq (.istore 4) 2, xz, xq (.iload 4) 2, xz, xq (.iload_n 2) 1, xqv (.sipush 2000) 3 2000, xz, xz, xq .irem 1, xqa (.if_icmp .gt 15) 3 42, xz, xz, xq (.iload_n 3) 1, xqa (.ifCond .eq 15) 3 46, xz, xz, xq (.aload_n 0) 1, xq (.iload_n 1) 1, xqc (.invokevirtual 320) 3 187 2 1468, xz, xz, xqa (.ifCond .eq 7) 3 46, xz, xz, xqv (.iconst 1) 1 1, xqa (.goto 4) 3 47, xz, xz, xqv (.iconst 0) 1 0, xq (.istore 5) 2, xz, xq (.iload 5) 2, xz, xqa (.ifCond .eq 16) 3 67, xz, xz, xq (.aload_n 0) 1, xqv (.bipush 40) 2 40, xz, xqc (.invokevirtual 303) 3 180 2 1432, xz, xz, xq (.aload_n 0) 1, xqv (.bipush (-41)) 2 (-41), xz, xqv (.iconst 0) 1 0, xqc (.invokevirtual 323) 3 181 3 1416, xz, xz, xq (.aload_n 0) 1, xqc (.getfield 41) 3 7 17 1131, xz, xz, xq (.iload_n 1) 1, xq .iaload 1, xqa (.ifCond .ne 23) 3 96, xz, xz, xq (.aload_n 0) 1, xqv (.bipush 95) 2 95, xz, xqc (.invokevirtual 303) 3 180 2 1432, xz, xz, xq (.aload_n 0) 1, xq (.aload_n 0) 1, xqc (.getfield 44) 3 7 18 1132, xz, xz, xq (.iload_n 1) 1, xq .iaload 1, xq .i2l 1, xqc (.invokevirtual 326) 3 182 2 1472, xz, xz, xqa (.goto 168) 3 261, xz, xz, xq (.aload_n 0) 1, xqc (.getfield 41) 3 7 17 1131, xz, xz, xq (.iload_n 1) 1, xq .iaload 1, xqv (.iconst 1) 1 1, xqa (.if_icmp .ne 52) 3 155, xz, xz, xq (.aload_n 0) 1, xqc (.getfield 44) 3 7 18 1132, xz, xz, xq (.iload_n 1) 1, xq .iaload 1, xqa (.ifCond .ge 9) 3 121, xz, xz, xq (.aload_n 0) 1, xqv (.bipush 45) 2 45, xz, xqc (.invokevirtual 303) 3 180 2 1432, xz, xz, xq (.aload_n 0) 1, xq (.aload_n 0) 1, xqc (.getfield 44) 3 7 18 1132, xz, xz, xq (.iload_n 1) 1, xq .iaload 1, xqa (.ifCond .ge 14) 3 142, xz, xz, xq (.aload_n 0) 1, xqc (.getfield 44) 3 7 18 1132, xz, xz, xq (.iload_n 1) 1, xq .iaload 1, xq .i2l 1, xq .lneg 1, xqa (.goto 10) 3 149, xz, xz, xq (.aload_n 0) 1, xqc (.getfield 44) 3 7 18 1132, xz, xz, xq (.iload_n 1) 1, xq .iaload 1, xq .i2l 1, xqc (.invokevirtual 326) 3 182 2 1472, xz, xz, xqa (.goto 109) 3 261, xz, xz, xq (.aload_n 0) 1, xqc (.getfield 41) 3 7 17 1131, xz, xz, xq (.iload_n 1) 1, xq .iaload 1, xqv (.iconst 2) 1 2, xqa (.if_icmp .ne 16) 3 178, xz, xz, xq (.aload_n 0) 1, xq (.aload_n 0) 1, xqc (.getfield 44) 3 7 18 1132, xz, xz, xq (.iload_n 1) 1, xq .iaload 1, xqc (.invokevirtual 330) 3 184 2 1436, xz, xz, xqa (.goto 86) 3 261, xz, xz, xq (.aload_n 0) 1, xq (.iload_n 1) 1, xqv (.bipush 46) 2 46, xz, xqv (.iconst 0) 1 0, xqv (.iconst 2) 1 2, xqc (.invokevirtual 309) 3 185 5 1452, xz, xz, xqa (.ifCond .eq 17) 3 204, xz, xz, xq (.aload_n 0) 1, xqv (.bipush 91) 2 91, xz, xqc (.invokevirtual 303) 3 180 2 1432, xz, xz, xq (.aload_n 0) 1, xq (.iload_n 1) 1, xqc (.invokevirtual 333) 3 189 2 1444, xz, xz, xqa (.goto 60) 3 261, xz, xz, xq (.aload_n 0) 1, xq (.iload_n 1) 1, xqv (.bipush 123) 2 123, xz, xqv (.bipush 125) 2 125, xz, xqv (.iconst 1) 1 1, xqc (.invokevirtual 309) 3 185 5 1452, xz, xz, xqa (.ifCond .eq 29) 3 243, xz, xz, xq (.aload_n 0) 1, xqv (.bipush 123) 2 123, xz, xqc (.invokevirtual 303) 3 180 2 1432, xz, xz, xq (.aload_n 0) 1, xqv (.bipush (-125)) 2 (-125), xz, xqv (.iconst 0) 1 0, xqc (.invokevirtual 323) 3 181 3 1416, xz, xz, xq (.aload_n 0) 1, xq (.iload_n 1) 1, xqv (.iconst 1) 1 1, xq .iadd 1, xqv (.sipush 1200) 3 1200, xz, xz, xqc (.invokevirtual 323) 3 181 3 1416, xz, xz, xqa (.goto 21) 3 261, xz, xz, xq (.iload 4) 2, xz, xqa (.ifCond .le 11) 3 256, xz, xz, xq (.aload_n 0) 1, xq (.iload_n 1) 1, xqc (.invokevirtual 336) 3 191 2 1478, xz, xz, xqa (.goto 8) 3 261, xz, xz, xq (.aload_n 0) 1, xq (.iload_n 1) 1, xqc (.invokevirtual 339) 3 192 2 1490, xz, xz, xq .return_ 1]
-- TermReaderModel.list(I)V
def xc_189 : List (Option xRow) := [xq (.aload_n 0) 1, xq (.iload_n 1) 1, xqv (.iconst 1) 1 1, xq .iadd 1, xqc (.invokevirtual 342) 3 179 2 1448, xz, xz, xq (.istore_n 2) 1, xq (.aload_n 0) 1, xq (.iload_n 2) 1, xqv (.bipush 91) 2 91, xz, xqv (.bipush 93) 2 93, xz, xqv (.iconst 0) 1 0, xqc (.invokevirtual 309) 3 185 5 1452, xz, xz, xqa (.ifCond .eq 13) 3 31, xz, xz, xq (.aload_n 0) 1, xqv (.bipush (-93)) 2 (-93), xz, xqv (.iconst 0) 1 0, xqc (.invokevirtual 323) 3 181 3 1416, xz, xz, xqa (.goto 58) 3 86, xz, xz, xq (.aload_n 0) 1, xqc (.getfield 41) 3 7 17 1131, xz, xz, xq (.iload_n 2) 1, xq .iaload 1, xqv (.iconst 3) 1 3, xqa (.if_icmp .ne 26) 3 64, xz, xz, xq (.aload_n 0) 1, xq (.iload_n 2) 1, xqv (.bipush 46) 2 46, xz, xqv (.iconst 0) 1 0, xqv (.iconst 2) 1 2, xqc (.invokevirtual 309) 3 185 5 1452, xz, xz, xqa (.ifCond .eq 14) 3 64, xz, xz, xq (.aload_n 0) 1, xq (.iload_n 2) 1, xqv (.sipush 5000) 3 5000, xz, xz, xqc (.invokevirtual 323) 3 181 3 1416, xz, xz, xqa (.goto 25) 3 86, xz, xz, xq (.aload_n 0) 1, xqv (.bipush (-93)) 2 (-93), xz, xqv (.iconst 0) 1 0, xqc (.invokevirtual 323) 3 181 3 1416, xz, xz, xq (.aload_n 0) 1, xq (.iload_n 2) 1, xqv (.sipush 999) 3 999, xz, xz, xqc (.invokevirtual 323) 3 181 3 1416, xz, xz, xq (.aload_n 0) 1, xqv (.bipush (-124)) 2 (-124), xz, xqv (.iconst 0) 1 0, xqc (.invokevirtual 323) 3 181 3 1416, xz, xz, xq (.aload_n 0) 1, xq (.iload_n 1) 1, xqv (.iconst 1) 1 1, xq .iadd 1, xqv (.sipush 999) 3 999, xz, xz, xqc (.invokevirtual 323) 3 181 3 1416, xz, xz, xq .return_ 1]
-- TermReaderModel.takesOn(II)Z
def xc_190 : List (Option xRow) := [xq (.aload_n 0) 1, xq (.iload_n 1) 1, xqc (.invokevirtual 317) 3 186 2 1460, xz, xz, xq (.iload_n 2) 1, xqa (.if_icmp .ne 13) 3 19, xz, xz, xq (.aload_n 0) 1, xqc (.getfield 47) 3 7 19 1133, xz, xz, xq (.iload_n 1) 1, xq .iaload 1, xqv (.iconst 2) 1 2, xqa (.if_icmp .le 5) 3 21, xz, xz, xqv (.iconst 0) 1 0, xq .ireturn 1, xq (.aload_n 0) 1, xq (.aload_n 0) 1, xqc (.getfield 44) 3 7 18 1132, xz, xz, xq (.iload_n 1) 1, xq .iaload 1, xqc (.invokevirtual 313) 3 164 2 1464, xz, xz, xq (.lstore_n 3) 1, xq (.aload_n 0) 1, xqc (.getfield 47) 3 7 19 1133, xz, xz, xq (.iload_n 1) 1, xq .iaload 1, xqv (.iconst 2) 1 2, xqa (.if_icmp .ne 20) 3 59, xz, xz, xq (.aload_n 0) 1, xq (.lload_n 3) 1, xqc (.invokevirtual 272) 3 142 2 1404, xz, xz, xq (.iload_n 2) 1, xqa (.if_icmp .ne 7) 3 55, xz, xz, xqv (.iconst 1) 1 1, xqa (.goto 29) 3 81, xz, xz, xqv (.iconst 0) 1 0, xqa (.goto 25) 3 81, xz, xz, xq (.aload_n 0) 1, xq (.lload_n 3) 1, xqc (.invokevirtual 259) 3 137 2 1371, xz, xz, xqa (.ifCond .le 16) 3 80, xz, xz, xq (.aload_n 0) 1, xq (.lload_n 3) 1, xqc (.invokevirtual 266) 3 144 2 1388, xz, xz, xq (.iload_n 2) 1, xqa (.if_icmp .ne 7) 3 80, xz, xz, xqv (.iconst 1) 1 1, xqa (.goto 4) 3 81, xz, xz, xqv (.iconst 0) 1 0, xq .ireturn 1]
-- TermReaderModel.operated(I)V
def xc_191 : List (Option xRow) := [xq (.aload_n 0) 1, xqc (.getfield 44) 3 7 18 1132, xz, xz, xq (.iload_n 1) 1, xq .iaload 1, xq (.istore_n 2) 1, xq (.aload_n 0) 1, xq (.iload_n 2) 1, xqc (.invokevirtual 313) 3 164 2 1464, xz, xz, xq (.lstore_n 3) 1, xq (.iload_n 1) 1, xqv (.iconst 1) 1 1, xq .iadd 1, xq (.istore 5) 2, xz, xq (.aload_n 0) 1, xq (.iload_n 1) 1, xqc (.invokevirtual 317) 3 186 2 1460, xz, xz, xq (.istore 6) 2, xz, xq (.aload_n 0) 1, xq (.iload 5) 2, xz, xq (.iload 6) 2, xz, xqc (.invokevirtual 345) 3 190 3 1482, xz, xz, xqa (.ifCond .eq 10) 3 43, xz, xz, xq (.iload 6) 2, xz, xqv (.iconst 1) 1 1, xq .isub 1, xqa (.goto 8) 3 48, xz, xz, xq (.aload_n 0) 1, xq (.lload_n 3) 1, xqc (.invokevirtual 349) 3 143 2 1486, xz, xz, xq (.istore 7) 2, xz, xq (.aload_n 0) 1, xqc (.getfield 47) 3 7 19 1133, xz, xz, xq (.iload_n 1) 1, xq .iaload 1, xqv (.iconst 2) 1 2, xqa (.if_icmp .ne 94) 3 151, xz, xz, xq (.lload_n 3) 1, xqk (.ldc2_w 102) 3 0 0 1379 44, xz, xz, xq .lcmp 1, xqa (.ifCond .ne 7) 3 72, xz, xz, xqv (.iconst 1) 1 1, xqa (.goto 4) 3 73, xz, xz, xqv (.iconst 0) 1 0, xq (.istore 8) 2, xz, xq (.aload_n 0) 1, xq (.aload_n 0) 1, xq (.iload 5) 2, xz, xqc (.invokevirtual 342) 3 179 2 1448, xz, xz, xqv (.sipush 2000) 3 2000, xz, xz, xq (.aload_n 0) 1, xq (.lload_n 3) 1, xqc (.invokevirtual 272) 3 142 2 1404, xz, xz, xq .iadd 1, xqc (.invokevirtual 323) 3 181 3 1416, xz, xz, xq (.iload 8) 2, xz, xqa (.ifCond .ne 10) 3 106, xz, xz, xq (.aload_n 0) 1, xqv (.bipush (-32)) 2 (-32), xz, xqv (.iconst 0) 1 0, xqc (.invokevirtual 323) 3 181 3 1416, xz, xz, xq (.aload_n 0) 1, xq (.iload 8) 2, xz, xqa (.ifCond .eq 8) 3 117, xz, xz, xqv (.bipush (-44)) 2 (-44), xz, xqa (.goto 4) 3 118, xz, xz, xq (.iload_n 2) 1, xqv (.sipush 6000) 3 6000, xz, xz, xqc (.invokevirtual 323) 3 181 3 1416, xz, xz, xq (.iload 8) 2, xz, xqa (.ifCond .ne 10) 3 136, xz, xz, xq (.aload_n 0) 1, xqv (.bipush (-32)) 2 (-32), xz, xqv (.iconst 0) 1 0, xqc (.invokevirtual 323) 3 181 3 1416, xz, xz, xq (.aload_n 0) 1, xq (.iload 5) 2, xz, xqv (.sipush 2000) 3 2000, xz, xz, xq (.iload 7) 2, xz, xq .iadd 1, xqc (.invokevirtual 323) 3 181 3 1416, xz, xz, xqa (.goto 67) 3 215, xz, xz, xq (.aload_n 0) 1, xq (.lload_n 3) 1, xqc (.invokevirtual 259) 3 137 2 1371, xz, xz, xqa (.ifCond .le 32) 3 188, xz, xz, xq (.aload_n 0) 1, xq (.iload_n 2) 1, xqc (.invokevirtual 330) 3 184 2 1436, xz, xz, xq (.aload_n 0) 1, xqv (.bipush 32) 2 32, xz, xqc (.invokevirtual 303) 3 180 2 1432, xz, xz, xq (.aload_n 0) 1, xq (.iload 5) 2, xz, xqv (.sipush 2000) 3 2000, xz, xz, xq (.aload_n 0) 1, xq (.lload_n 3) 1, xqc (.invokevirtual 266) 3 144 2 1388, xz, xz, xq .iadd 1, xqc (.invokevirtual 323) 3 181 3 1416, xz, xz, xqa (.goto 30) 3 215, xz, xz, xq (.aload_n 0) 1, xq (.iload_n 2) 1, xqv (.sipush 6000) 3 6000, xz, xz, xqc (.invokevirtual 323) 3 181 3 1416, xz, xz, xq (.aload_n 0) 1, xqv (.bipush (-32)) 2 (-32), xz, xqv (.iconst 0) 1 0, xqc (.invokevirtual 323) 3 181 3 1416, xz, xz, xq (.aload_n 0) 1, xq (.iload 5) 2, xz, xqv (.sipush 2000) 3 2000, xz, xz, xq (.iload 7) 2, xz, xq .iadd 1, xqc (.invokevirtual 323) 3 181 3 1416, xz, xz, xq .return_ 1]
-- TermReaderModel.plainly(I)V
def xc_192 : List (Option xRow) := [xq (.aload_n 0) 1, xq (.aload_n 0) 1, xqc (.getfield 44) 3 7 18 1132, xz, xz, xq (.iload_n 1) 1, xq .iaload 1, xqc (.invokevirtual 330) 3 184 2 1436, xz, xz, xq (.aload_n 0) 1, xqv (.bipush 40) 2 40, xz, xqc (.invokevirtual 303) 3 180 2 1432, xz, xz, xq (.aload_n 0) 1, xqc (.getfield 47) 3 7 19 1133, xz, xz, xq (.iload_n 1) 1, xq .iaload 1, xq (.istore_n 2) 1, xq (.aload_n 0) 1, xqv (.bipush (-41)) 2 (-41), xz, xqv (.iconst 0) 1 0, xqc (.invokevirtual 323) 3 181 3 1416, xz, xz, xq (.iload_n 2) 1, xqv (.iconst 1) 1 1, xq .isub 1, xq (.istore_n 3) 1, xq (.iload_n 3) 1, xqa (.ifCond .lt 57) 3 92, xz, xz, xq (.iload_n 1) 1, xqv (.iconst 1) 1 1, xq .iadd 1, xq (.istore 4) 2, xz, xqv (.iconst 0) 1 0, xq (.istore 5) 2, xz, xq (.iload 5) 2, xz, xq (.iload_n 3) 1, xqa (.if_icmp .ge 17) 3 66, xz, xz, xq (.aload_n 0) 1, xq (.iload 4) 2, xz, xqc (.invokevirtual 342) 3 179 2 1448, xz, xz, xq (.istore 4) 2, xz, xqv (.iinc 5 1) 3 1, xz, xz, xqa (.goto (-17)) 3 46, xz, xz, xq (.aload_n 0) 1, xq (.iload 4) 2, xz, xqv (.sipush 999) 3 999, xz, xz, xqc (.invokevirtual 323) 3 181 3 1416, xz, xz, xq (.iload_n 3) 1, xqa (.ifCond .le 10) 3 86, xz, xz, xq (.aload_n 0) 1, xqv (.bipush (-44)) 2 (-44), xz, xqv (.iconst 0) 1 0, xqc (.invokevirtual 323) 3 181 3 1416, xz, xz, xqv (.iinc 3 (-1)) 3 (-1), xz, xz, xqa (.goto (-55)) 3 34, xz, xz, xq .return_ 1]
-- TermReaderModel.write(I)I
def xc_193 : List (Option xRow) := [xq (.aload_n 0) 1, xq (.aload_n 0) 1, xq (.iload_n 1) 1, xqc (.invokevirtual 352) 3 178 2 1428, xz, xz, xqa (.ifCond .eq 7) 3 13, xz, xz, xqv (.iconst 0) 1 0, xqa (.goto 4) 3 14, xz, xz, xqv (.iconst 1) 1 1, xqc (.putfield 91) 3 7 0 1114, xz, xz, xq (.aload_n 0) 1, xqc (.getfield 91) 3 7 0 1114, xz, xz, xqa (.ifCond .le 5) 3 26, xz, xz, xqv (.iconst 0) 1 0, xq .ireturn 1, xq (.aload_n 0) 1, xqv (.iconst 0) 1 0, xqc (.putfield 293) 3 7 40 1154, xz, xz, xq (.aload_n 0) 1, xqv (.iconst 0) 1 0, xqc (.putfield 296) 3 7 37 1151, xz, xz, xq (.aload_n 0) 1, xq (.aload_n 0) 1, xqc (.getfield 38) 3 7 15 1129, xz, xz, xq (.iload_n 1) 1, xq .iaload 1, xqv (.sipush 1200) 3 1200, xz, xz, xqc (.invokevirtual 323) 3 181 3 1416, xz, xz, xq (.aload_n 0) 1, xqc (.getfield 296) 3 7 37 1151, xz, xz, xqa (.ifCond .le 91) 3 144, xz, xz, xq (.aload_n 0) 1, xq .dup 1, xqc (.getfield 296) 3 7 37 1151, xz, xz, xqv (.iconst 1) 1 1, xq .isub 1, xqc (.putfield 296) 3 7 37 1151, xz, xz, xq (.aload_n 0) 1, xqc (.getfield 71) 3 7 38 1152, xz, xz, xq (.aload_n 0) 1, xqc (.getfield 296) 3 7 37 1151, xz, xz, xq .iaload 1, xq (.istore_n 2) 1, xq (.aload_n 0) 1, xqc (.getfield 74) 3 7 39 1153, xz, xz, xq (.aload_n 0) 1, xqc (.getfield 296) 3 7 37 1151, xz, xz, xq .iaload 1, xq (.istore_n 3) 1, xq (.iload_n 2) 1, xqa (.ifCond .ge 12) 3 99, xz, xz, xq (.aload_n 0) 1, xq (.iload_n 2) 1, xq .ineg 1, xqc (.invokevirtual 303) 3 180 2 1432, xz, xz, xqa (.goto 45) 3 141, xz, xz, xq (.iload_n 3) 1, xqv (.sipush 6000) 3 6000, xz, xz, xqa (.if_icmp .ne 11) 3 114, xz, xz, xq (.aload_n 0) 1, xq (.iload_n 2) 1, xqc (.invokevirtual 330) 3 184 2 1436, xz, xz, xqa (.goto 30) 3 141, xz, xz, xq (.iload_n 3) 1, xqv (.sipush 5000) 3 5000, xz, xz, xqa (.if_icmp .ne 17) 3 135, xz, xz, xq (.aload_n 0) 1, xqv (.bipush 44) 2 44, xz, xqc (.invokevirtual 303) 3 180 2 1432, xz, xz, xq (.aload_n 0) 1, xq (.iload_n 2) 1, xqc (.invokevirtual 333) 3 189 2 1444, xz, xz, xqa (.goto 9) 3 141, xz, xz, xq (.aload_n 0) 1, xq (.iload_n 2) 1, xq (.iload_n 3) 1, xqc (.invokevirtual 355) 3 188 3 1456, xz, xz, xqa (.goto (-92)) 3 49, xz, xz, xq (.aload_n 0) 1, xq (.aload_n 0) 1, xqc (.getfield 293) 3 7 40 1154, xz, xz, xqc (.putfield 358) 3 7 42 1156, xz, xz, xqv (.iconst 0) 1 0, xq (.istore_n 2) 1, xq (.iload_n 2) 1, xq (.aload_n 0) 1, xqc (.getfield 293) 3 7 40 1154, xz, xz, xqa (.if_icmp .ge 21) 3 180, xz, xz, xq (.aload_n 0) 1, xqc (.getfield 80) 3 7 43 1157, xz, xz, xq (.iload_n 2) 1, xq (.aload_n 0) 1, xqc (.getfield 77) 3 7 41 1155, xz, xz, xq (.iload_n 2) 1, xq .iaload 1, xq .iastore 1, xqv (.iinc 2 1) 3 1, xz, xz, xqa (.goto (-23)) 3 154, xz, xz, xq (.aload_n 0) 1, xqc (.getfield 293) 3 7 40 1154, xz, xz, xq .ireturn 1]
-- TermReaderModel.written(I)I
def xc_194 : List (Option xRow) := [xq (.aload_n 0) 1, xqv (.iconst 0) 1 0, xqc (.putfield 91) 3 7 0 1114, xz, xz, xq (.iload_n 1) 1, xqa (.ifCond .lt 11) 3 17, xz, xz, xq (.iload_n 1) 1, xq (.aload_n 0) 1, xqc (.getfield 358) 3 7 42 1156, xz, xz, xqa (.if_icmp .lt 7) 3 21, xz, xz, xqv (.iconst (-1)) 1 (-1), xqa (.goto 9) 3 27, xz, xz, xq (.aload_n 0) 1, xqc (.getfield 80) 3 7 43 1157, xz, xz, xq (.iload_n 1) 1, xq .iaload 1, xq .ireturn 1]
-- TermReaderModel.again()Z
def xc_195 : List (Option xRow) := [xq (.aload_n 0) 1, xqv (.iconst 0) 1 0, xqc (.putfield 91) 3 7 0 1114, xz, xz, xq (.aload_n 0) 1, xqc (.getfield 358) 3 7 42 1156, xz, xz, xqv (.iconst 3) 1 3, xq .iadd 1, xqv (.bipush 120) 2 120, xz, xqa (.if_icmp .le 5) 3 18, xz, xz, xqv (.iconst 0) 1 0, xq .ireturn 1, xqv (.iconst 0) 1 0, xq (.istore_n 1) 1, xq (.iload_n 1) 1, xq (.aload_n 0) 1, xqc (.getfield 358) 3 7 42 1156, xz, xz, xqa (.if_icmp .ge 21) 3 46, xz, xz, xq (.aload_n 0) 1, xqc (.getfield 7) 3 7 2 1116, xz, xz, xq (.iload_n 1) 1, xq (.aload_n 0) 1, xqc (.getfield 80) 3 7 43 1157, xz, xz, xq (.iload_n 1) 1, xq .iaload 1, xq .iastore 1, xqv (.iinc 1 1) 3 1, xz, xz, xqa (.goto (-23)) 3 20, xz, xz, xq (.aload_n 0) 1, xqc (.getfield 7) 3 7 2 1116, xz, xz, xq (.aload_n 0) 1, xqc (.getfield 358) 3 7 42 1156, xz, xz, xqv (.bipush 32) 2 32, xz, xq .iastore 1, xq (.aload_n 0) 1, xqc (.getfield 7) 3 7 2 1116, xz, xz, xq (.aload_n 0) 1, xqc (.getfield 358) 3 7 42 1156, xz, xz, xqv (.iconst 1) 1 1, xq .iadd 1, xqv (.bipush 46) 2 46, xz, xq .iastore 1, xq (.aload_n 0) 1, xqc (.getfield 7) 3 7 2 1116, xz, xz, xq (.aload_n 0) 1, xqc (.getfield 358) 3 7 42 1156, xz, xz, xqv (.iconst 2) 1 2, xq .iadd 1, xqv (.bipush 32) 2 32, xz, xq .iastore 1, xq (.aload_n 0) 1, xq (.aload_n 0) 1, xqc (.getfield 358) 3 7 42 1156, xz, xz, xqv (.iconst 3) 1 3, xq .iadd 1, xqc (.putfield 142) 3 7 1 1115, xz, xz, xqv (.iconst 1) 1 1, xq .ireturn 1]
-- TermReaderModel.alike(II)Z
def xc_196 : List (Option xRow) := [xq (.aload_n 0) 1, xq (.aload_n 0) 1, xq (.iload_n 1) 1, xqc (.invokevirtual 352) 3 178 2 1428, xz, xz, xqa (.ifCond .eq 15) 3 21, xz, xz, xq (.aload_n 0) 1, xq (.iload_n 2) 1, xqc (.invokevirtual 352) 3 178 2 1428, xz, xz, xqa (.ifCond .eq 7) 3 21, xz, xz, xqv (.iconst 0) 1 0, xqa (.goto 4) 3 22, xz, xz, xqv (.iconst 1) 1 1, xqc (.putfield 91) 3 7 0 1114, xz, xz, xq (.aload_n 0) 1, xqc (.getfield 91) 3 7 0 1114, xz, xz, xqa (.ifCond .le 5) 3 34, xz, xz, xqv (.iconst 0) 1 0, xq .ireturn 1, xq (.aload_n 0) 1, xqc (.getfield 38) 3 7 15 1129, xz, xz, xq (.iload_n 1) 1, xqv (.iconst 1) 1 1, xq .iadd 1, xq .iaload 1, xq (.aload_n 0) 1, xqc (.getfield 38) 3 7 15 1129, xz, xz, xq (.iload_n 1) 1, xq .iaload 1, xq .isub 1, xq (.istore_n 3) 1, xq (.iload_n 3) 1, xq (.aload_n 0) 1, xqc (.getfield 38) 3 7 15 1129, xz, xz, xq (.iload_n 2) 1, xqv (.iconst 1) 1 1, xq .iadd 1, xq .iaload 1, xq (.aload_n 0) 1, xqc (.getfield 38) 3 7 15 1129, xz, xz, xq (.iload_n 2) 1, xq .iaload 1, xq .isub 1, xqa (.if_icmp .ne 7) 3 73, xz, xz, xqv (.iconst 1) 1 1, xqa (.goto 4) 3 74, xz, xz, xqv (.iconst 0) 1 0, xq (.istore 4) 2, xz, xqv (.iconst 0) 1 0, xq (.istore 5) 2, xz, xq (.iload 5) 2, xz, xq (.iload_n 3) 1, xqa (.if_icmp .ge 94) 3 176, xz, xz, xq (.iload 4) 2, xz, xqa (.ifCond .eq 89) 3 176, xz, xz, xq (.aload_n 0) 1, xqc (.getfield 38) 3 7 15 1129, xz, xz, xq (.iload_n 1) 1, xq .iaload 1, xq (.iload 5) 2, xz, xq .iadd 1, xq (.istore 6) 2, xz, xq (.aload_n 0) 1, xqc (.getfield 38) 3 7 15 1129, xz, xz, xq (.iload_n 2) 1, xq .iaload 1, xq (.iload 5) 2, xz, xq .iadd 1, xq (.istore 7) 2, xz, xq (.aload_n 0) 1, xqc (.getfield 41) 3 7 17 1131, xz, xz, xq (.iload 6) 2, xz, xq .iaload 1, xq (.aload_n 0) 1, xqc (.getfield 41) 3 7 17 1131, xz, xz, xq (.iload 7) 2, xz, xq .iaload 1, xqa (.if_icmp .ne 41) 3 167, xz, xz, xq (.aload_n 0) 1, xqc (.getfield 47) 3 7 19 1133, xz, xz, xq (.iload 6) 2, xz, xq .iaload 1, xq (.aload_n 0) 1, xqc (.getfield 47) 3 7 19 1133, xz, xz, xq (.iload 7) 2, xz, xq .iaload 1, xqa (.if_icmp .ne 24) 3 167, xz, xz, xq (.aload_n 0) 1, xqc (.getfield 44) 3 7 18 1132, xz, xz, xq (.iload 6) 2, xz, xq .iaload 1, xq (.aload_n 0) 1, xqc (.getfield 44) 3 7 18 1132, xz, xz, xq (.iload 7) 2, xz, xq .iaload 1, xqa (.if_icmp .ne 7) 3 167, xz, xz, xqv (.iconst 1) 1 1, xqa (.goto 4) 3 168, xz, xz, xqv (.iconst 0) 1 0, xq (.istore 4) 2, xz, xqv (.iinc 5 1) 3 1, xz, xz, xqa (.goto (-94)) 3 79, xz, xz, xq (.iload 4) 2, xz, xq .ireturn 1]
-- TermReaderModel.depthIn(II)I
def xc_197 : List (Option xRow) := [xqv (.iconst 1) 1 1, xq (.istore_n 3) 1, xq (.aload_n 0) 1, xqv (.iconst 0) 1 0, xqc (.putfield 296) 3 7 37 1151, xz, xz, xq (.iload_n 1) 1, xq (.istore 4) 2, xz, xq (.iload 4) 2, xz, xq (.iload_n 2) 1, xqa (.if_icmp .ge 108) 3 121, xz, xz, xq (.aload_n 0) 1, xqc (.getfield 296) 3 7 37 1151, xz, xz, xqa (.ifCond .le 30) 3 50, xz, xz, xq (.aload_n 0) 1, xqc (.getfield 71) 3 7 38 1152, xz, xz, xq (.aload_n 0) 1, xqc (.getfield 296) 3 7 37 1151, xz, xz, xqv (.iconst 1) 1 1, xq .isub 1, xq .iaload 1, xqa (.ifCond .ne 16) 3 50, xz, xz, xq (.aload_n 0) 1, xq .dup 1, xqc (.getfield 296) 3 7 37 1151, xz, xz, xqv (.iconst 1) 1 1, xq .isub 1, xqc (.putfield 296) 3 7 37 1151, xz, xz, xqa (.goto (-31)) 3 16, xz, xz, xq (.aload_n 0) 1, xqc (.getfield 296) 3 7 37 1151, xz, xz, xqa (.ifCond .le 18) 3 72, xz, xz, xq (.aload_n 0) 1, xqc (.getfield 71) 3 7 38 1152, xz, xz, xq (.aload_n 0) 1, xqc (.getfield 296) 3 7 37 1151, xz, xz, xqv (.iconst 1) 1 1, xq .isub 1, xq .dup2 1, xq .iaload 1, xqv (.iconst 1) 1 1, xq .isub 1, xq .iastore 1, xq (.aload_n 0) 1, xqc (.getfield 296) 3 7 37 1151, xz, xz, xqv (.iconst 1) 1 1, xq .iadd 1, xq (.iload_n 3) 1, xqa (.if_icmp .le 12) 3 91, xz, xz, xq (.aload_n 0) 1, xqc (.getfield 296) 3 7 37 1151, xz, xz, xqv (.iconst 1) 1 1, xq .iadd 1, xqa (.goto 4) 3 92, xz, xz, xq (.iload_n 3) 1, xq (.istore_n 3) 1, xq (.aload_n 0) 1, xqc (.getfield 47) 3 7 19 1133, xz, xz, xq (.iload 4) 2, xz, xq .iaload 1, xqa (.ifCond .le 15) 3 115, xz, xz, xq (.aload_n 0) 1, xq (.aload_n 0) 1, xqc (.getfield 47) 3 7 19 1133, xz, xz, xq (.iload 4) 2, xz, xq .iaload 1, xqv (.iconst 0) 1 0, xqc (.invokevirtual 323) 3 181 3 1416, xz, xz, xqv (.iinc 4 1) 3 1, xz, xz, xqa (.goto (-108)) 3 10, xz, xz, xq (.iload_n 3) 1, xq .ireturn 1]
-- TermReaderModel.look(II)I
def xc_198 : List (Option xRow) := [xq (.aload_n 0) 1, xq (.aload_n 0) 1, xq (.iload_n 1) 1, xqc (.invokevirtual 352) 3 178 2 1428, xz, xz, xqa (.ifCond .ne 7) 3 13, xz, xz, xqv (.iconst 1) 1 1, xqa (.goto 17) 3 27, xz, xz, xq (.iload_n 2) 1, xqa (.ifCond .lt 8) 3 22, xz, xz, xq (.iload_n 2) 1, xqv (.iconst 3) 1 3, xqa (.if_icmp .le 7) 3 26, xz, xz, xqv (.iconst 2) 1 2, xqa (.goto 4) 3 27, xz, xz, xqv (.iconst 0) 1 0, xqc (.putfield 91) 3 7 0 1114, xz, xz, xq (.aload_n 0) 1, xqc (.getfield 91) 3 7 0 1114, xz, xz, xqa (.ifCond .le 5) 3 39, xz, xz, xqv (.iconst 0) 1 0, xq .ireturn 1, xq (.aload_n 0) 1, xqc (.getfield 38) 3 7 15 1129, xz, xz, xq (.iload_n 1) 1, xq .iaload 1, xq (.istore_n 3) 1, xq (.iload_n 2) 1, xqa (.ifCond .ne 10) 3 57, xz, xz, xq (.aload_n 0) 1, xqc (.getfield 41) 3 7 17 1131, xz, xz, xq (.iload_n 3) 1, xq .iaload 1, xq .ireturn 1, xq (.iload_n 2) 1, xqv (.iconst 1) 1 1, xqa (.if_icmp .ne 10) 3 69, xz, xz, xq (.aload_n 0) 1, xqc (.getfield 47) 3 7 19 1133, xz, xz, xq (.iload_n 3) 1, xq .iaload 1, xq .ireturn 1, xq (.iload_n 2) 1, xqv (.iconst 3) 1 3, xqa (.if_icmp .ne 22) 3 93, xz, xz, xq (.aload_n 0) 1, xq (.aload_n 0) 1, xqc (.getfield 38) 3 7 15 1129, xz, xz, xq (.iload_n 1) 1, xq .iaload 1, xq (.aload_n 0) 1, xqc (.getfield 38) 3 7 15 1129, xz, xz, xq (.iload_n 1) 1, xqv (.iconst 1) 1 1, xq .iadd 1, xq .iaload 1, xqc (.invokevirtual 284) 3 197 3 1412, xz, xz, xq .ireturn 1, xq (.aload_n 0) 1, xqc (.getfield 41) 3 7 17 1131, xz, xz, xq (.iload_n 3) 1, xq .iaload 1, xqv (.iconst 2) 1 2, xqa (.if_icmp .ge 12) 3 112, xz, xz, xq (.aload_n 0) 1, xqc (.getfield 44) 3 7 18 1132, xz, xz, xq (.iload_n 3) 1, xq .iaload 1, xqa (.goto 14) 3 123, xz, xz, xq (.aload_n 0) 1, xqc (.getfield 32) 3 7 11 1125, xz, xz, xq (.aload_n 0) 1, xqc (.getfield 44) 3 7 18 1132, xz, xz, xq (.iload_n 3) 1, xq .iaload 1, xq .iaload 1, xq .ireturn 1]
-- TermReaderModel.count(I)I
def xc_199 : List (Option xRow) := [xq (.aload_n 0) 1, xq (.iload_n 1) 1, xqa (.ifCond .lt 8) 3 10, xz, xz, xq (.iload_n 1) 1, xqv (.iconst 3) 1 3, xqa (.if_icmp .le 7) 3 14, xz, xz, xqv (.iconst 1) 1 1, xqa (.goto 4) 3 15, xz, xz, xqv (.iconst 0) 1 0, xqc (.putfield 91) 3 7 0 1114, xz, xz, xq (.aload_n 0) 1, xqc (.getfield 91) 3 7 0 1114, xz, xz, xqa (.ifCond .le 5) 3 27, xz, xz, xqv (.iconst 0) 1 0, xq .ireturn 1, xq (.iload_n 1) 1, xqa (.ifCond .ne 10) 3 38, xz, xz, xq (.aload_n 0) 1, xqc (.getfield 142) 3 7 1 1115, xz, xz, xqa (.goto 31) 3 66, xz, xz, xq (.iload_n 1) 1, xqv (.iconst 1) 1 1, xqa (.if_icmp .ne 10) 3 50, xz, xz, xq (.aload_n 0) 1, xqc (.getfield 287) 3 7 14 1128, xz, xz, xqa (.goto 19) 3 66, xz, xz, xq (.iload_n 1) 1, xqv (.iconst 2) 1 2, xqa (.if_icmp .ne 10) 3 62, xz, xz, xq (.aload_n 0) 1, xqc (.getfield 217) 3 7 16 1130, xz, xz, xqa (.goto 7) 3 66, xz, xz, xq (.aload_n 0) 1, xqc (.invokevirtual 138) 3 136 1 1274, xz, xz, xq .ireturn 1]
-- TermReader$Chars.isPrintable(I)Z
def xc_200 : List (Option xRow) := [xq (.iload_n 0) 1, xqv (.bipush 32) 2 32, xz, xqa (.if_icmp .lt 13) 3 16, xz, xz, xq (.iload_n 0) 1, xqv (.bipush 126) 2 126, xz, xqa (.if_icmp .gt 7) 3 16, xz, xz, xqv (.iconst 1) 1 1, xqa (.goto 4) 3 17, xz, xz, xqv (.iconst 0) 1 0, xq .ireturn 1]
-- TermReader$Chars.isSmall(I)Z
def xc_201 : List (Option xRow) := [xq (.iload_n 0) 1, xqv (.bipush 97) 2 97, xz, xqa (.if_icmp .lt 13) 3 16, xz, xz, xq (.iload_n 0) 1, xqv (.bipush 122) 2 122, xz, xqa (.if_icmp .gt 7) 3 16, xz, xz, xqv (.iconst 1) 1 1, xqa (.goto 4) 3 17, xz, xz, xqv (.iconst 0) 1 0, xq .ireturn 1]
-- TermReader$Chars.isLarge(I)Z
def xc_202 : List (Option xRow) := [xq (.iload_n 0) 1, xqv (.bipush 65) 2 65, xz, xqa (.if_icmp .lt 13) 3 16, xz, xz, xq (.iload_n 0) 1, xqv (.bipush 90) 2 90, xz, xqa (.if_icmp .gt 7) 3 16, xz, xz, xqv (.iconst 1) 1 1, xqa (.goto 4) 3 17, xz, xz, xqv (.iconst 0) 1 0, xq .ireturn 1]
-- TermReader$Chars.isDigit(I)Z
def xc_203 : List (Option xRow) := [xq (.iload_n 0) 1, xqv (.bipush 48) 2 48, xz, xqa (.if_icmp .lt 13) 3 16, xz, xz, xq (.iload_n 0) 1, xqv (.bipush 57) 2 57, xz, xqa (.if_icmp .gt 7) 3 16, xz, xz, xqv (.iconst 1) 1 1, xqa (.goto 4) 3 17, xz, xz, xqv (.iconst 0) 1 0, xq .ireturn 1]
-- TermReader$Chars.isWord(I)Z
def xc_204 : List (Option xRow) := [xq (.iload_n 0) 1, xqc (.invokestatic 9) 3 201 1 593, xz, xz, xqa (.ifCond .ne 23) 3 27, xz, xz, xq (.iload_n 0) 1, xqc (.invokestatic 15) 3 202 1 594, xz, xz, xqa (.ifCond .ne 16) 3 27, xz, xz, xq (.iload_n 0) 1, xqc (.invokestatic 18) 3 203 1 597, xz, xz, xqa (.ifCond .ne 9) 3 27, xz, xz, xq (.iload_n 0) 1, xqv (.bipush 95) 2 95, xz, xqa (.if_icmp .ne 7) 3 31, xz, xz, xqv (.iconst 1) 1 1, xqa (.goto 4) 3 32, xz, xz, xqv (.iconst 0) 1 0, xq .ireturn 1]
-- TermReader$Chars.isSign(I)Z
def xc_205 : List (Option xRow) := [xq (.iload_n 0) 1, xqs (.lookupswitch 149 #[(35, 147), (36, 147), (38, 147), (42, 147), (43, 147), (45, 147), (46, 147), (47, 147), (58, 147), (60, 147), (61, 147), (62, 147), (63, 147), (64, 147), (92, 147), (94, 147), (126, 147)]) 147 150 [(35, 148), (36, 148), (38, 148), (42, 148), (43, 148), (45, 148), (46, 148), (47, 148), (58, 148), (60, 148), (61, 148), (62, 148), (63, 148), (64, 148), (92, 148), (94, 148), (126, 148)], xz, xz, xz, xz, xz, xz, xz, xz, xz, xz, xz, xz, xz, xz, xz, xz, xz, xz, xz, xz, xz, xz, xz, xz, xz, xz, xz, xz, xz, xz, xz, xz, xz, xz, xz, xz, xz, xz, xz, xz, xz, xz, xz, xz, xz, xz, xz, xz, xz, xz, xz, xz, xz, xz, xz, xz, xz, xz, xz, xz, xz, xz, xz, xz, xz, xz, xz, xz, xz, xz, xz, xz, xz, xz, xz, xz, xz, xz, xz, xz, xz, xz, xz, xz, xz, xz, xz, xz, xz, xz, xz, xz, xz, xz, xz, xz, xz, xz, xz, xz, xz, xz, xz, xz, xz, xz, xz, xz, xz, xz, xz, xz, xz, xz, xz, xz, xz, xz, xz, xz, xz, xz, xz, xz, xz, xz, xz, xz, xz, xz, xz, xz, xz, xz, xz, xz, xz, xz, xz, xz, xz, xz, xz, xz, xz, xz, xqv (.iconst 1) 1 1, xq .ireturn 1, xqv (.iconst 0) 1 0, xq .ireturn 1]
-- TermReader$Chars.isPunctuation(I)Z
def xc_206 : List (Option xRow) := [xq (.iload_n 0) 1, xqs (.lookupswitch 77 #[(40, 75), (41, 75), (44, 75), (91, 75), (93, 75), (123, 75), (124, 75), (125, 75)]) 75 78 [(40, 76), (41, 76), (44, 76), (91, 76), (93, 76), (123, 76), (124, 76), (125, 76)], xz, xz, xz, xz, xz, xz, xz, xz, xz, xz, xz, xz, xz, xz, xz, xz, xz, xz, xz, xz, xz, xz, xz, xz, xz, xz, xz, xz, xz, xz, xz, xz, xz, xz, xz, xz, xz, xz, xz, xz, xz, xz, xz, xz, xz, xz, xz, xz, xz, xz, xz, xz, xz, xz, xz, xz, xz, xz, xz, xz, xz, xz, xz, xz, xz, xz, xz, xz, xz, xz, xz, xz, xz, xz, xqv (.iconst 1) 1 1, xq .ireturn 1, xqv (.iconst 0) 1 0, xq .ireturn 1]
-- TermReader$Chars.digit(II)I
def xc_207 : List (Option xRow) := [xq (.iload_n 0) 1, xqc (.invokestatic 18) 3 203 1 597, xz, xz, xqa (.ifCond .eq 8) 3 12, xz, xz, xq (.iload_n 0) 1, xqv (.bipush 48) 2 48, xz, xq .isub 1, xq .ireturn 1, xq (.iload_n 1) 1, xqv (.bipush 16) 2 16, xz, xqa (.if_icmp .ne 25) 3 40, xz, xz, xq (.iload_n 0) 1, xqv (.bipush 97) 2 97, xz, xqa (.if_icmp .lt 19) 3 40, xz, xz, xq (.iload_n 0) 1, xqv (.bipush 102) 2 102, xz, xqa (.if_icmp .gt 13) 3 40, xz, xz, xq (.iload_n 0) 1, xqv (.bipush 97) 2 97, xz, xq .isub 1, xqv (.bipush 10) 2 10, xz, xq .iadd 1, xqa (.goto 4) 3 41, xz, xz, xqv (.iconst (-1)) 1 (-1), xq .ireturn 1]
-- TermReader$Packed.at(JI)I
def xc_208 : List (Option xRow) := [xq (.iload_n 2) 1, xqa (.ifCond .lt 23) 3 24, xz, xz, xq (.iload_n 2) 1, xqv (.bipush 8) 2 8, xz, xqa (.if_icmp .ge 17) 3 24, xz, xz, xq (.lload_n 0) 1, xqv (.bipush 8) 2 8, xz, xq (.iload_n 2) 1, xq .imul 1, xq .lushr 1, xqk (.ldc2_w 9) 3 0 0 405 255, xz, xz, xq .land 1, xq .l2i 1, xqa (.goto 4) 3 25, xz, xz, xqv (.iconst 0) 1 0, xq .ireturn 1]
-- TermReader$Packed.size(J)I
def xc_209 : List (Option xRow) := [xqv (.iconst 0) 1 0, xq (.istore_n 2) 1, xq (.iload_n 2) 1, xqv (.bipush 8) 2 8, xz, xqa (.if_icmp .ge 19) 3 24, xz, xz, xq (.lload_n 0) 1, xq (.iload_n 2) 1, xqc (.invokestatic 11) 3 208 2 402, xz, xz, xqa (.ifCond .ne 5) 3 18, xz, xz, xq (.iload_n 2) 1, xq .ireturn 1, xqv (.iinc 2 1) 3 1, xz, xz, xqa (.goto (-19)) 3 2, xz, xz, xqv (.bipush 8) 2 8, xz, xq .ireturn 1]
-- TermReader$Packed.trimmed(J)J
def xc_210 : List (Option xRow) := [xq (.lload_n 0) 1, xqc (.invokestatic 17) 3 209 1 443, xz, xz, xq (.istore_n 2) 1, xq (.iload_n 2) 1, xqv (.bipush 8) 2 8, xz, xqa (.if_icmp .lt 7) 3 15, xz, xz, xq (.lload_n 0) 1, xqa (.goto 13) 3 25, xz, xz, xq (.lload_n 0) 1, xq (.lconst 1) 1, xqv (.bipush 8) 2 8, xz, xq (.iload_n 2) 1, xq .imul 1, xq .lshl 1, xq (.lconst 1) 1, xq .lsub 1, xq .land 1, xq .lreturn 1]
-- TermReader$Packed.ofText(Ljava/lang/String;)J
def xc_211 : List (Option xRow) := [xq (.lconst 0) 1, xq (.lstore_n 1) 1, xqv (.iconst 0) 1 0, xq (.istore_n 3) 1, xq (.iload_n 3) 1, xq (.aload_n 0) 1, xqc (.invokevirtual 21) 3 2000 0 173, xz, xz, xqa (.if_icmp .ge 29) 3 38, xz, xz, xq (.iload_n 3) 1, xqv (.bipush 8) 2 8, xz, xqa (.if_icmp .ge 23) 3 38, xz, xz, xq (.lload_n 1) 1, xq (.aload_n 0) 1, xq (.iload_n 3) 1, xqc (.invokevirtual 27) 3 2000 0 183, xz, xz, xq .i2l 1, xqv (.bipush 8) 2 8, xz, xq (.iload_n 3) 1, xq .imul 1, xq .lshl 1, xq .lor 1, xq (.lstore_n 1) 1, xqv (.iinc 3 1) 3 1, xz, xz, xqa (.goto (-31)) 3 4, xz, xz, xq (.lload_n 1) 1, xq .lreturn 1]
-- TermReader$Packed.ofRow(LTermReader$CharRow;II)J
def xc_212 : List (Option xRow) := [xq (.iload_n 2) 1, xqv (.iconst 1) 1 1, xqa (.if_icmp .lt 9) 3 11, xz, xz, xq (.iload_n 2) 1, xqv (.bipush 8) 2 8, xz, xqa (.if_icmp .le 5) 3 13, xz, xz, xq (.lconst 0) 1, xq .lreturn 1, xq (.lconst 0) 1, xq (.lstore_n 3) 1, xqv (.iconst 0) 1 0, xq (.istore 5) 2, xz, xq (.iload 5) 2, xz, xq (.iload_n 2) 1, xqa (.if_icmp .ge 31) 3 52, xz, xz, xq (.lload_n 3) 1, xq (.aload_n 0) 1, xq (.iload_n 1) 1, xq (.iload 5) 2, xz, xq .iadd 1, xqc (.invokevirtual 31) 3 13 2 612, xz, xz, xq .i2l 1, xqk (.ldc2_w 9) 3 0 0 405 255, xz, xz, xq .land 1, xqv (.bipush 8) 2 8, xz, xq (.iload 5) 2, xz, xq .imul 1, xq .lshl 1, xq .lor 1, xq (.lstore_n 3) 1, xqv (.iinc 5 1) 3 1, xz, xz, xqa (.goto (-31)) 3 18, xz, xz, xq (.lload_n 3) 1, xq .lreturn 1]
-- TermReader$Packed.isOperatorName(J)Z
def xc_213 : List (Option xRow) := [xq (.lload_n 0) 1, xqc (.invokestatic 17) 3 209 1 443, xz, xz, xq (.istore_n 2) 1, xqv (.iconst 0) 1 0, xq (.istore_n 3) 1, xqv (.iconst 0) 1 0, xq (.istore 4) 2, xz, xqv (.iconst 0) 1 0, xq (.istore 5) 2, xz, xq (.iload 5) 2, xz, xq (.iload_n 2) 1, xqa (.if_icmp .ge 51) 3 67, xz, xz, xq (.iload_n 3) 1, xq (.lload_n 0) 1, xq (.iload 5) 2, xz, xqc (.invokestatic 11) 3 208 2 402, xz, xz, xqc (.invokestatic 36) 3 201 1 444, xz, xz, xqa (.ifCond .eq 7) 3 36, xz, xz, xqv (.iconst 1) 1 1, xqa (.goto 4) 3 37, xz, xz, xqv (.iconst 0) 1 0, xq .iadd 1, xq (.istore_n 3) 1, xq (.iload 4) 2, xz, xq (.lload_n 0) 1, xq (.iload 5) 2, xz, xqc (.invokestatic 11) 3 208 2 402, xz, xz, xqc (.invokestatic 42) 3 205 1 447, xz, xz, xqa (.ifCond .eq 7) 3 57, xz, xz, xqv (.iconst 1) 1 1, xqa (.goto 4) 3 58, xz, xz, xqv (.iconst 0) 1 0, xq .iadd 1, xq (.istore 4) 2, xz, xqv (.iinc 5 1) 3 1, xz, xz, xqa (.goto (-51)) 3 13, xz, xz, xq (.iload_n 2) 1, xqa (.ifCond .eq 14) 3 82, xz, xz, xq (.iload_n 3) 1, xq (.iload_n 2) 1, xqa (.if_icmp .eq 11) 3 84, xz, xz, xq (.iload 4) 2, xz, xq (.iload_n 2) 1, xqa (.if_icmp .eq 5) 3 84, xz, xz, xqv (.iconst 0) 1 0, xq .ireturn 1, xq (.lload_n 0) 1, xqc (.invokestatic 45) 3 210 1 450, xz, xz, xqk (.ldc2_w 49) 3 0 0 453 46, xz, xz, xq .lcmp 1, xqa (.ifCond .eq 27) 3 119, xz, xz, xq (.lload_n 0) 1, xqv (.iconst 0) 1 0, xqc (.invokestatic 11) 3 208 2 402, xz, xz, xqv (.bipush 47) 2 47, xz, xqa (.if_icmp .ne 13) 3 115, xz, xz, xq (.lload_n 0) 1, xqv (.iconst 1) 1 1, xqc (.invokestatic 11) 3 208 2 402, xz, xz, xqv (.bipush 42) 2 42, xz, xqa (.if_icmp .eq 7) 3 119, xz, xz, xqv (.iconst 1) 1 1, xqa (.goto 4) 3 120, xz, xz, xqv (.iconst 0) 1 0, xq .ireturn 1]
-- TermReaderLaw.op(LTermReader;IIJ)I
def xc_214 : List (Option xRow) := [xq (.aload_n 0) 1, xq (.iload_n 1) 1, xq (.iload_n 2) 1, xq (.lload_n 3) 1, xqc (.invokevirtual 7) 3 2 4 436, xz, xz, xqa (.goto 11) 3 18, xz, xz, xq (.astore 5) 2, xz, xqv (.iconst 1) 1 1, xq .ireturn 1, xq (.astore 5) 2, xz, xqv (.iconst 2) 1 2, xq .ireturn 1, xqv (.iconst 0) 1 0, xq .ireturn 1]
-- TermReaderLaw.read(LTermReader;[J)I
def xc_215 : List (Option xRow) := [xq (.aload_n 1) 1, xqv (.iconst 0) 1 0, xq (.aload_n 0) 1, xqc (.invokevirtual 17) 3 3 1 558, xz, xz, xq .i2l 1, xq .lastore 1, xqa (.goto 9) 3 17, xz, xz, xq (.astore_n 2) 1, xqv (.iconst 1) 1 1, xq .ireturn 1, xq (.astore_n 2) 1, xqv (.iconst 2) 1 2, xq .ireturn 1, xqv (.iconst 0) 1 0, xq .ireturn 1]
-- TermReaderLaw.write(LTermReader;I[J)I
def xc_216 : List (Option xRow) := [xq (.aload_n 2) 1, xqv (.iconst 0) 1 0, xq (.aload_n 0) 1, xq (.iload_n 1) 1, xqc (.invokevirtual 23) 3 4 2 898, xz, xz, xq .i2l 1, xq .lastore 1, xqa (.goto 6) 3 15, xz, xz, xq (.astore_n 3) 1, xqv (.iconst 1) 1 1, xq .ireturn 1, xqv (.iconst 0) 1 0, xq .ireturn 1]
-- TermReaderLaw.alike(LTermReader;II[J)I
def xc_217 : List (Option xRow) := [xq (.aload_n 3) 1, xqv (.iconst 0) 1 0, xq (.aload_n 0) 1, xq (.iload_n 1) 1, xq (.iload_n 2) 1, xqc (.invokevirtual 27) 3 7 3 1053, xz, xz, xqa (.ifCond .eq 7) 3 15, xz, xz, xq (.lconst 1) 1, xqa (.goto 4) 3 16, xz, xz, xq (.lconst 0) 1, xq .lastore 1, xqa (.goto 7) 3 24, xz, xz, xq (.astore 4) 2, xz, xqv (.iconst 1) 1 1, xq .ireturn 1, xqv (.iconst 0) 1 0, xq .ireturn 1]
-- TermReaderLaw.look(LTermReader;II[J)I
def xc_218 : List (Option xRow) := [xq (.aload_n 3) 1, xqv (.iconst 0) 1 0, xq (.aload_n 0) 1, xq (.iload_n 1) 1, xq (.iload_n 2) 1, xqc (.invokevirtual 31) 3 8 3 1074, xz, xz, xq .i2l 1, xq .lastore 1, xqa (.goto 11) 3 21, xz, xz, xq (.astore 4) 2, xz, xqv (.iconst 1) 1 1, xq .ireturn 1, xq (.astore 4) 2, xz, xqv (.iconst 2) 1 2, xq .ireturn 1, xqv (.iconst 0) 1 0, xq .ireturn 1]
-- TermReaderLaw.count(LTermReader;I[J)I
def xc_219 : List (Option xRow) := [xq (.aload_n 2) 1, xqv (.iconst 0) 1 0, xq (.aload_n 0) 1, xq (.iload_n 1) 1, xqc (.invokevirtual 35) 3 9 2 1088, xz, xz, xq .i2l 1, xq .lastore 1, xqa (.goto 6) 3 15, xz, xz, xq (.astore_n 3) 1, xqv (.iconst 1) 1 1, xq .ireturn 1, xqv (.iconst 0) 1 0, xq .ireturn 1]
-- TermReaderLaw.law([I)Z
def xc_220 : List (Option xRow) := [xqc (.new 8) 3 0 0 129, xz, xz, xq .dup 1, xqc (.invokespecial 38) 3 0 1 131, xz, xz, xq (.astore_n 1) 1, xqc (.new 39) 3 7 0 1097, xz, xz, xq .dup 1, xqc (.invokespecial 41) 3 130 1 1099, xz, xz, xq (.astore_n 2) 1, xqv (.iconst 1) 1 1, xqc (.newarray .long) 2 0 0 245, xz, xq (.astore_n 3) 1, xqv (.iconst 0) 1 0, xq (.istore 4) 2, xz, xq (.iload 4) 2, xz, xq (.aload_n 0) 1, xq .arraylength 1, xqv (.iconst 5) 1 5, xq .isub 1, xqa (.if_icmp .gt 551) 3 580, xz, xz, xq (.aload_n 0) 1, xq (.iload 4) 2, xz, xq .iaload 1, xqv (.bipush 15) 2 15, xz, xq .iand 1, xqs (.tableswitch 535 0 8 #[49, 106, 198, 242, 298, 323, 336, 411, 479]) 49 574 [(0, 88), (1, 145), (2, 237), (3, 281), (4, 337), (5, 362), (6, 375), (7, 450), (8, 518)], xz, xz, xz, xz, xz, xz, xz, xz, xz, xz, xz, xz, xz, xz, xz, xz, xz, xz, xz, xz, xz, xz, xz, xz, xz, xz, xz, xz, xz, xz, xz, xz, xz, xz, xz, xz, xz, xz, xz, xz, xz, xz, xz, xz, xz, xz, xz, xz, xq (.aload_n 1) 1, xq (.aload_n 0) 1, xq (.iload 4) 2, xz, xqv (.iconst 1) 1 1, xq .iadd 1, xq .iaload 1, xq .i2l 1, xqv (.bipush 32) 2 32, xz, xq .lshl 1, xq (.aload_n 0) 1, xq (.iload 4) 2, xz, xqv (.iconst 2) 1 2, xq .iadd 1, xq .iaload 1, xq .i2l 1, xqk (.ldc2_w 42) 3 0 0 1514 4294967295, xz, xz, xq .land 1, xq .lor 1, xqc (.invokevirtual 44) 3 1 2 395, xz, xz, xq (.aload_n 2) 1, xq (.aload_n 0) 1, xq (.iload 4) 2, xz, xqv (.iconst 1) 1 1, xq .iadd 1, xq .iaload 1, xq .i2l 1, xqv (.bipush 32) 2 32, xz, xq .lshl 1, xq (.aload_n 0) 1, xq (.iload 4) 2, xz, xqv (.iconst 2) 1 2, xq .iadd 1, xq .iaload 1, xq .i2l 1, xqk (.ldc2_w 42) 3 0 0 1514 4294967295, xz, xz, xq .land 1, xq .lor 1, xqc (.invokevirtual 48) 3 152 2 1278, xz, xz, xqa (.if_icmp .eq 434) 3 574, xz, xz, xqv (.iconst 0) 1 0, xq .ireturn 1, xq (.aload_n 1) 1, xq (.aload_n 0) 1, xq (.iload 4) 2, xz, xqv (.iconst 1) 1 1, xq .iadd 1, xq .iaload 1, xq (.aload_n 0) 1, xq (.iload 4) 2, xz, xqv (.iconst 2) 1 2, xq .iadd 1, xq .iaload 1, xq (.aload_n 0) 1, xq (.iload 4) 2, xz, xqv (.iconst 3) 1 3, xq .iadd 1, xq .iaload 1, xq .i2l 1, xqv (.bipush 32) 2 32, xz, xq .lshl 1, xq (.aload_n 0) 1, xq (.iload 4) 2, xz, xqv (.iconst 4) 1 4, xq .iadd 1, xq .iaload 1, xq .i2l 1, xqk (.ldc2_w 42) 3 0 0 1514 4294967295, xz, xz, xq .land 1, xq .lor 1, xqc (.invokestatic 49) 3 214 4 431, xz, xz, xq (.istore 5) 2, xz, xq (.aload_n 2) 1, xq (.aload_n 0) 1, xq (.iload 4) 2, xz, xqv (.iconst 1) 1 1, xq .iadd 1, xq .iaload 1, xq (.aload_n 0) 1, xq (.iload 4) 2, xz, xqv (.iconst 2) 1 2, xq .iadd 1, xq .iaload 1, xq (.aload_n 0) 1, xq (.iload 4) 2, xz, xqv (.iconst 3) 1 3, xq .iadd 1, xq .iaload 1, xq .i2l 1, xqv (.bipush 32) 2 32, xz, xq .lshl 1, xq (.aload_n 0) 1, xq (.iload 4) 2, xz, xqv (.iconst 4) 1 4, xq .iadd 1, xq .iaload 1, xq .i2l 1, xqk (.ldc2_w 42) 3 0 0 1514 4294967295, xz, xz, xq .land 1, xq .lor 1, xqc (.invokevirtual 54) 3 151 4 1251, xz, xz, xq (.aload_n 2) 1, xqc (.invokevirtual 55) 3 131 1 1247, xz, xz, xq (.iload 5) 2, xz, xqa (.if_icmp .eq 5) 3 234, xz, xz, xqv (.iconst 0) 1 0, xq .ireturn 1, xqa (.goto 340) 3 574, xz, xz, xq (.aload_n 1) 1, xq (.aload_n 3) 1, xqc (.invokestatic 58) 3 215 2 554, xz, xz, xq (.istore 5) 2, xz, xq (.aload_n 2) 1, xqc (.invokevirtual 61) 3 177 1 1284, xz, xz, xq (.istore 6) 2, xz, xq (.aload_n 2) 1, xqc (.invokevirtual 55) 3 131 1 1247, xz, xz, xq (.iload 5) 2, xz, xqa (.if_icmp .eq 5) 3 261, xz, xz, xqv (.iconst 0) 1 0, xq .ireturn 1, xq (.iload 5) 2, xz, xqa (.ifCond .ne 15) 3 278, xz, xz, xq (.aload_n 3) 1, xqv (.iconst 0) 1 0, xq .laload 1, xq (.iload 6) 2, xz, xq .i2l 1, xq .lcmp 1, xqa (.ifCond .eq 5) 3 278, xz, xz, xqv (.iconst 0) 1 0, xq .ireturn 1, xqa (.goto 296) 3 574, xz, xz, xq (.aload_n 1) 1, xq (.aload_n 0) 1, xq (.iload 4) 2, xz, xqv (.iconst 1) 1 1, xq .iadd 1, xq .iaload 1, xq (.aload_n 3) 1, xqc (.invokestatic 62) 3 216 3 895, xz, xz, xq (.istore 5) 2, xz, xq (.aload_n 2) 1, xq (.aload_n 0) 1, xq (.iload 4) 2, xz, xqv (.iconst 1) 1 1, xq .iadd 1, xq .iaload 1, xqc (.invokevirtual 65) 3 193 2 1424, xz, xz, xq (.istore 6) 2, xz, xq (.aload_n 2) 1, xqc (.invokevirtual 55) 3 131 1 1247, xz, xz, xq (.iload 5) 2, xz, xqa (.if_icmp .eq 5) 3 317, xz, xz, xqv (.iconst 0) 1 0, xq .ireturn 1, xq (.iload 5) 2, xz, xqa (.ifCond .ne 15) 3 334, xz, xz, xq (.aload_n 3) 1, xqv (.iconst 0) 1 0, xq .laload 1, xq (.iload 6) 2, xz, xq .i2l 1, xq .lcmp 1, xqa (.ifCond .eq 5) 3 334, xz, xz, xqv (.iconst 0) 1 0, xq .ireturn 1, xqa (.goto 240) 3 574, xz, xz, xq (.aload_n 1) 1, xq (.aload_n 0) 1, xq (.iload 4) 2, xz, xqv (.iconst 1) 1 1, xq .iadd 1, xq .iaload 1, xqc (.invokevirtual 66) 3 5 2 415, xz, xz, xq (.aload_n 2) 1, xq (.aload_n 0) 1, xq (.iload 4) 2, xz, xqv (.iconst 1) 1 1, xq .iadd 1, xq .iaload 1, xqc (.invokevirtual 69) 3 194 2 1494, xz, xz, xqa (.if_icmp .eq 217) 3 574, xz, xz, xqv (.iconst 0) 1 0, xq .ireturn 1, xq (.aload_n 1) 1, xqc (.invokevirtual 70) 3 6 1 423, xz, xz, xq (.aload_n 2) 1, xqc (.invokevirtual 74) 3 195 1 1498, xz, xz, xqa (.if_icmp .eq 204) 3 574, xz, xz, xqv (.iconst 0) 1 0, xq .ireturn 1, xq (.aload_n 1) 1, xq (.aload_n 0) 1, xq (.iload 4) 2, xz, xqv (.iconst 1) 1 1, xq .iadd 1, xq .iaload 1, xq (.aload_n 0) 1, xq (.iload 4) 2, xz, xqv (.iconst 2) 1 2, xq .iadd 1, xq .iaload 1, xq (.aload_n 3) 1, xqc (.invokestatic 75) 3 217 4 1050, xz, xz, xq (.istore 5) 2, xz, xq (.aload_n 2) 1, xq (.aload_n 0) 1, xq (.iload 4) 2, xz, xqv (.iconst 1) 1 1, xq .iadd 1, xq .iaload 1, xq (.aload_n 0) 1, xq (.iload 4) 2, xz, xqv (.iconst 2) 1 2, xq .iadd 1, xq .iaload 1, xqc (.invokevirtual 78) 3 196 3 1502, xz, xz, xq (.istore 6) 2, xz, xq (.aload_n 2) 1, xqc (.invokevirtual 55) 3 131 1 1247, xz, xz, xq (.iload 5) 2, xz, xqa (.if_icmp .eq 5) 3 423, xz, xz, xqv (.iconst 0) 1 0, xq .ireturn 1, xq (.iload 5) 2, xz, xqa (.ifCond .ne 22) 3 447, xz, xz, xq (.aload_n 3) 1, xqv (.iconst 0) 1 0, xq .laload 1, xq (.iload 6) 2, xz, xqa (.ifCond .eq 7) 3 440, xz, xz, xq (.lconst 1) 1, xqa (.goto 4) 3 441, xz, xz, xq (.lconst 0) 1, xq .lcmp 1, xqa (.ifCond .eq 5) 3 447, xz, xz, xqv (.iconst 0) 1 0, xq .ireturn 1, xqa (.goto 127) 3 574, xz, xz, xq (.aload_n 1) 1, xq (.aload_n 0) 1, xq (.iload 4) 2, xz, xqv (.iconst 1) 1 1, xq .iadd 1, xq .iaload 1, xq (.aload_n 0) 1, xq (.iload 4) 2, xz, xqv (.iconst 2) 1 2, xq .iadd 1, xq .iaload 1, xq (.aload_n 3) 1, xqc (.invokestatic 79) 3 218 4 1071, xz, xz, xq (.istore 5) 2, xz, xq (.aload_n 2) 1, xq (.aload_n 0) 1, xq (.iload 4) 2, xz, xqv (.iconst 1) 1 1, xq .iadd 1, xq .iaload 1, xq (.aload_n 0) 1, xq (.iload 4) 2, xz, xqv (.iconst 2) 1 2, xq .iadd 1, xq .iaload 1, xqc (.invokevirtual 81) 3 198 3 1506, xz, xz, xq (.istore 6) 2, xz, xq (.aload_n 2) 1, xqc (.invokevirtual 55) 3 131 1 1247, xz, xz, xq (.iload 5) 2, xz, xqa (.if_icmp .eq 5) 3 498, xz, xz, xqv (.iconst 0) 1 0, xq .ireturn 1, xq (.iload 5) 2, xz, xqa (.ifCond .ne 15) 3 515, xz, xz, xq (.aload_n 3) 1, xqv (.iconst 0) 1 0, xq .laload 1, xq (.iload 6) 2, xz, xq .i2l 1, xq .lcmp 1, xqa (.ifCond .eq 5) 3 515, xz, xz, xqv (.iconst 0) 1 0, xq .ireturn 1, xqa (.goto 59) 3 574, xz, xz, xq (.aload_n 1) 1, xq (.aload_n 0) 1, xq (.iload 4) 2, xz, xqv (.iconst 1) 1 1, xq .iadd 1, xq .iaload 1, xq (.aload_n 3) 1, xqc (.invokestatic 82) 3 219 3 1085, xz, xz, xq (.istore 5) 2, xz, xq (.aload_n 2) 1, xq (.aload_n 0) 1, xq (.iload 4) 2, xz, xqv (.iconst 1) 1 1, xq .iadd 1, xq .iaload 1, xqc (.invokevirtual 84) 3 199 2 1510, xz, xz, xq (.istore 6) 2, xz, xq (.aload_n 2) 1, xqc (.invokevirtual 55) 3 131 1 1247, xz, xz, xq (.iload 5) 2, xz, xqa (.if_icmp .eq 5) 3 554, xz, xz, xqv (.iconst 0) 1 0, xq .ireturn 1, xq (.iload 5) 2, xz, xqa (.ifCond .ne 15) 3 571, xz, xz, xq (.aload_n 3) 1, xqv (.iconst 0) 1 0, xq .laload 1, xq (.iload 6) 2, xz, xq .i2l 1, xq .lcmp 1, xqa (.ifCond .eq 5) 3 571, xz, xz, xqv (.iconst 0) 1 0, xq .ireturn 1, xqa (.goto 3) 3 574, xz, xz, xqv (.iinc 4 5) 3 5, xz, xz, xqa (.goto (-554)) 3 23, xz, xz, xqv (.iconst 1) 1 1, xq .ireturn 1]
def xcs : List (List (Option xRow)) := [xc_0, xc_1, xc_2, xc_3, xc_4, xc_5, xc_6, xc_7, xc_8, xc_9, xc_10, xc_11, xc_12, xc_13, xc_14, xc_15, xc_16, xc_17, xc_18, xc_19, xc_20, xc_21, xc_22, xc_23, xc_24, xc_25, xc_26, xc_27, xc_28, xc_29, xc_30, xc_31, xc_32, xc_33, xc_34, xc_35, xc_36, xc_37, xc_38, xc_39, xc_40, xc_41, xc_42, xc_43, xc_44, xc_45, xc_46, xc_47, xc_48, xc_49, xc_50, xc_51, xc_52, xc_53, xc_54, xc_55, xc_56, xc_57, xc_58, xc_59, xc_60, xc_61, xc_62, xc_63, xc_64, xc_65, xc_66, xc_67, xc_68, xc_69, xc_70, xc_71, xc_72, xc_73, xc_74, xc_75, xc_76, xc_77, xc_78, xc_79, xc_80, xc_81, xc_82, xc_83, xc_84, xc_85, xc_86, xc_87, xc_88, xc_89, xc_90, xc_91, xc_92, xc_93, xc_94, xc_95, xc_96, xc_97, xc_98, xc_99, xc_100, xc_101, xc_102, xc_103, xc_104, xc_105, xc_106, xc_107, xc_108, xc_109, xc_110, xc_111, xc_112, xc_113, xc_114, xc_115, xc_116, xc_117, xc_118, xc_119, xc_120, xc_121, xc_122, xc_123, xc_124, xc_125, xc_126, xc_127, xc_128, xc_129, xc_130, xc_131, xc_132, xc_133, xc_134, xc_135, xc_136, xc_137, xc_138, xc_139, xc_140, xc_141, xc_142, xc_143, xc_144, xc_145, xc_146, xc_147, xc_148, xc_149, xc_150, xc_151, xc_152, xc_153, xc_154, xc_155, xc_156, xc_157, xc_158, xc_159, xc_160, xc_161, xc_162, xc_163, xc_164, xc_165, xc_166, xc_167, xc_168, xc_169, xc_170, xc_171, xc_172, xc_173, xc_174, xc_175, xc_176, xc_177, xc_178, xc_179, xc_180, xc_181, xc_182, xc_183, xc_184, xc_185, xc_186, xc_187, xc_188, xc_189, xc_190, xc_191, xc_192, xc_193, xc_194, xc_195, xc_196, xc_197, xc_198, xc_199, xc_200, xc_201, xc_202, xc_203, xc_204, xc_205, xc_206, xc_207, xc_208, xc_209, xc_210, xc_211, xc_212, xc_213, xc_214, xc_215, xc_216, xc_217, xc_218, xc_219, xc_220]
end
section
-- a pure machine: frames of association lists, a heap that is a list of cells and a count of thrown objects
abbrev xC : Type := (FieldType × vp_A) ⊕ (Nat × List Value)
abbrev xL : Type := List (Nat × Value)
abbrev xH : Type := List xC × Nat
abbrev xO : Type := Option Value ⊕ Nat
abbrev xSc : Type := Nat × (Nat → Int32)
/-- the abstract reference of the script -/
abbrev xscr : Nat := 1000000000
def xlk (i : Nat) : xL → Option Value
  | [] => none
  | q :: r => if q.1 == i then some q.2 else xlk i r
def xput (i : Nat) (v : Value) : xL → xL
  | [] => [(i, v)]
  | q :: r => if i < q.1 then (i, v) :: q :: r else q :: xput i v r
def xst1 (i : Nat) (v : Value) (ls : xL) : xL := xput i v (ls.filter (fun q => !(q.1 == i) && !(q.1 + 1 == i && q.2.category == 2)))
def xst2 (i : Nat) (v : Value) (ls : xL) : xL := xput i v (ls.filter (fun q => !(q.1 == i) && (!(q.1 == i + 1) && !(q.1 + 1 == i && q.2.category == 2))))
def xcmp (k : ClassFile.Cond) (x y : Int32) : Bool := match k with
  | .eq => decide (x = y)
  | .ne => decide (¬ x = y)
  | .lt => decide (x < y)
  | .ge => decide (y ≤ x)
  | .gt => decide (y < x)
  | .le => decide (x ≤ y)
def xsw (d : Nat) (x : Int32) : List (Int32 × Nat) → Nat
  | [] => d
  | q :: r => if x = q.1 then q.2 else xsw d x r
def xib (i : Int32) (n : Nat) : Bool := decide (0 ≤ i.toInt) && decide (i.toInt < n)
def xfit (ty : FieldType) (v : Value) : Bool := match ty, v with
  | .int, .int _ => true
  | .boolean, .int x => x == 0 || x == 1
  | .long, .long _ => true
  | .array _, .ref _ => true
  | .object _, .ref _ => true
  | _, _ => false
def xnar (t : ArrayType) (n : Nat) : Option xC := match t with
  | .int => some (.inl (.int, n, .inl fun _ => 0))
  | .long => some (.inl (.long, n, .inr (.inl fun _ => 0)))
  | .char => some (.inl (.char, n, .inl fun _ => 0))
  | _ => none
abbrev xN : Type := Nat × xL × List Value × List xC
def xi1 (st : List Value) (k : Int32 → List Value → Option xN) : Option xN := match st with
  | .int x :: r => k x r
  | _ => none
def xi2 (st : List Value) (k : Int32 → Int32 → List Value → Option xN) : Option xN := match st with
  | .int y :: .int x :: r => k x y r
  | _ => none
def xl1 (st : List Value) (k : Int64 → List Value → Option xN) : Option xN := match st with
  | .long x :: r => k x r
  | _ => none
def xl2 (st : List Value) (k : Int64 → Int64 → List Value → Option xN) : Option xN := match st with
  | .long y :: .long x :: r => k x y r
  | _ => none
def xli (st : List Value) (k : Int64 → Int32 → List Value → Option xN) : Option xN := match st with
  | .int y :: .long x :: r => k x y r
  | _ => none
def xr1 (st : List Value) (k : Nat → List Value → Option xN) : Option xN := match st with
  | .ref x :: r => k x r
  | _ => none
def xri (st : List Value) (k : Nat → Int32 → List Value → Option xN) : Option xN := match st with
  | .int i :: .ref a :: r => k a i r
  | _ => none
def xlki (v : Option Value) (k : Int32 → Option xN) : Option xN := match v with
  | some (.int x) => k x
  | _ => none
def xlkl (v : Option Value) (k : Int64 → Option xN) : Option xN := match v with
  | some (.long x) => k x
  | _ => none
def xlka (v : Option Value) (k : Nat → Option xN) : Option xN := match v with
  | some (.ref x) => k x
  | _ => none
def xarI (c : Option xC) (ty : FieldType) (i : Int32) (k : Nat → (Nat → Int32) → Option xN) : Option xN := match c with
  | some (.inl (t, n, .inl f)) => if t = ty then (if xib i n then k n f else none) else none
  | _ => none
def xarL (c : Option xC) (i : Int32) (k : Nat → (Nat → Int64) → Option xN) : Option xN := match c with
  | some (.inl (t, n, .inr (.inl f))) => if t = .long then (if xib i n then k n f else none) else none
  | _ => none
def xob (c : Option xC) (ci : Nat) (k : List Value → Option xN) : Option xN := match c with
  | some (.inr (cj, fs)) => if cj = ci then k fs else none
  | _ => none
/-- what one simple instruction does: pc, locals, stack, cells; d frames are left; g objects have been thrown -/
def xs (sc : xSc) (nL d g : Nat) (r : xRow) (pc : Nat) (ls : xL) (st : List Value) (A : List xC) : Option xN := match r with
  | (i0, _, r1, r2, _, rv, rk, sw) => match i0 with
  | .iconst _ => some (pc + 1, ls, .int rv :: st, A)
  | .bipush _ => some (pc + 2, ls, .int rv :: st, A)
  | .sipush _ => some (pc + 3, ls, .int rv :: st, A)
  | .lconst n => some (pc + 1, ls, .long (Int64.ofNat n) :: st, A)
  | .ldc2_w _ => some (pc + 3, ls, .long rk :: st, A)
  | .iload i => xlki (xlk i ls) fun x => some (pc + 2, ls, .int x :: st, A)
  | .iload_n i => xlki (xlk i ls) fun x => some (pc + 1, ls, .int x :: st, A)
  | .lload i => xlkl (xlk i ls) fun x => some (pc + 2, ls, .long x :: st, A)
  | .lload_n i => xlkl (xlk i ls) fun x => some (pc + 1, ls, .long x :: st, A)
  | .aload i => xlka (xlk i ls) fun x => some (pc + 2, ls, .ref x :: st, A)
  | .aload_n i => xlka (xlk i ls) fun x => some (pc + 1, ls, .ref x :: st, A)
  | .istore i => xi1 st fun x r => if i < nL then some (pc + 2, xst1 i (.int x) ls, r, A) else none
  | .istore_n i => xi1 st fun x r => if i.val < nL then some (pc + 1, xst1 i (.int x) ls, r, A) else none
  | .lstore i => xl1 st fun x r => if i + 1 < nL then some (pc + 2, xst2 i (.long x) ls, r, A) else none
  | .lstore_n i => xl1 st fun x r => if i.val + 1 < nL then some (pc + 1, xst2 i (.long x) ls, r, A) else none
  | .astore i => xr1 st fun x r => if i < nL then some (pc + 2, xst1 i (.ref x) ls, r, A) else none
  | .astore_n i => xr1 st fun x r => if i.val < nL then some (pc + 1, xst1 i (.ref x) ls, r, A) else none
  | .iinc i _ => xlki (xlk i ls) fun x => if i < nL then some (pc + 3, xst1 i (.int (x + rv)) ls, st, A) else none
  | .dup => match st with
    | v :: q => if v.category = 1 then some (pc + 1, ls, v :: v :: q, A) else none
    | _ => none
  | .dup2 => match st with
    | v :: w :: q => if v.category = 1 then (if w.category = 1 then some (pc + 1, ls, v :: w :: v :: w :: q, A) else none) else none
    | _ => none
  | .pop => match st with
    | v :: q => if v.category = 1 then some (pc + 1, ls, q, A) else none
    | _ => none
  | .iadd => xi2 st fun x y r => some (pc + 1, ls, .int (x + y) :: r, A)
  | .isub => xi2 st fun x y r => some (pc + 1, ls, .int (x - y) :: r, A)
  | .imul => xi2 st fun x y r => some (pc + 1, ls, .int (x * y) :: r, A)
  | .iand => xi2 st fun x y r => some (pc + 1, ls, .int (x &&& y) :: r, A)
  | .irem => xi2 st fun x y r => if y = 0 then none else some (pc + 1, ls, .int (x - x / y * y) :: r, A)
  | .ineg => xi1 st fun x r => some (pc + 1, ls, .int (-x) :: r, A)
  | .ladd => xl2 st fun x y r => some (pc + 1, ls, .long (x + y) :: r, A)
  | .lsub => xl2 st fun x y r => some (pc + 1, ls, .long (x - y) :: r, A)
  | .lmul => xl2 st fun x y r => some (pc + 1, ls, .long (x * y) :: r, A)
  | .land => xl2 st fun x y r => some (pc + 1, ls, .long (x &&& y) :: r, A)
  | .lor => xl2 st fun x y r => some (pc + 1, ls, .long (x ||| y) :: r, A)
  | .ldiv => xl2 st fun x y r => if y = 0 then none else some (pc + 1, ls, .long (x / y) :: r, A)
  | .lrem => xl2 st fun x y r => if y = 0 then none else some (pc + 1, ls, .long (x - x / y * y) :: r, A)
  | .lneg => xl1 st fun x r => some (pc + 1, ls, .long (-x) :: r, A)
  | .lshl => xli st fun x y r => some (pc + 1, ls, .long (x <<< (y.toInt64 &&& 63)) :: r, A)
  | .lushr => xli st fun x y r => some (pc + 1, ls, .long ((x.toUInt64 >>> (y.toInt64.toUInt64 &&& Int64.toUInt64 63)).toInt64) :: r, A)
  | .lcmp => xl2 st fun x y r => some (pc + 1, ls, .int (lg_cmp x y) :: r, A)
  | .i2l => xi1 st fun x r => some (pc + 1, ls, .long x.toInt64 :: r, A)
  | .l2i => xl1 st fun x r => some (pc + 1, ls, .int x.toInt32 :: r, A)
  | .i2c => xi1 st fun x r => some (pc + 1, ls, .int (x.toUInt32 % 65536).toInt32 :: r, A)
  | .ifCond k _ => xi1 st fun x q => some (if xcmp k x 0 then r1 else pc + 3, ls, q, A)
  | .if_icmp k _ => xi2 st fun x y q => some (if xcmp k x y then r1 else pc + 3, ls, q, A)
  | .goto _ => some (r1, ls, st, A)
  | .tableswitch _ _ _ _ => xi1 st fun x q => some (xsw r1 x sw, ls, q, A)
  | .lookupswitch _ _ => xi1 st fun x q => some (xsw r1 x sw, ls, q, A)
  | .getfield _ => xr1 st fun a q => xob A[a]? r1 fun fs => match fs[r2]? with
    | some v => some (pc + 3, ls, v :: q, A)
    | none => none
  | .putfield _ => match st with
    | v :: .ref a :: q => xob A[a]? r1 fun fs => if r2 < fs.length then (if xfit ((xtys.getD r1 []).getD r2 .int) v then some (pc + 3, ls, q, A.set a (.inr (r1, fs.set r2 v))) else none) else none
    | _ => none
  | .arraylength => xr1 st fun a q => if a = xscr then some (pc + 1, ls, .int (nI sc.1) :: q, A) else match A[a]? with
    | some (.inl (_, n, _)) => some (pc + 1, ls, .int (Int32.ofNat n) :: q, A)
    | _ => none
  | .iaload => xri st fun a i q => if a = xscr then (if xib i sc.1 then some (pc + 1, ls, .int (sc.2 i.toNatClampNeg) :: q, A) else none) else xarI A[a]? .int i fun _ f => some (pc + 1, ls, .int (f i.toNatClampNeg) :: q, A)
  | .caload => xri st fun a i q => xarI A[a]? .char i fun _ f => some (pc + 1, ls, .int (f i.toNatClampNeg) :: q, A)
  | .laload => xri st fun a i q => xarL A[a]? i fun _ f => some (pc + 1, ls, .long (f i.toNatClampNeg) :: q, A)
  | .iastore => xi1 st fun x t => xri t fun a i q => xarI A[a]? .int i fun n f => some (pc + 1, ls, q, A.set a (.inl (.int, n, .inl (upd f i.toNatClampNeg x))))
  | .castore => xi1 st fun x t => xri t fun a i q => xarI A[a]? .char i fun n f => some (pc + 1, ls, q, A.set a (.inl (.char, n, .inl (upd f i.toNatClampNeg (vp_nar .char x)))))
  | .lastore => xl1 st fun x t => xri t fun a i q => xarL A[a]? i fun n f => some (pc + 1, ls, q, A.set a (.inl (.long, n, .inr (.inl (vp_updL f i.toNatClampNeg x)))))
  | .newarray t => xi1 st fun x q => if g = 0 then (if xib x 100000 then (if A.length < 1000 then (match xnar t x.toNatClampNeg with
    | some e => some (pc + 2, ls, .ref A.length :: q, A ++ [e])
    | none => none) else none) else none) else none
  | .new _ => if g = 0 then (if A.length < 1000 then (if r1 < 8 then some (pc + 3, ls, .ref A.length :: st, A ++ [.inr (r1, xdfs.getD r1 [])]) else none) else none) else none
  | .invokespecial _ => if r1 = 1000 then (match d with
    | _ + 1 => xr1 st fun _ q => if (q.map fun v => v.category).sum ≤ 8 then some (pc + 3, ls, q, A) else none
    | _ => none) else none
  | .invokestatic _ => if r1 = 1001 then (match d with
    | _ + 1 => xi2 st fun x y q => if (q.map fun v => v.category).sum ≤ 8 then some (pc + 3, ls, .int (if x < y then y else x) :: q, A) else none
    | _ => none) else none
  | _ => none
/-- 0 simple, 1 an end, 2 a call, 3 a throw, 4 a text's number -/
def xkd (r : xRow) : Nat := match r.1 with
  | .ireturn => 1
  | .lreturn => 1
  | .return_ => 1
  | .invokevirtual _ => if r.2.2.1 < 1000 then 2 else 0
  | .invokespecial _ => if r.2.2.1 < 1000 then 2 else 0
  | .invokestatic _ => if r.2.2.1 < 1000 then 2 else 0
  | .new _ => if r.2.2.1 < 1000 then 0 else 3
  | .ldc _ => if r.2.2.1 = 1 then 4 else 0
  | _ => 0
def xret (ty : Option FieldType) (i : Instr) (st : List Value) : Option (Option Value) := match i, st with
  | .ireturn, [.int x] => match ty with
    | some .int => some (some (.int x))
    | some .boolean => if x == 0 || x == 1 then some (some (.int x)) else none
    | _ => none
  | .lreturn, [.long x] => match ty with
    | some .long => some (some (.long x))
    | _ => none
  | .return_, [] => match ty with
    | none => some none
    | _ => none
  | _, _ => none
/-- the method's row -/
def xme (mi : Nat) : xM := xms.getD mi xm_0
def xrow (mi pc : Nat) : Option xRow := (xcs.getD mi []).getD pc none
/-- is the receiver an object of the method's own? -/
def xrecv (ci : Nat) (A : List xC) (v : List Value) : Bool := if ci = 99 then true else match v with
  | .ref a :: _ => match A[a]? with
    | some (.inr (cj, _)) => decide (cj = ci)
    | _ => false
  | _ => false
/-- a call's arguments and the rest of the stack -/
def xcall (r : xRow) (st : List Value) (A : List xC) : Option (List Value × List Value) :=
  if r.2.2.2.1 ≤ st.length then (if ((st.drop r.2.2.2.1).map fun v => v.category).sum ≤ 8 then (if xrecv (xme r.2.2.1).2.2.2.2.1 A (st.take r.2.2.2.1).reverse then (if (lg_sl (st.take r.2.2.2.1).reverse).length ≤ (xme r.2.2.1).2.2.1 then some ((st.take r.2.2.2.1).reverse, st.drop r.2.2.2.1) else none) else none) else none) else none
/-- where a thrown object is caught, and the local in which it is put -/
def xhnd (mi pc e : Nat) : Option (Nat × Nat) := (xhd.find? fun q => q.1 == mi && (Nat.ble q.2.1 pc && (Nat.blt pc q.2.2.1 && q.2.2.2.1 == e))).map fun q => q.2.2.2.2
def xr (sc : xSc) : Nat → Nat → Nat → Nat → xL → List Value → xH → Option (xO × xH)
  | 0, _, _, _, _, _, _ => none
  | n + 1, d, mi, pc, ls, st, h => match xrow mi pc with
    | none => none
    | some r => match xkd r with
      | 0 => match xs sc (xme mi).2.2.1 d h.2 r pc ls st h.1 with
        | none => none
        | some q => xr sc n d mi q.1 q.2.1 q.2.2.1 (q.2.2.2, h.2)
      | 1 => match xret (xme mi).2.2.2.1 r.1 st with
        | none => none
        | some v => some (.inl v, h)
      | 2 => match d with
        | 0 => none
        | d' + 1 => match xcall r st h.1 with
          | none => none
          | some q => match xr sc n d' r.2.2.1 0 (lv_args 0 q.1) [] h with
            | none => none
            | some (.inl v, h') => xr sc n (d' + 1) mi (pc + 3) ls (v.toList ++ q.2) h'
            | some (.inr e, h') => match xhnd mi pc e with
              | none => none
              | some t => xr sc n (d' + 1) mi t.1 (ls.filter fun z => !(z.1 == t.2)) [] h'
      | 4 => match d with
        | d' + 8 => xr sc n (d' + 8) mi (pc + 5) ls (.long r.2.2.2.2.2.2.1 :: st) h
        | _ => none
      | _ => match d with
        | _ + 8 => some (.inr (r.2.2.1 - 1000), (h.1, h.2 + 1))
        | _ => none
end
section
-- what is asked of a row of code, and that every row has it
def xTb : List Cond := lw_tbl.filter goodWord
def xhas (i : Nat) (w : Cond) : Bool := decide (lw_tbl[i]? = some w) && goodWord w
theorem xhas_in {i : Nat} {w : Cond} (h : xhas i w = true) : w ∈ xTb := by
  simp only [xhas, Bool.and_eq_true, decide_eq_true_eq] at h
  exact List.mem_filter.mpr ⟨List.mem_of_getElem? h.1, h.2⟩
def xby (mi : Nat) : ByteArray := (xme mi).2.1
def xcl (ci : Nat) : vw_C := xCl.getD ci ("", xT_0, 0)
def xfok (own : String) (i ci k p : Nat) : Bool := decide (ci < 8) && (decide (k < (xcl ci).2.2) && (xhas p (.fieldLink own i (xcl ci).1 ((xcl ci).2.1 k).2.1 ((xcl ci).2.1 k).2.2.1) && decide (((xcl ci).2.1 k).1 = (xcl ci).1)))
def xfin (y : MethodName) (ci k : Nat) : Bool := if ((xcl ci).2.1 k).2.2.2 then decide (y.name = "<init>") && decide ((xcl ci).1 = y.cls) else true
def xlink (own : String) (i : Nat) (y : MethodName) (p : Nat) (k : Int64) : Bool := if k = 0 then xhas p (.methodLink own i y) else decide (lw_tbl[p]? = some (.methodLinkNest own i y "TermReader"))
def xpar (y : MethodName) (n : Nat) : Bool := decide ((parseMethodDescriptor y.desc).map (fun d => d.parameters.length) = some n)
/-- the pairs of a switch: match values and where they lead -/
def xswp (pc : Nat) : List (Int × Int) → List (Int32 × Nat) → Bool
  | [], [] => true
  | q :: r, z :: t => decide (z.1.toInt = q.1) && (decide ((pc : Int) + q.2 = z.2) && xswp pc r t)
  | _, _ => false
def xswt (pc : Nat) (lo : Int) : List Int → List (Int32 × Nat) → Bool
  | [], [] => true
  | q :: r, z :: t => decide (z.1.toInt = lo) && (decide ((pc : Int) + q = z.2) && xswt pc (lo + 1) r t)
  | _, _ => false
def xlen : Instr → Nat
  | .iconst _ => 1 | .bipush _ => 2 | .sipush _ => 3 | .lconst _ => 1 | .ldc2_w _ => 3 | .ldc _ => 2
  | .iload _ => 2 | .iload_n _ => 1 | .lload _ => 2 | .lload_n _ => 1 | .aload _ => 2 | .aload_n _ => 1
  | .istore _ => 2 | .istore_n _ => 1 | .lstore _ => 2 | .lstore_n _ => 1 | .astore _ => 2 | .astore_n _ => 1
  | .iinc _ _ => 3 | .ifCond _ _ => 3 | .if_icmp _ _ => 3 | .goto _ => 3 | .getfield _ => 3 | .putfield _ => 3
  | .newarray _ => 2 | .new _ => 3 | .invokespecial _ => 3 | .invokestatic _ => 3 | .invokevirtual _ => 3
  | .tableswitch _ _ _ _ => 0 | .lookupswitch _ _ => 0
  | _ => 1
/-- only the law calls its own helpers -/
def xlim (mi : Nat) : Nat := if mi < 214 then 214 else 220
def xokI (mi pc : Nat) (r : xRow) : Bool := match r.1 with
  | .iconst n => decide (Int32.ofInt n = r.2.2.2.2.2.1)
  | .bipush n => decide ((Int8.ofInt n).toInt32 = r.2.2.2.2.2.1)
  | .sipush n => decide ((Int16.ofInt n).toInt32 = r.2.2.2.2.2.1)
  | .iinc _ n => decide (Int32.ofInt n = r.2.2.2.2.2.1)
  | .ldc2_w i => xhas r.2.2.2.2.1 (.constantLong (xme mi).1.cls i r.2.2.2.2.2.2.1)
  | .ifCond _ o => decide ((pc : Int) + o = (r.2.2.1 : Int))
  | .if_icmp _ o => decide ((pc : Int) + o = (r.2.2.1 : Int))
  | .goto o => decide ((pc : Int) + o = (r.2.2.1 : Int))
  | .tableswitch d lo hi offs => decide ((pc : Int) + d = (r.2.2.1 : Int)) && (decide (hi = lo + offs.size - 1) && xswt pc lo offs.toList r.2.2.2.2.2.2.2)
  | .lookupswitch d ps => decide ((pc : Int) + d = (r.2.2.1 : Int)) && ((ps.toList.zip (ps.toList.drop 1)).all (fun (a, next) => a.1 < next.1) && xswp pc ps.toList r.2.2.2.2.2.2.2)
  | .getfield i => xfok (xme mi).1.cls i r.2.2.1 r.2.2.2.1 r.2.2.2.2.1
  | .putfield i => xfok (xme mi).1.cls i r.2.2.1 r.2.2.2.1 r.2.2.2.2.1 && xfin (xme mi).1 r.2.2.1 r.2.2.2.1
  | .newarray t => xhas r.2.2.2.2.1 (.arrayClass (newarray.typeOf t))
  | .new i => if r.2.2.1 < 8 then xhas r.2.2.2.2.1 (.classLink (xme mi).1.cls i (xcl r.2.2.1).1) else true
  | .invokevirtual i => if r.2.2.1 < 1000 then (decide (r.2.2.1 < xlim mi) && (xlink (xme mi).1.cls i (xme r.2.2.1).1 r.2.2.2.2.1 r.2.2.2.2.2.2.1 && (decide (0 < r.2.2.2.1) && (xpar (xme r.2.2.1).1 (r.2.2.2.1 - 1) && (decide ((xme r.2.2.1).2.2.2.2.1 ≠ 99) && decide ((xme r.2.2.1).1.name ≠ "<init>")))))) else true
  | .invokespecial i => if r.2.2.1 < 1000 then (decide (r.2.2.1 < xlim mi) && (xhas r.2.2.2.2.1 (.methodLink (xme mi).1.cls i (xme r.2.2.1).1) && (decide (0 < r.2.2.2.1) && (xpar (xme r.2.2.1).1 (r.2.2.2.1 - 1) && (decide ((xme r.2.2.1).1.name = "<init>") && (decide ((xme r.2.2.1).2.2.2.1 = none) && decide ((xme r.2.2.1).2.2.2.2.1 ≠ 99))))))) else (if r.2.2.1 = 1000 then xhas r.2.2.2.2.1 (.methodLink (xme mi).1.cls i objectInit) else true)
  | .invokestatic i => if r.2.2.1 < 1000 then (decide (r.2.2.1 < xlim mi) && (xhas r.2.2.2.2.1 (.methodLink (xme mi).1.cls i (xme r.2.2.1).1) && (xpar (xme r.2.2.1).1 r.2.2.2.1 && decide ((xme r.2.2.1).2.2.2.2.1 = 99)))) else (if r.2.2.1 = 1001 then xhas r.2.2.2.2.1 (.methodLink (xme mi).1.cls i Lib.Math.max.name) else true)
  | _ => true
def xok (mi pc : Nat) (r : xRow) : Bool := decide (decode (xby mi) pc = .ok (r.1, r.2.1)) && ((xlen r.1 == 0 || xlen r.1 == r.2.1) && xokI mi pc r)
def xall (mi : Nat) : Bool := (List.range (xcs.getD mi []).length).all fun pc => match xrow mi pc with
  | none => true
  | some r => xok mi pc r
theorem xall_row {mi pc : Nat} {r : xRow} (h : xall mi = true) (hr : xrow mi pc = some r) : xok mi pc r = true := by
  have hlt : pc < (xcs.getD mi []).length := by
    rcases Nat.lt_or_ge pc (xcs.getD mi []).length with q | q
    · exact q
    · unfold xrow at hr
      rw [List.getD_eq_getElem?_getD, List.getElem?_eq_none q] at hr
      cases hr
  have h1 := List.all_eq_true.mp h pc (List.mem_range.mpr hlt)
  rw [hr] at h1
  exact h1
/-- what is asked of a method -/
def xokM (mi : Nat) : Bool :=
  (if mi < 214 then xhas (xme mi).2.2.2.2.2.1 (.code (xme mi).1 (xme mi).2.1 (xme mi).2.2.1 (xme mi).2.2.2.1) else true) &&
  ((if (xme mi).2.2.2.2.1 = 99 then (if mi < 220 then xhas (xme mi).2.2.2.2.2.2.1 (.static (xme mi).1) else true) else (xhas (xme mi).2.2.2.2.2.2.1 (.instanceMethod (xme mi).1) && (decide ((xme mi).1.cls = (xcl (xme mi).2.2.2.2.1).1) && (decide ((xme mi).2.2.2.2.1 < 8) &&
    (if (xme mi).1.name = "<init>" then true else xhas (xme mi).2.2.2.2.2.2.2.1 (.selects (xme mi).1.cls (xme mi).1 (xme mi).1)))))) &&
  (xhas (xme mi).2.2.2.2.2.2.2.2 (.initialized (xme mi).1.cls) && (decide ((xme mi).1.cls ≠ "java/lang/invoke/MethodHandle") && (decide ((xme mi).1.cls ≠ "java/lang/invoke/VarHandle") && (plainName (xme mi).1.cls && decide ((xme mi).2.2.1 ≤ 40))))))
end
section
set_option maxRecDepth 100000 in
theorem xa_0 : xall 0 = true := by decide +kernel
set_option maxRecDepth 100000 in
theorem xa_1 : xall 1 = true := by decide +kernel
set_option maxRecDepth 100000 in
theorem xa_2 : xall 2 = true := by decide +kernel
set_option maxRecDepth 100000 in
theorem xa_3 : xall 3 = true := by decide +kernel
set_option maxRecDepth 100000 in
theorem xa_4 : xall 4 = true := by decide +kernel
set_option maxRecDepth 100000 in
theorem xa_5 : xall 5 = true := by decide +kernel
set_option maxRecDepth 100000 in
theorem xa_6 : xall 6 = true := by decide +kernel
set_option maxRecDepth 100000 in
theorem xa_7 : xall 7 = true := by decide +kernel
set_option maxRecDepth 100000 in
theorem xa_8 : xall 8 = true := by decide +kernel
set_option maxRecDepth 100000 in
theorem xa_9 : xall 9 = true := by decide +kernel
set_option maxRecDepth 100000 in
theorem xa_10 : xall 10 = true := by decide +kernel
set_option maxRecDepth 100000 in
theorem xa_11 : xall 11 = true := by decide +kernel
set_option maxRecDepth 100000 in
theorem xa_12 : xall 12 = true := by decide +kernel
set_option maxRecDepth 100000 in
theorem xa_13 : xall 13 = true := by decide +kernel
set_option maxRecDepth 100000 in
theorem xa_14 : xall 14 = true := by decide +kernel
set_option maxRecDepth 100000 in
theorem xa_15 : xall 15 = true := by decide +kernel
set_option maxRecDepth 100000 in
theorem xa_16 : xall 16 = true := by decide +kernel
set_option maxRecDepth 100000 in
theorem xa_17 : xall 17 = true := by decide +kernel
set_option maxRecDepth 100000 in
theorem xa_18 : xall 18 = true := by decide +kernel
set_option maxRecDepth 100000 in
theorem xa_19 : xall 19 = true := by decide +kernel
set_option maxRecDepth 100000 in
theorem xa_20 : xall 20 = true := by decide +kernel
set_option maxRecDepth 100000 in
theorem xa_21 : xall 21 = true := by decide +kernel
set_option maxRecDepth 100000 in
theorem xa_22 : xall 22 = true := by decide +kernel
end
section
set_option maxRecDepth 100000 in
theorem xa_23 : xall 23 = true := by decide +kernel
set_option maxRecDepth 100000 in
theorem xa_24 : xall 24 = true := by decide +kernel
set_option maxRecDepth 100000 in
theorem xa_25 : xall 25 = true := by decide +kernel
set_option maxRecDepth 100000 in
theorem xa_26 : xall 26 = true := by decide +kernel
set_option maxRecDepth 100000 in
theorem xa_27 : xall 27 = true := by decide +kernel
set_option maxRecDepth 100000 in
theorem xa_28 : xall 28 = true := by decide +kernel
set_option maxRecDepth 100000 in
theorem xa_29 : xall 29 = true := by decide +kernel
set_option maxRecDepth 100000 in
theorem xa_30 : xall 30 = true := by decide +kernel
set_option maxRecDepth 100000 in
theorem xa_31 : xall 31 = true := by decide +kernel
set_option maxRecDepth 100000 in
theorem xa_32 : xall 32 = true := by decide +kernel
set_option maxRecDepth 100000 in
theorem xa_33 : xall 33 = true := by decide +kernel
set_option maxRecDepth 100000 in
theorem xa_34 : xall 34 = true := by decide +kernel
set_option maxRecDepth 100000 in
theorem xa_35 : xall 35 = true := by decide +kernel
set_option maxRecDepth 100000 in
theorem xa_36 : xall 36 = true := by decide +kernel
set_option maxRecDepth 100000 in
theorem xa_37 : xall 37 = true := by decide +kernel
set_option maxRecDepth 100000 in
theorem xa_38 : xall 38 = true := by decide +kernel
set_option maxRecDepth 100000 in
theorem xa_39 : xall 39 = true := by decide +kernel
set_option maxRecDepth 100000 in
theorem xa_40 : xall 40 = true := by decide +kernel
set_option maxRecDepth 100000 in
theorem xa_41 : xall 41 = true := by decide +kernel
set_option maxRecDepth 100000 in
theorem xa_42 : xall 42 = true := by decide +kernel
set_option maxRecDepth 100000 in
theorem xa_43 : xall 43 = true := by decide +kernel
set_option maxRecDepth 100000 in
theorem xa_44 : xall 44 = true := by decide +kernel
set_option maxRecDepth 100000 in
theorem xa_45 : xall 45 = true := by decide +kernel
set_option maxRecDepth 100000 in
theorem xa_46 : xall 46 = true := by decide +kernel
set_option maxRecDepth 100000 in
theorem xa_47 : xall 47 = true := by decide +kernel
set_option maxRecDepth 100000 in
theorem xa_48 : xall 48 = true := by decide +kernel
set_option maxRecDepth 100000 in
theorem xa_49 : xall 49 = true := by decide +kernel
end
section
set_option maxRecDepth 100000 in
theorem xa_50 : xall 50 = true := by decide +kernel
set_option maxRecDepth 100000 in
theorem xa_51 : xall 51 = true := by decide +kernel
set_option maxRecDepth 100000 in
theorem xa_52 : xall 52 = true := by decide +kernel
set_option maxRecDepth 100000 in
theorem xa_53 : xall 53 = true := by decide +kernel
set_option maxRecDepth 100000 in
theorem xa_54 : xall 54 = true := by decide +kernel
set_option maxRecDepth 100000 in
theorem xa_55 : xall 55 = true := by decide +kernel
set_option maxRecDepth 100000 in
theorem xa_56 : xall 56 = true := by decide +kernel
set_option maxRecDepth 100000 in
theorem xa_57 : xall 57 = true := by decide +kernel
set_option maxRecDepth 100000 in
theorem xa_58 : xall 58 = true := by decide +kernel
set_option maxRecDepth 100000 in
theorem xa_59 : xall 59 = true := by decide +kernel
set_option maxRecDepth 100000 in
theorem xa_60 : xall 60 = true := by decide +kernel
set_option maxRecDepth 100000 in
theorem xa_61 : xall 61 = true := by decide +kernel
set_option maxRecDepth 100000 in
theorem xa_62 : xall 62 = true := by decide +kernel
set_option maxRecDepth 100000 in
theorem xa_63 : xall 63 = true := by decide +kernel
set_option maxRecDepth 100000 in
theorem xa_64 : xall 64 = true := by decide +kernel
set_option maxRecDepth 100000 in
theorem xa_65 : xall 65 = true := by decide +kernel
set_option maxRecDepth 100000 in
theorem xa_66 : xall 66 = true := by decide +kernel
set_option maxRecDepth 100000 in
theorem xa_67 : xall 67 = true := by decide +kernel
set_option maxRecDepth 100000 in
theorem xa_68 : xall 68 = true := by decide +kernel
set_option maxRecDepth 100000 in
theorem xa_69 : xall 69 = true := by decide +kernel
set_option maxRecDepth 100000 in
theorem xa_70 : xall 70 = true := by decide +kernel
set_option maxRecDepth 100000 in
theorem xa_71 : xall 71 = true := by decide +kernel
set_option maxRecDepth 100000 in
theorem xa_72 : xall 72 = true := by decide +kernel
set_option maxRecDepth 100000 in
theorem xa_73 : xall 73 = true := by decide +kernel
set_option maxRecDepth 100000 in
theorem xa_74 : xall 74 = true := by decide +kernel
set_option maxRecDepth 100000 in
theorem xa_75 : xall 75 = true := by decide +kernel
set_option maxRecDepth 100000 in
theorem xa_76 : xall 76 = true := by decide +kernel
set_option maxRecDepth 100000 in
theorem xa_77 : xall 77 = true := by decide +kernel
set_option maxRecDepth 100000 in
theorem xa_78 : xall 78 = true := by decide +kernel
set_option maxRecDepth 100000 in
theorem xa_79 : xall 79 = true := by decide +kernel
end
section
set_option maxRecDepth 100000 in
theorem xa_80 : xall 80 = true := by decide +kernel
set_option maxRecDepth 100000 in
theorem xa_81 : xall 81 = true := by decide +kernel
set_option maxRecDepth 100000 in
theorem xa_82 : xall 82 = true := by decide +kernel
set_option maxRecDepth 100000 in
theorem xa_83 : xall 83 = true := by decide +kernel
set_option maxRecDepth 100000 in
theorem xa_84 : xall 84 = true := by decide +kernel
set_option maxRecDepth 100000 in
theorem xa_85 : xall 85 = true := by decide +kernel
set_option maxRecDepth 100000 in
theorem xa_86 : xall 86 = true := by decide +kernel
set_option maxRecDepth 100000 in
theorem xa_87 : xall 87 = true := by decide +kernel
set_option maxRecDepth 100000 in
theorem xa_88 : xall 88 = true := by decide +kernel
set_option maxRecDepth 100000 in
theorem xa_89 : xall 89 = true := by decide +kernel
set_option maxRecDepth 100000 in
theorem xa_90 : xall 90 = true := by decide +kernel
set_option maxRecDepth 100000 in
theorem xa_91 : xall 91 = true := by decide +kernel
set_option maxRecDepth 100000 in
theorem xa_92 : xall 92 = true := by decide +kernel
set_option maxRecDepth 100000 in
theorem xa_93 : xall 93 = true := by decide +kernel
set_option maxRecDepth 100000 in
theorem xa_94 : xall 94 = true := by decide +kernel
set_option maxRecDepth 100000 in
theorem xa_95 : xall 95 = true := by decide +kernel
set_option maxRecDepth 100000 in
theorem xa_96 : xall 96 = true := by decide +kernel
set_option maxRecDepth 100000 in
theorem xa_97 : xall 97 = true := by decide +kernel
set_option maxRecDepth 100000 in
theorem xa_98 : xall 98 = true := by decide +kernel
set_option maxRecDepth 100000 in
theorem xa_99 : xall 99 = true := by decide +kernel
set_option maxRecDepth 100000 in
theorem xa_100 : xall 100 = true := by decide +kernel
set_option maxRecDepth 100000 in
theorem xa_101 : xall 101 = true := by decide +kernel
end
section
set_option maxRecDepth 100000 in
theorem xa_102 : xall 102 = true := by decide +kernel
set_option maxRecDepth 100000 in
theorem xa_103 : xall 103 = true := by decide +kernel
set_option maxRecDepth 100000 in
theorem xa_104 : xall 104 = true := by decide +kernel
set_option maxRecDepth 100000 in
theorem xa_105 : xall 105 = true := by decide +kernel
set_option maxRecDepth 100000 in
theorem xa_106 : xall 106 = true := by decide +kernel
set_option maxRecDepth 100000 in
theorem xa_107 : xall 107 = true := by decide +kernel
set_option maxRecDepth 100000 in
theorem xa_108 : xall 108 = true := by decide +kernel
set_option maxRecDepth 100000 in
theorem xa_109 : xall 109 = true := by decide +kernel
set_option maxRecDepth 100000 in
theorem xa_110 : xall 110 = true := by decide +kernel
set_option maxRecDepth 100000 in
theorem xa_111 : xall 111 = true := by decide +kernel
set_option maxRecDepth 100000 in
theorem xa_112 : xall 112 = true := by decide +kernel
set_option maxRecDepth 100000 in
theorem xa_113 : xall 113 = true := by decide +kernel
set_option maxRecDepth 100000 in
theorem xa_114 : xall 114 = true := by decide +kernel
set_option maxRecDepth 100000 in
theorem xa_115 : xall 115 = true := by decide +kernel
set_option maxRecDepth 100000 in
theorem xa_116 : xall 116 = true := by decide +kernel
set_option maxRecDepth 100000 in
theorem xa_117 : xall 117 = true := by decide +kernel
set_option maxRecDepth 100000 in
theorem xa_118 : xall 118 = true := by decide +kernel
set_option maxRecDepth 100000 in
theorem xa_119 : xall 119 = true := by decide +kernel
end
section
set_option maxRecDepth 100000 in
theorem xa_120 : xall 120 = true := by decide +kernel
set_option maxRecDepth 100000 in
theorem xa_121 : xall 121 = true := by decide +kernel
set_option maxRecDepth 100000 in
theorem xa_122 : xall 122 = true := by decide +kernel
set_option maxRecDepth 100000 in
theorem xa_123 : xall 123 = true := by decide +kernel
set_option maxRecDepth 100000 in
theorem xa_124 : xall 124 = true := by decide +kernel
set_option maxRecDepth 100000 in
theorem xa_125 : xall 125 = true := by decide +kernel
set_option maxRecDepth 100000 in
theorem xa_126 : xall 126 = true := by decide +kernel
set_option maxRecDepth 100000 in
theorem xa_127 : xall 127 = true := by decide +kernel
set_option maxRecDepth 100000 in
theorem xa_128 : xall 128 = true := by decide +kernel
set_option maxRecDepth 100000 in
theorem xa_129 : xall 129 = true := by decide +kernel
set_option maxRecDepth 100000 in
theorem xa_130 : xall 130 = true := by decide +kernel
set_option maxRecDepth 100000 in
theorem xa_131 : xall 131 = true := by decide +kernel
set_option maxRecDepth 100000 in
theorem xa_132 : xall 132 = true := by decide +kernel
set_option maxRecDepth 100000 in
theorem xa_133 : xall 133 = true := by decide +kernel
set_option maxRecDepth 100000 in
theorem xa_134 : xall 134 = true := by decide +kernel
set_option maxRecDepth 100000 in
theorem xa_135 : xall 135 = true := by decide +kernel
end
section
set_option maxRecDepth 100000 in
theorem xa_136 : xall 136 = true := by decide +kernel
set_option maxRecDepth 100000 in
theorem xa_137 : xall 137 = true := by decide +kernel
set_option maxRecDepth 100000 in
theorem xa_138 : xall 138 = true := by decide +kernel
set_option maxRecDepth 100000 in
theorem xa_139 : xall 139 = true := by decide +kernel
set_option maxRecDepth 100000 in
theorem xa_140 : xall 140 = true := by decide +kernel
set_option maxRecDepth 100000 in
theorem xa_141 : xall 141 = true := by decide +kernel
set_option maxRecDepth 100000 in
theorem xa_142 : xall 142 = true := by decide +kernel
set_option maxRecDepth 100000 in
theorem xa_143 : xall 143 = true := by decide +kernel
set_option maxRecDepth 100000 in
theorem xa_144 : xall 144 = true := by decide +kernel
set_option maxRecDepth 100000 in
theorem xa_145 : xall 145 = true := by decide +kernel
set_option maxRecDepth 100000 in
theorem xa_146 : xall 146 = true := by decide +kernel
set_option maxRecDepth 100000 in
theorem xa_147 : xall 147 = true := by decide +kernel
set_option maxRecDepth 100000 in
theorem xa_148 : xall 148 = true := by decide +kernel
set_option maxRecDepth 100000 in
theorem xa_149 : xall 149 = true := by decide +kernel
set_option maxRecDepth 100000 in
theorem xa_150 : xall 150 = true := by decide +kernel
set_option maxRecDepth 100000 in
theorem xa_151 : xall 151 = true := by decide +kernel
set_option maxRecDepth 100000 in
theorem xa_152 : xall 152 = true := by decide +kernel
set_option maxRecDepth 100000 in
theorem xa_153 : xall 153 = true := by decide +kernel
set_option maxRecDepth 100000 in
theorem xa_154 : xall 154 = true := by decide +kernel
set_option maxRecDepth 100000 in
theorem xa_155 : xall 155 = true := by decide +kernel
set_option maxRecDepth 100000 in
theorem xa_156 : xall 156 = true := by decide +kernel
end
section
set_option maxRecDepth 100000 in
theorem xa_157 : xall 157 = true := by decide +kernel
set_option maxRecDepth 100000 in
theorem xa_158 : xall 158 = true := by decide +kernel
set_option maxRecDepth 100000 in
theorem xa_159 : xall 159 = true := by decide +kernel
set_option maxRecDepth 100000 in
theorem xa_160 : xall 160 = true := by decide +kernel
set_option maxRecDepth 100000 in
theorem xa_161 : xall 161 = true := by decide +kernel
set_option maxRecDepth 100000 in
theorem xa_162 : xall 162 = true := by decide +kernel
set_option maxRecDepth 100000 in
theorem xa_163 : xall 163 = true := by decide +kernel
set_option maxRecDepth 100000 in
theorem xa_164 : xall 164 = true := by decide +kernel
set_option maxRecDepth 100000 in
theorem xa_165 : xall 165 = true := by decide +kernel
end
section
set_option maxRecDepth 100000 in
theorem xa_166 : xall 166 = true := by decide +kernel
set_option maxRecDepth 100000 in
theorem xa_167 : xall 167 = true := by decide +kernel
set_option maxRecDepth 100000 in
theorem xa_168 : xall 168 = true := by decide +kernel
set_option maxRecDepth 100000 in
theorem xa_169 : xall 169 = true := by decide +kernel
set_option maxRecDepth 100000 in
theorem xa_170 : xall 170 = true := by decide +kernel
set_option maxRecDepth 100000 in
theorem xa_171 : xall 171 = true := by decide +kernel
set_option maxRecDepth 100000 in
theorem xa_172 : xall 172 = true := by decide +kernel
set_option maxRecDepth 100000 in
theorem xa_173 : xall 173 = true := by decide +kernel
set_option maxRecDepth 100000 in
theorem xa_174 : xall 174 = true := by decide +kernel
set_option maxRecDepth 100000 in
theorem xa_175 : xall 175 = true := by decide +kernel
end
section
set_option maxRecDepth 100000 in
theorem xa_176 : xall 176 = true := by decide +kernel
set_option maxRecDepth 100000 in
theorem xa_177 : xall 177 = true := by decide +kernel
set_option maxRecDepth 100000 in
theorem xa_178 : xall 178 = true := by decide +kernel
set_option maxRecDepth 100000 in
theorem xa_179 : xall 179 = true := by decide +kernel
set_option maxRecDepth 100000 in
theorem xa_180 : xall 180 = true := by decide +kernel
set_option maxRecDepth 100000 in
theorem xa_181 : xall 181 = true := by decide +kernel
set_option maxRecDepth 100000 in
theorem xa_182 : xall 182 = true := by decide +kernel
set_option maxRecDepth 100000 in
theorem xa_183 : xall 183 = true := by decide +kernel
set_option maxRecDepth 100000 in
theorem xa_184 : xall 184 = true := by decide +kernel
set_option maxRecDepth 100000 in
theorem xa_185 : xall 185 = true := by decide +kernel
set_option maxRecDepth 100000 in
theorem xa_186 : xall 186 = true := by decide +kernel
end
section
set_option maxRecDepth 100000 in
theorem xa_187 : xall 187 = true := by decide +kernel
set_option maxRecDepth 100000 in
theorem xa_188 : xall 188 = true := by decide +kernel
set_option maxRecDepth 100000 in
theorem xa_189 : xall 189 = true := by decide +kernel
set_option maxRecDepth 100000 in
theorem xa_190 : xall 190 = true := by decide +kernel
set_option maxRecDepth 100000 in
theorem xa_191 : xall 191 = true := by decide +kernel
set_option maxRecDepth 100000 in
theorem xa_192 : xall 192 = true := by decide +kernel
set_option maxRecDepth 100000 in
theorem xa_193 : xall 193 = true := by decide +kernel
set_option maxRecDepth 100000 in
theorem xa_194 : xall 194 = true := by decide +kernel
set_option maxRecDepth 100000 in
theorem xa_195 : xall 195 = true := by decide +kernel
set_option maxRecDepth 100000 in
theorem xa_196 : xall 196 = true := by decide +kernel
end
section
set_option maxRecDepth 100000 in
theorem xa_197 : xall 197 = true := by decide +kernel
set_option maxRecDepth 100000 in
theorem xa_198 : xall 198 = true := by decide +kernel
set_option maxRecDepth 100000 in
theorem xa_199 : xall 199 = true := by decide +kernel
set_option maxRecDepth 100000 in
theorem xa_200 : xall 200 = true := by decide +kernel
set_option maxRecDepth 100000 in
theorem xa_201 : xall 201 = true := by decide +kernel
set_option maxRecDepth 100000 in
theorem xa_202 : xall 202 = true := by decide +kernel
set_option maxRecDepth 100000 in
theorem xa_203 : xall 203 = true := by decide +kernel
set_option maxRecDepth 100000 in
theorem xa_204 : xall 204 = true := by decide +kernel
set_option maxRecDepth 100000 in
theorem xa_205 : xall 205 = true := by decide +kernel
set_option maxRecDepth 100000 in
theorem xa_206 : xall 206 = true := by decide +kernel
set_option maxRecDepth 100000 in
theorem xa_207 : xall 207 = true := by decide +kernel
set_option maxRecDepth 100000 in
theorem xa_208 : xall 208 = true := by decide +kernel
set_option maxRecDepth 100000 in
theorem xa_209 : xall 209 = true := by decide +kernel
set_option maxRecDepth 100000 in
theorem xa_210 : xall 210 = true := by decide +kernel
set_option maxRecDepth 100000 in
theorem xa_211 : xall 211 = true := by decide +kernel
set_option maxRecDepth 100000 in
theorem xa_212 : xall 212 = true := by decide +kernel
set_option maxRecDepth 100000 in
theorem xa_213 : xall 213 = true := by decide +kernel
set_option maxRecDepth 100000 in
theorem xa_214 : xall 214 = true := by decide +kernel
set_option maxRecDepth 100000 in
theorem xa_215 : xall 215 = true := by decide +kernel
set_option maxRecDepth 100000 in
theorem xa_216 : xall 216 = true := by decide +kernel
set_option maxRecDepth 100000 in
theorem xa_217 : xall 217 = true := by decide +kernel
set_option maxRecDepth 100000 in
theorem xa_218 : xall 218 = true := by decide +kernel
set_option maxRecDepth 100000 in
theorem xa_219 : xall 219 = true := by decide +kernel
set_option maxRecDepth 100000 in
theorem xa_220 : xall 220 = true := by decide +kernel
end
section
set_option maxRecDepth 100000 in
theorem xn_0 : xokM 0 = true := by decide +kernel
set_option maxRecDepth 100000 in
theorem xn_1 : xokM 1 = true := by decide +kernel
set_option maxRecDepth 100000 in
theorem xn_2 : xokM 2 = true := by decide +kernel
set_option maxRecDepth 100000 in
theorem xn_3 : xokM 3 = true := by decide +kernel
set_option maxRecDepth 100000 in
theorem xn_4 : xokM 4 = true := by decide +kernel
set_option maxRecDepth 100000 in
theorem xn_5 : xokM 5 = true := by decide +kernel
set_option maxRecDepth 100000 in
theorem xn_6 : xokM 6 = true := by decide +kernel
set_option maxRecDepth 100000 in
theorem xn_7 : xokM 7 = true := by decide +kernel
set_option maxRecDepth 100000 in
theorem xn_8 : xokM 8 = true := by decide +kernel
set_option maxRecDepth 100000 in
theorem xn_9 : xokM 9 = true := by decide +kernel
set_option maxRecDepth 100000 in
theorem xn_10 : xokM 10 = true := by decide +kernel
set_option maxRecDepth 100000 in
theorem xn_11 : xokM 11 = true := by decide +kernel
set_option maxRecDepth 100000 in
theorem xn_12 : xokM 12 = true := by decide +kernel
set_option maxRecDepth 100000 in
theorem xn_13 : xokM 13 = true := by decide +kernel
set_option maxRecDepth 100000 in
theorem xn_14 : xokM 14 = true := by decide +kernel
set_option maxRecDepth 100000 in
theorem xn_15 : xokM 15 = true := by decide +kernel
set_option maxRecDepth 100000 in
theorem xn_16 : xokM 16 = true := by decide +kernel
set_option maxRecDepth 100000 in
theorem xn_17 : xokM 17 = true := by decide +kernel
set_option maxRecDepth 100000 in
theorem xn_18 : xokM 18 = true := by decide +kernel
set_option maxRecDepth 100000 in
theorem xn_19 : xokM 19 = true := by decide +kernel
set_option maxRecDepth 100000 in
theorem xn_20 : xokM 20 = true := by decide +kernel
set_option maxRecDepth 100000 in
theorem xn_21 : xokM 21 = true := by decide +kernel
set_option maxRecDepth 100000 in
theorem xn_22 : xokM 22 = true := by decide +kernel
set_option maxRecDepth 100000 in
theorem xn_23 : xokM 23 = true := by decide +kernel
set_option maxRecDepth 100000 in
theorem xn_24 : xokM 24 = true := by decide +kernel
set_option maxRecDepth 100000 in
theorem xn_25 : xokM 25 = true := by decide +kernel
set_option maxRecDepth 100000 in
theorem xn_26 : xokM 26 = true := by decide +kernel
set_option maxRecDepth 100000 in
theorem xn_27 : xokM 27 = true := by decide +kernel
set_option maxRecDepth 100000 in
theorem xn_28 : xokM 28 = true := by decide +kernel
set_option maxRecDepth 100000 in
theorem xn_29 : xokM 29 = true := by decide +kernel
set_option maxRecDepth 100000 in
theorem xn_30 : xokM 30 = true := by decide +kernel
set_option maxRecDepth 100000 in
theorem xn_31 : xokM 31 = true := by decide +kernel
set_option maxRecDepth 100000 in
theorem xn_32 : xokM 32 = true := by decide +kernel
set_option maxRecDepth 100000 in
theorem xn_33 : xokM 33 = true := by decide +kernel
set_option maxRecDepth 100000 in
theorem xn_34 : xokM 34 = true := by decide +kernel
set_option maxRecDepth 100000 in
theorem xn_35 : xokM 35 = true := by decide +kernel
set_option maxRecDepth 100000 in
theorem xn_36 : xokM 36 = true := by decide +kernel
set_option maxRecDepth 100000 in
theorem xn_37 : xokM 37 = true := by decide +kernel
set_option maxRecDepth 100000 in
theorem xn_38 : xokM 38 = true := by decide +kernel
set_option maxRecDepth 100000 in
theorem xn_39 : xokM 39 = true := by decide +kernel
set_option maxRecDepth 100000 in
theorem xn_40 : xokM 40 = true := by decide +kernel
set_option maxRecDepth 100000 in
theorem xn_41 : xokM 41 = true := by decide +kernel
set_option maxRecDepth 100000 in
theorem xn_42 : xokM 42 = true := by decide +kernel
set_option maxRecDepth 100000 in
theorem xn_43 : xokM 43 = true := by decide +kernel
set_option maxRecDepth 100000 in
theorem xn_44 : xokM 44 = true := by decide +kernel
set_option maxRecDepth 100000 in
theorem xn_45 : xokM 45 = true := by decide +kernel
set_option maxRecDepth 100000 in
theorem xn_46 : xokM 46 = true := by decide +kernel
set_option maxRecDepth 100000 in
theorem xn_47 : xokM 47 = true := by decide +kernel
set_option maxRecDepth 100000 in
theorem xn_48 : xokM 48 = true := by decide +kernel
set_option maxRecDepth 100000 in
theorem xn_49 : xokM 49 = true := by decide +kernel
set_option maxRecDepth 100000 in
theorem xn_50 : xokM 50 = true := by decide +kernel
set_option maxRecDepth 100000 in
theorem xn_51 : xokM 51 = true := by decide +kernel
set_option maxRecDepth 100000 in
theorem xn_52 : xokM 52 = true := by decide +kernel
set_option maxRecDepth 100000 in
theorem xn_53 : xokM 53 = true := by decide +kernel
set_option maxRecDepth 100000 in
theorem xn_54 : xokM 54 = true := by decide +kernel
set_option maxRecDepth 100000 in
theorem xn_55 : xokM 55 = true := by decide +kernel
end
section
set_option maxRecDepth 100000 in
theorem xn_56 : xokM 56 = true := by decide +kernel
set_option maxRecDepth 100000 in
theorem xn_57 : xokM 57 = true := by decide +kernel
set_option maxRecDepth 100000 in
theorem xn_58 : xokM 58 = true := by decide +kernel
set_option maxRecDepth 100000 in
theorem xn_59 : xokM 59 = true := by decide +kernel
set_option maxRecDepth 100000 in
theorem xn_60 : xokM 60 = true := by decide +kernel
set_option maxRecDepth 100000 in
theorem xn_61 : xokM 61 = true := by decide +kernel
set_option maxRecDepth 100000 in
theorem xn_62 : xokM 62 = true := by decide +kernel
set_option maxRecDepth 100000 in
theorem xn_63 : xokM 63 = true := by decide +kernel
set_option maxRecDepth 100000 in
theorem xn_64 : xokM 64 = true := by decide +kernel
set_option maxRecDepth 100000 in
theorem xn_65 : xokM 65 = true := by decide +kernel
set_option maxRecDepth 100000 in
theorem xn_66 : xokM 66 = true := by decide +kernel
set_option maxRecDepth 100000 in
theorem xn_67 : xokM 67 = true := by decide +kernel
set_option maxRecDepth 100000 in
theorem xn_68 : xokM 68 = true := by decide +kernel
set_option maxRecDepth 100000 in
theorem xn_69 : xokM 69 = true := by decide +kernel
set_option maxRecDepth 100000 in
theorem xn_70 : xokM 70 = true := by decide +kernel
set_option maxRecDepth 100000 in
theorem xn_71 : xokM 71 = true := by decide +kernel
set_option maxRecDepth 100000 in
theorem xn_72 : xokM 72 = true := by decide +kernel
set_option maxRecDepth 100000 in
theorem xn_73 : xokM 73 = true := by decide +kernel
set_option maxRecDepth 100000 in
theorem xn_74 : xokM 74 = true := by decide +kernel
set_option maxRecDepth 100000 in
theorem xn_75 : xokM 75 = true := by decide +kernel
set_option maxRecDepth 100000 in
theorem xn_76 : xokM 76 = true := by decide +kernel
set_option maxRecDepth 100000 in
theorem xn_77 : xokM 77 = true := by decide +kernel
set_option maxRecDepth 100000 in
theorem xn_78 : xokM 78 = true := by decide +kernel
set_option maxRecDepth 100000 in
theorem xn_79 : xokM 79 = true := by decide +kernel
set_option maxRecDepth 100000 in
theorem xn_80 : xokM 80 = true := by decide +kernel
set_option maxRecDepth 100000 in
theorem xn_81 : xokM 81 = true := by decide +kernel
set_option maxRecDepth 100000 in
theorem xn_82 : xokM 82 = true := by decide +kernel
set_option maxRecDepth 100000 in
theorem xn_83 : xokM 83 = true := by decide +kernel
set_option maxRecDepth 100000 in
theorem xn_84 : xokM 84 = true := by decide +kernel
set_option maxRecDepth 100000 in
theorem xn_85 : xokM 85 = true := by decide +kernel
set_option maxRecDepth 100000 in
theorem xn_86 : xokM 86 = true := by decide +kernel
set_option maxRecDepth 100000 in
theorem xn_87 : xokM 87 = true := by decide +kernel
set_option maxRecDepth 100000 in
theorem xn_88 : xokM 88 = true := by decide +kernel
set_option maxRecDepth 100000 in
theorem xn_89 : xokM 89 = true := by decide +kernel
set_option maxRecDepth 100000 in
theorem xn_90 : xokM 90 = true := by decide +kernel
set_option maxRecDepth 100000 in
theorem xn_91 : xokM 91 = true := by decide +kernel
set_option maxRecDepth 100000 in
theorem xn_92 : xokM 92 = true := by decide +kernel
set_option maxRecDepth 100000 in
theorem xn_93 : xokM 93 = true := by decide +kernel
set_option maxRecDepth 100000 in
theorem xn_94 : xokM 94 = true := by decide +kernel
set_option maxRecDepth 100000 in
theorem xn_95 : xokM 95 = true := by decide +kernel
set_option maxRecDepth 100000 in
theorem xn_96 : xokM 96 = true := by decide +kernel
set_option maxRecDepth 100000 in
theorem xn_97 : xokM 97 = true := by decide +kernel
set_option maxRecDepth 100000 in
theorem xn_98 : xokM 98 = true := by decide +kernel
set_option maxRecDepth 100000 in
theorem xn_99 : xokM 99 = true := by decide +kernel
set_option maxRecDepth 100000 in
theorem xn_100 : xokM 100 = true := by decide +kernel
set_option maxRecDepth 100000 in
theorem xn_101 : xokM 101 = true := by decide +kernel
set_option maxRecDepth 100000 in
theorem xn_102 : xokM 102 = true := by decide +kernel
set_option maxRecDepth 100000 in
theorem xn_103 : xokM 103 = true := by decide +kernel
set_option maxRecDepth 100000 in
theorem xn_104 : xokM 104 = true := by decide +kernel
set_option maxRecDepth 100000 in
theorem xn_105 : xokM 105 = true := by decide +kernel
set_option maxRecDepth 100000 in
theorem xn_106 : xokM 106 = true := by decide +kernel
set_option maxRecDepth 100000 in
theorem xn_107 : xokM 107 = true := by decide +kernel
set_option maxRecDepth 100000 in
theorem xn_108 : xokM 108 = true := by decide +kernel
set_option maxRecDepth 100000 in
theorem xn_109 : xokM 109 = true := by decide +kernel
set_option maxRecDepth 100000 in
theorem xn_110 : xokM 110 = true := by decide +kernel
set_option maxRecDepth 100000 in
theorem xn_111 : xokM 111 = true := by decide +kernel
end
section
set_option maxRecDepth 100000 in
theorem xn_112 : xokM 112 = true := by decide +kernel
set_option maxRecDepth 100000 in
theorem xn_113 : xokM 113 = true := by decide +kernel
set_option maxRecDepth 100000 in
theorem xn_114 : xokM 114 = true := by decide +kernel
set_option maxRecDepth 100000 in
theorem xn_115 : xokM 115 = true := by decide +kernel
set_option maxRecDepth 100000 in
theorem xn_116 : xokM 116 = true := by decide +kernel
set_option maxRecDepth 100000 in
theorem xn_117 : xokM 117 = true := by decide +kernel
set_option maxRecDepth 100000 in
theorem xn_118 : xokM 118 = true := by decide +kernel
set_option maxRecDepth 100000 in
theorem xn_119 : xokM 119 = true := by decide +kernel
set_option maxRecDepth 100000 in
theorem xn_120 : xokM 120 = true := by decide +kernel
set_option maxRecDepth 100000 in
theorem xn_121 : xokM 121 = true := by decide +kernel
set_option maxRecDepth 100000 in
theorem xn_122 : xokM 122 = true := by decide +kernel
set_option maxRecDepth 100000 in
theorem xn_123 : xokM 123 = true := by decide +kernel
set_option maxRecDepth 100000 in
theorem xn_124 : xokM 124 = true := by decide +kernel
set_option maxRecDepth 100000 in
theorem xn_125 : xokM 125 = true := by decide +kernel
set_option maxRecDepth 100000 in
theorem xn_126 : xokM 126 = true := by decide +kernel
set_option maxRecDepth 100000 in
theorem xn_127 : xokM 127 = true := by decide +kernel
set_option maxRecDepth 100000 in
theorem xn_128 : xokM 128 = true := by decide +kernel
set_option maxRecDepth 100000 in
theorem xn_129 : xokM 129 = true := by decide +kernel
set_option maxRecDepth 100000 in
theorem xn_130 : xokM 130 = true := by decide +kernel
set_option maxRecDepth 100000 in
theorem xn_131 : xokM 131 = true := by decide +kernel
set_option maxRecDepth 100000 in
theorem xn_132 : xokM 132 = true := by decide +kernel
set_option maxRecDepth 100000 in
theorem xn_133 : xokM 133 = true := by decide +kernel
set_option maxRecDepth 100000 in
theorem xn_134 : xokM 134 = true := by decide +kernel
set_option maxRecDepth 100000 in
theorem xn_135 : xokM 135 = true := by decide +kernel
set_option maxRecDepth 100000 in
theorem xn_136 : xokM 136 = true := by decide +kernel
set_option maxRecDepth 100000 in
theorem xn_137 : xokM 137 = true := by decide +kernel
set_option maxRecDepth 100000 in
theorem xn_138 : xokM 138 = true := by decide +kernel
set_option maxRecDepth 100000 in
theorem xn_139 : xokM 139 = true := by decide +kernel
set_option maxRecDepth 100000 in
theorem xn_140 : xokM 140 = true := by decide +kernel
set_option maxRecDepth 100000 in
theorem xn_141 : xokM 141 = true := by decide +kernel
set_option maxRecDepth 100000 in
theorem xn_142 : xokM 142 = true := by decide +kernel
set_option maxRecDepth 100000 in
theorem xn_143 : xokM 143 = true := by decide +kernel
set_option maxRecDepth 100000 in
theorem xn_144 : xokM 144 = true := by decide +kernel
set_option maxRecDepth 100000 in
theorem xn_145 : xokM 145 = true := by decide +kernel
set_option maxRecDepth 100000 in
theorem xn_146 : xokM 146 = true := by decide +kernel
set_option maxRecDepth 100000 in
theorem xn_147 : xokM 147 = true := by decide +kernel
set_option maxRecDepth 100000 in
theorem xn_148 : xokM 148 = true := by decide +kernel
set_option maxRecDepth 100000 in
theorem xn_149 : xokM 149 = true := by decide +kernel
set_option maxRecDepth 100000 in
theorem xn_150 : xokM 150 = true := by decide +kernel
set_option maxRecDepth 100000 in
theorem xn_151 : xokM 151 = true := by decide +kernel
set_option maxRecDepth 100000 in
theorem xn_152 : xokM 152 = true := by decide +kernel
set_option maxRecDepth 100000 in
theorem xn_153 : xokM 153 = true := by decide +kernel
set_option maxRecDepth 100000 in
theorem xn_154 : xokM 154 = true := by decide +kernel
set_option maxRecDepth 100000 in
theorem xn_155 : xokM 155 = true := by decide +kernel
set_option maxRecDepth 100000 in
theorem xn_156 : xokM 156 = true := by decide +kernel
set_option maxRecDepth 100000 in
theorem xn_157 : xokM 157 = true := by decide +kernel
set_option maxRecDepth 100000 in
theorem xn_158 : xokM 158 = true := by decide +kernel
set_option maxRecDepth 100000 in
theorem xn_159 : xokM 159 = true := by decide +kernel
set_option maxRecDepth 100000 in
theorem xn_160 : xokM 160 = true := by decide +kernel
set_option maxRecDepth 100000 in
theorem xn_161 : xokM 161 = true := by decide +kernel
set_option maxRecDepth 100000 in
theorem xn_162 : xokM 162 = true := by decide +kernel
set_option maxRecDepth 100000 in
theorem xn_163 : xokM 163 = true := by decide +kernel
set_option maxRecDepth 100000 in
theorem xn_164 : xokM 164 = true := by decide +kernel
set_option maxRecDepth 100000 in
theorem xn_165 : xokM 165 = true := by decide +kernel
set_option maxRecDepth 100000 in
theorem xn_166 : xokM 166 = true := by decide +kernel
set_option maxRecDepth 100000 in
theorem xn_167 : xokM 167 = true := by decide +kernel
end
section
set_option maxRecDepth 100000 in
theorem xn_168 : xokM 168 = true := by decide +kernel
set_option maxRecDepth 100000 in
theorem xn_169 : xokM 169 = true := by decide +kernel
set_option maxRecDepth 100000 in
theorem xn_170 : xokM 170 = true := by decide +kernel
set_option maxRecDepth 100000 in
theorem xn_171 : xokM 171 = true := by decide +kernel
set_option maxRecDepth 100000 in
theorem xn_172 : xokM 172 = true := by decide +kernel
set_option maxRecDepth 100000 in
theorem xn_173 : xokM 173 = true := by decide +kernel
set_option maxRecDepth 100000 in
theorem xn_174 : xokM 174 = true := by decide +kernel
set_option maxRecDepth 100000 in
theorem xn_175 : xokM 175 = true := by decide +kernel
set_option maxRecDepth 100000 in
theorem xn_176 : xokM 176 = true := by decide +kernel
set_option maxRecDepth 100000 in
theorem xn_177 : xokM 177 = true := by decide +kernel
set_option maxRecDepth 100000 in
theorem xn_178 : xokM 178 = true := by decide +kernel
set_option maxRecDepth 100000 in
theorem xn_179 : xokM 179 = true := by decide +kernel
set_option maxRecDepth 100000 in
theorem xn_180 : xokM 180 = true := by decide +kernel
set_option maxRecDepth 100000 in
theorem xn_181 : xokM 181 = true := by decide +kernel
set_option maxRecDepth 100000 in
theorem xn_182 : xokM 182 = true := by decide +kernel
set_option maxRecDepth 100000 in
theorem xn_183 : xokM 183 = true := by decide +kernel
set_option maxRecDepth 100000 in
theorem xn_184 : xokM 184 = true := by decide +kernel
set_option maxRecDepth 100000 in
theorem xn_185 : xokM 185 = true := by decide +kernel
set_option maxRecDepth 100000 in
theorem xn_186 : xokM 186 = true := by decide +kernel
set_option maxRecDepth 100000 in
theorem xn_187 : xokM 187 = true := by decide +kernel
set_option maxRecDepth 100000 in
theorem xn_188 : xokM 188 = true := by decide +kernel
set_option maxRecDepth 100000 in
theorem xn_189 : xokM 189 = true := by decide +kernel
set_option maxRecDepth 100000 in
theorem xn_190 : xokM 190 = true := by decide +kernel
set_option maxRecDepth 100000 in
theorem xn_191 : xokM 191 = true := by decide +kernel
set_option maxRecDepth 100000 in
theorem xn_192 : xokM 192 = true := by decide +kernel
set_option maxRecDepth 100000 in
theorem xn_193 : xokM 193 = true := by decide +kernel
set_option maxRecDepth 100000 in
theorem xn_194 : xokM 194 = true := by decide +kernel
set_option maxRecDepth 100000 in
theorem xn_195 : xokM 195 = true := by decide +kernel
set_option maxRecDepth 100000 in
theorem xn_196 : xokM 196 = true := by decide +kernel
set_option maxRecDepth 100000 in
theorem xn_197 : xokM 197 = true := by decide +kernel
set_option maxRecDepth 100000 in
theorem xn_198 : xokM 198 = true := by decide +kernel
set_option maxRecDepth 100000 in
theorem xn_199 : xokM 199 = true := by decide +kernel
set_option maxRecDepth 100000 in
theorem xn_200 : xokM 200 = true := by decide +kernel
set_option maxRecDepth 100000 in
theorem xn_201 : xokM 201 = true := by decide +kernel
set_option maxRecDepth 100000 in
theorem xn_202 : xokM 202 = true := by decide +kernel
set_option maxRecDepth 100000 in
theorem xn_203 : xokM 203 = true := by decide +kernel
set_option maxRecDepth 100000 in
theorem xn_204 : xokM 204 = true := by decide +kernel
set_option maxRecDepth 100000 in
theorem xn_205 : xokM 205 = true := by decide +kernel
set_option maxRecDepth 100000 in
theorem xn_206 : xokM 206 = true := by decide +kernel
set_option maxRecDepth 100000 in
theorem xn_207 : xokM 207 = true := by decide +kernel
set_option maxRecDepth 100000 in
theorem xn_208 : xokM 208 = true := by decide +kernel
set_option maxRecDepth 100000 in
theorem xn_209 : xokM 209 = true := by decide +kernel
set_option maxRecDepth 100000 in
theorem xn_210 : xokM 210 = true := by decide +kernel
set_option maxRecDepth 100000 in
theorem xn_211 : xokM 211 = true := by decide +kernel
set_option maxRecDepth 100000 in
theorem xn_212 : xokM 212 = true := by decide +kernel
set_option maxRecDepth 100000 in
theorem xn_213 : xokM 213 = true := by decide +kernel
set_option maxRecDepth 100000 in
theorem xn_214 : xokM 214 = true := by decide +kernel
set_option maxRecDepth 100000 in
theorem xn_215 : xokM 215 = true := by decide +kernel
set_option maxRecDepth 100000 in
theorem xn_216 : xokM 216 = true := by decide +kernel
set_option maxRecDepth 100000 in
theorem xn_217 : xokM 217 = true := by decide +kernel
set_option maxRecDepth 100000 in
theorem xn_218 : xokM 218 = true := by decide +kernel
set_option maxRecDepth 100000 in
theorem xn_219 : xokM 219 = true := by decide +kernel
set_option maxRecDepth 100000 in
theorem xn_220 : xokM 220 = true := by decide +kernel
end
section
theorem xb_0 : ∀ k, k < 10 → xall (0 + k) = true
  | 0, _ => xa_0
  | 1, _ => xa_1
  | 2, _ => xa_2
  | 3, _ => xa_3
  | 4, _ => xa_4
  | 5, _ => xa_5
  | 6, _ => xa_6
  | 7, _ => xa_7
  | 8, _ => xa_8
  | 9, _ => xa_9
  | k + 10, h => absurd h (by omega)
theorem xb_10 : ∀ k, k < 10 → xall (10 + k) = true
  | 0, _ => xa_10
  | 1, _ => xa_11
  | 2, _ => xa_12
  | 3, _ => xa_13
  | 4, _ => xa_14
  | 5, _ => xa_15
  | 6, _ => xa_16
  | 7, _ => xa_17
  | 8, _ => xa_18
  | 9, _ => xa_19
  | k + 10, h => absurd h (by omega)
theorem xb_20 : ∀ k, k < 10 → xall (20 + k) = true
  | 0, _ => xa_20
  | 1, _ => xa_21
  | 2, _ => xa_22
  | 3, _ => xa_23
  | 4, _ => xa_24
  | 5, _ => xa_25
  | 6, _ => xa_26
  | 7, _ => xa_27
  | 8, _ => xa_28
  | 9, _ => xa_29
  | k + 10, h => absurd h (by omega)
theorem xb_30 : ∀ k, k < 10 → xall (30 + k) = true
  | 0, _ => xa_30
  | 1, _ => xa_31
  | 2, _ => xa_32
  | 3, _ => xa_33
  | 4, _ => xa_34
  | 5, _ => xa_35
  | 6, _ => xa_36
  | 7, _ => xa_37
  | 8, _ => xa_38
  | 9, _ => xa_39
  | k + 10, h => absurd h (by omega)
theorem xb_40 : ∀ k, k < 10 → xall (40 + k) = true
  | 0, _ => xa_40
  | 1, _ => xa_41
  | 2, _ => xa_42
  | 3, _ => xa_43
  | 4, _ => xa_44
  | 5, _ => xa_45
  | 6, _ => xa_46
  | 7, _ => xa_47
  | 8, _ => xa_48
  | 9, _ => xa_49
  | k + 10, h => absurd h (by omega)
theorem xb_50 : ∀ k, k < 10 → xall (50 + k) = true
  | 0, _ => xa_50
  | 1, _ => xa_51
  | 2, _ => xa_52
  | 3, _ => xa_53
  | 4, _ => xa_54
  | 5, _ => xa_55
  | 6, _ => xa_56
  | 7, _ => xa_57
  | 8, _ => xa_58
  | 9, _ => xa_59
  | k + 10, h => absurd h (by omega)
theorem xb_60 : ∀ k, k < 10 → xall (60 + k) = true
  | 0, _ => xa_60
  | 1, _ => xa_61
  | 2, _ => xa_62
  | 3, _ => xa_63
  | 4, _ => xa_64
  | 5, _ => xa_65
  | 6, _ => xa_66
  | 7, _ => xa_67
  | 8, _ => xa_68
  | 9, _ => xa_69
  | k + 10, h => absurd h (by omega)
theorem xb_70 : ∀ k, k < 10 → xall (70 + k) = true
  | 0, _ => xa_70
  | 1, _ => xa_71
  | 2, _ => xa_72
  | 3, _ => xa_73
  | 4, _ => xa_74
  | 5, _ => xa_75
  | 6, _ => xa_76
  | 7, _ => xa_77
  | 8, _ => xa_78
  | 9, _ => xa_79
  | k + 10, h => absurd h (by omega)
theorem xb_80 : ∀ k, k < 10 → xall (80 + k) = true
  | 0, _ => xa_80
  | 1, _ => xa_81
  | 2, _ => xa_82
  | 3, _ => xa_83
  | 4, _ => xa_84
  | 5, _ => xa_85
  | 6, _ => xa_86
  | 7, _ => xa_87
  | 8, _ => xa_88
  | 9, _ => xa_89
  | k + 10, h => absurd h (by omega)
theorem xb_90 : ∀ k, k < 10 → xall (90 + k) = true
  | 0, _ => xa_90
  | 1, _ => xa_91
  | 2, _ => xa_92
  | 3, _ => xa_93
  | 4, _ => xa_94
  | 5, _ => xa_95
  | 6, _ => xa_96
  | 7, _ => xa_97
  | 8, _ => xa_98
  | 9, _ => xa_99
  | k + 10, h => absurd h (by omega)
theorem xb_100 : ∀ k, k < 10 → xall (100 + k) = true
  | 0, _ => xa_100
  | 1, _ => xa_101
  | 2, _ => xa_102
  | 3, _ => xa_103
  | 4, _ => xa_104
  | 5, _ => xa_105
  | 6, _ => xa_106
  | 7, _ => xa_107
  | 8, _ => xa_108
  | 9, _ => xa_109
  | k + 10, h => absurd h (by omega)
theorem xb_110 : ∀ k, k < 10 → xall (110 + k) = true
  | 0, _ => xa_110
  | 1, _ => xa_111
  | 2, _ => xa_112
  | 3, _ => xa_113
  | 4, _ => xa_114
  | 5, _ => xa_115
  | 6, _ => xa_116
  | 7, _ => xa_117
  | 8, _ => xa_118
  | 9, _ => xa_119
  | k + 10, h => absurd h (by omega)
theorem xb_120 : ∀ k, k < 10 → xall (120 + k) = true
  | 0, _ => xa_120
  | 1, _ => xa_121
  | 2, _ => xa_122
  | 3, _ => xa_123
  | 4, _ => xa_124
  | 5, _ => xa_125
  | 6, _ => xa_126
  | 7, _ => xa_127
  | 8, _ => xa_128
  | 9, _ => xa_129
  | k + 10, h => absurd h (by omega)
theorem xb_130 : ∀ k, k < 10 → xall (130 + k) = true
  | 0, _ => xa_130
  | 1, _ => xa_131
  | 2, _ => xa_132
  | 3, _ => xa_133
  | 4, _ => xa_134
  | 5, _ => xa_135
  | 6, _ => xa_136
  | 7, _ => xa_137
  | 8, _ => xa_138
  | 9, _ => xa_139
  | k + 10, h => absurd h (by omega)
theorem xb_140 : ∀ k, k < 10 → xall (140 + k) = true
  | 0, _ => xa_140
  | 1, _ => xa_141
  | 2, _ => xa_142
  | 3, _ => xa_143
  | 4, _ => xa_144
  | 5, _ => xa_145
  | 6, _ => xa_146
  | 7, _ => xa_147
  | 8, _ => xa_148
  | 9, _ => xa_149
  | k + 10, h => absurd h (by omega)
theorem xb_150 : ∀ k, k < 10 → xall (150 + k) = true
  | 0, _ => xa_150
  | 1, _ => xa_151
  | 2, _ => xa_152
  | 3, _ => xa_153
  | 4, _ => xa_154
  | 5, _ => xa_155
  | 6, _ => xa_156
  | 7, _ => xa_157
  | 8, _ => xa_158
  | 9, _ => xa_159
  | k + 10, h => absurd h (by omega)
theorem xb_160 : ∀ k, k < 10 → xall (160 + k) = true
  | 0, _ => xa_160
  | 1, _ => xa_161
  | 2, _ => xa_162
  | 3, _ => xa_163
  | 4, _ => xa_164
  | 5, _ => xa_165
  | 6, _ => xa_166
  | 7, _ => xa_167
  | 8, _ => xa_168
  | 9, _ => xa_169
  | k + 10, h => absurd h (by omega)
theorem xb_170 : ∀ k, k < 10 → xall (170 + k) = true
  | 0, _ => xa_170
  | 1, _ => xa_171
  | 2, _ => xa_172
  | 3, _ => xa_173
  | 4, _ => xa_174
  | 5, _ => xa_175
  | 6, _ => xa_176
  | 7, _ => xa_177
  | 8, _ => xa_178
  | 9, _ => xa_179
  | k + 10, h => absurd h (by omega)
theorem xb_180 : ∀ k, k < 10 → xall (180 + k) = true
  | 0, _ => xa_180
  | 1, _ => xa_181
  | 2, _ => xa_182
  | 3, _ => xa_183
  | 4, _ => xa_184
  | 5, _ => xa_185
  | 6, _ => xa_186
  | 7, _ => xa_187
  | 8, _ => xa_188
  | 9, _ => xa_189
  | k + 10, h => absurd h (by omega)
theorem xb_190 : ∀ k, k < 10 → xall (190 + k) = true
  | 0, _ => xa_190
  | 1, _ => xa_191
  | 2, _ => xa_192
  | 3, _ => xa_193
  | 4, _ => xa_194
  | 5, _ => xa_195
  | 6, _ => xa_196
  | 7, _ => xa_197
  | 8, _ => xa_198
  | 9, _ => xa_199
  | k + 10, h => absurd h (by omega)
theorem xb_200 : ∀ k, k < 10 → xall (200 + k) = true
  | 0, _ => xa_200
  | 1, _ => xa_201
  | 2, _ => xa_202
  | 3, _ => xa_203
  | 4, _ => xa_204
  | 5, _ => xa_205
  | 6, _ => xa_206
  | 7, _ => xa_207
  | 8, _ => xa_208
  | 9, _ => xa_209
  | k + 10, h => absurd h (by omega)
theorem xb_210 : ∀ k, k < 10 → xall (210 + k) = true
  | 0, _ => xa_210
  | 1, _ => xa_211
  | 2, _ => xa_212
  | 3, _ => xa_213
  | 4, _ => xa_214
  | 5, _ => xa_215
  | 6, _ => xa_216
  | 7, _ => xa_217
  | 8, _ => xa_218
  | 9, _ => xa_219
  | k + 10, h => absurd h (by omega)
theorem xb_220 : ∀ k, k < 1 → xall (220 + k) = true
  | 0, _ => xa_220
  | k + 1, h => absurd h (by omega)
theorem xall_of {mi : Nat} (h : mi < 221) : xall mi = true := by
  rcases Nat.lt_or_ge mi 10 with q | q
  · have h9 := xb_0 (mi - 0) (by omega)
    rwa [show 0 + (mi - 0) = mi by omega] at h9
  rcases Nat.lt_or_ge mi 20 with q | q
  · have h9 := xb_10 (mi - 10) (by omega)
    rwa [show 10 + (mi - 10) = mi by omega] at h9
  rcases Nat.lt_or_ge mi 30 with q | q
  · have h9 := xb_20 (mi - 20) (by omega)
    rwa [show 20 + (mi - 20) = mi by omega] at h9
  rcases Nat.lt_or_ge mi 40 with q | q
  · have h9 := xb_30 (mi - 30) (by omega)
    rwa [show 30 + (mi - 30) = mi by omega] at h9
  rcases Nat.lt_or_ge mi 50 with q | q
  · have h9 := xb_40 (mi - 40) (by omega)
    rwa [show 40 + (mi - 40) = mi by omega] at h9
  rcases Nat.lt_or_ge mi 60 with q | q
  · have h9 := xb_50 (mi - 50) (by omega)
    rwa [show 50 + (mi - 50) = mi by omega] at h9
  rcases Nat.lt_or_ge mi 70 with q | q
  · have h9 := xb_60 (mi - 60) (by omega)
    rwa [show 60 + (mi - 60) = mi by omega] at h9
  rcases Nat.lt_or_ge mi 80 with q | q
  · have h9 := xb_70 (mi - 70) (by omega)
    rwa [show 70 + (mi - 70) = mi by omega] at h9
  rcases Nat.lt_or_ge mi 90 with q | q
  · have h9 := xb_80 (mi - 80) (by omega)
    rwa [show 80 + (mi - 80) = mi by omega] at h9
  rcases Nat.lt_or_ge mi 100 with q | q
  · have h9 := xb_90 (mi - 90) (by omega)
    rwa [show 90 + (mi - 90) = mi by omega] at h9
  rcases Nat.lt_or_ge mi 110 with q | q
  · have h9 := xb_100 (mi - 100) (by omega)
    rwa [show 100 + (mi - 100) = mi by omega] at h9
  rcases Nat.lt_or_ge mi 120 with q | q
  · have h9 := xb_110 (mi - 110) (by omega)
    rwa [show 110 + (mi - 110) = mi by omega] at h9
  rcases Nat.lt_or_ge mi 130 with q | q
  · have h9 := xb_120 (mi - 120) (by omega)
    rwa [show 120 + (mi - 120) = mi by omega] at h9
  rcases Nat.lt_or_ge mi 140 with q | q
  · have h9 := xb_130 (mi - 130) (by omega)
    rwa [show 130 + (mi - 130) = mi by omega] at h9
  rcases Nat.lt_or_ge mi 150 with q | q
  · have h9 := xb_140 (mi - 140) (by omega)
    rwa [show 140 + (mi - 140) = mi by omega] at h9
  rcases Nat.lt_or_ge mi 160 with q | q
  · have h9 := xb_150 (mi - 150) (by omega)
    rwa [show 150 + (mi - 150) = mi by omega] at h9
  rcases Nat.lt_or_ge mi 170 with q | q
  · have h9 := xb_160 (mi - 160) (by omega)
    rwa [show 160 + (mi - 160) = mi by omega] at h9
  rcases Nat.lt_or_ge mi 180 with q | q
  · have h9 := xb_170 (mi - 170) (by omega)
    rwa [show 170 + (mi - 170) = mi by omega] at h9
  rcases Nat.lt_or_ge mi 190 with q | q
  · have h9 := xb_180 (mi - 180) (by omega)
    rwa [show 180 + (mi - 180) = mi by omega] at h9
  rcases Nat.lt_or_ge mi 200 with q | q
  · have h9 := xb_190 (mi - 190) (by omega)
    rwa [show 190 + (mi - 190) = mi by omega] at h9
  rcases Nat.lt_or_ge mi 210 with q | q
  · have h9 := xb_200 (mi - 200) (by omega)
    rwa [show 200 + (mi - 200) = mi by omega] at h9
  rcases Nat.lt_or_ge mi 220 with q | q
  · have h9 := xb_210 (mi - 210) (by omega)
    rwa [show 210 + (mi - 210) = mi by omega] at h9
  rcases Nat.lt_or_ge mi 221 with q | q
  · have h9 := xb_220 (mi - 220) (by omega)
    rwa [show 220 + (mi - 220) = mi by omega] at h9
  · omega
theorem xf_0 : ∀ k, k < 10 → xokM (0 + k) = true
  | 0, _ => xn_0
  | 1, _ => xn_1
  | 2, _ => xn_2
  | 3, _ => xn_3
  | 4, _ => xn_4
  | 5, _ => xn_5
  | 6, _ => xn_6
  | 7, _ => xn_7
  | 8, _ => xn_8
  | 9, _ => xn_9
  | k + 10, h => absurd h (by omega)
theorem xf_10 : ∀ k, k < 10 → xokM (10 + k) = true
  | 0, _ => xn_10
  | 1, _ => xn_11
  | 2, _ => xn_12
  | 3, _ => xn_13
  | 4, _ => xn_14
  | 5, _ => xn_15
  | 6, _ => xn_16
  | 7, _ => xn_17
  | 8, _ => xn_18
  | 9, _ => xn_19
  | k + 10, h => absurd h (by omega)
theorem xf_20 : ∀ k, k < 10 → xokM (20 + k) = true
  | 0, _ => xn_20
  | 1, _ => xn_21
  | 2, _ => xn_22
  | 3, _ => xn_23
  | 4, _ => xn_24
  | 5, _ => xn_25
  | 6, _ => xn_26
  | 7, _ => xn_27
  | 8, _ => xn_28
  | 9, _ => xn_29
  | k + 10, h => absurd h (by omega)
theorem xf_30 : ∀ k, k < 10 → xokM (30 + k) = true
  | 0, _ => xn_30
  | 1, _ => xn_31
  | 2, _ => xn_32
  | 3, _ => xn_33
  | 4, _ => xn_34
  | 5, _ => xn_35
  | 6, _ => xn_36
  | 7, _ => xn_37
  | 8, _ => xn_38
  | 9, _ => xn_39
  | k + 10, h => absurd h (by omega)
theorem xf_40 : ∀ k, k < 10 → xokM (40 + k) = true
  | 0, _ => xn_40
  | 1, _ => xn_41
  | 2, _ => xn_42
  | 3, _ => xn_43
  | 4, _ => xn_44
  | 5, _ => xn_45
  | 6, _ => xn_46
  | 7, _ => xn_47
  | 8, _ => xn_48
  | 9, _ => xn_49
  | k + 10, h => absurd h (by omega)
theorem xf_50 : ∀ k, k < 10 → xokM (50 + k) = true
  | 0, _ => xn_50
  | 1, _ => xn_51
  | 2, _ => xn_52
  | 3, _ => xn_53
  | 4, _ => xn_54
  | 5, _ => xn_55
  | 6, _ => xn_56
  | 7, _ => xn_57
  | 8, _ => xn_58
  | 9, _ => xn_59
  | k + 10, h => absurd h (by omega)
theorem xf_60 : ∀ k, k < 10 → xokM (60 + k) = true
  | 0, _ => xn_60
  | 1, _ => xn_61
  | 2, _ => xn_62
  | 3, _ => xn_63
  | 4, _ => xn_64
  | 5, _ => xn_65
  | 6, _ => xn_66
  | 7, _ => xn_67
  | 8, _ => xn_68
  | 9, _ => xn_69
  | k + 10, h => absurd h (by omega)
theorem xf_70 : ∀ k, k < 10 → xokM (70 + k) = true
  | 0, _ => xn_70
  | 1, _ => xn_71
  | 2, _ => xn_72
  | 3, _ => xn_73
  | 4, _ => xn_74
  | 5, _ => xn_75
  | 6, _ => xn_76
  | 7, _ => xn_77
  | 8, _ => xn_78
  | 9, _ => xn_79
  | k + 10, h => absurd h (by omega)
theorem xf_80 : ∀ k, k < 10 → xokM (80 + k) = true
  | 0, _ => xn_80
  | 1, _ => xn_81
  | 2, _ => xn_82
  | 3, _ => xn_83
  | 4, _ => xn_84
  | 5, _ => xn_85
  | 6, _ => xn_86
  | 7, _ => xn_87
  | 8, _ => xn_88
  | 9, _ => xn_89
  | k + 10, h => absurd h (by omega)
theorem xf_90 : ∀ k, k < 10 → xokM (90 + k) = true
  | 0, _ => xn_90
  | 1, _ => xn_91
  | 2, _ => xn_92
  | 3, _ => xn_93
  | 4, _ => xn_94
  | 5, _ => xn_95
  | 6, _ => xn_96
  | 7, _ => xn_97
  | 8, _ => xn_98
  | 9, _ => xn_99
  | k + 10, h => absurd h (by omega)
theorem xf_100 : ∀ k, k < 10 → xokM (100 + k) = true
  | 0, _ => xn_100
  | 1, _ => xn_101
  | 2, _ => xn_102
  | 3, _ => xn_103
  | 4, _ => xn_104
  | 5, _ => xn_105
  | 6, _ => xn_106
  | 7, _ => xn_107
  | 8, _ => xn_108
  | 9, _ => xn_109
  | k + 10, h => absurd h (by omega)
theorem xf_110 : ∀ k, k < 10 → xokM (110 + k) = true
  | 0, _ => xn_110
  | 1, _ => xn_111
  | 2, _ => xn_112
  | 3, _ => xn_113
  | 4, _ => xn_114
  | 5, _ => xn_115
  | 6, _ => xn_116
  | 7, _ => xn_117
  | 8, _ => xn_118
  | 9, _ => xn_119
  | k + 10, h => absurd h (by omega)
theorem xf_120 : ∀ k, k < 10 → xokM (120 + k) = true
  | 0, _ => xn_120
  | 1, _ => xn_121
  | 2, _ => xn_122
  | 3, _ => xn_123
  | 4, _ => xn_124
  | 5, _ => xn_125
  | 6, _ => xn_126
  | 7, _ => xn_127
  | 8, _ => xn_128
  | 9, _ => xn_129
  | k + 10, h => absurd h (by omega)
theorem xf_130 : ∀ k, k < 10 → xokM (130 + k) = true
  | 0, _ => xn_130
  | 1, _ => xn_131
  | 2, _ => xn_132
  | 3, _ => xn_133
  | 4, _ => xn_134
  | 5, _ => xn_135
  | 6, _ => xn_136
  | 7, _ => xn_137
  | 8, _ => xn_138
  | 9, _ => xn_139
  | k + 10, h => absurd h (by omega)
theorem xf_140 : ∀ k, k < 10 → xokM (140 + k) = true
  | 0, _ => xn_140
  | 1, _ => xn_141
  | 2, _ => xn_142
  | 3, _ => xn_143
  | 4, _ => xn_144
  | 5, _ => xn_145
  | 6, _ => xn_146
  | 7, _ => xn_147
  | 8, _ => xn_148
  | 9, _ => xn_149
  | k + 10, h => absurd h (by omega)
theorem xf_150 : ∀ k, k < 10 → xokM (150 + k) = true
  | 0, _ => xn_150
  | 1, _ => xn_151
  | 2, _ => xn_152
  | 3, _ => xn_153
  | 4, _ => xn_154
  | 5, _ => xn_155
  | 6, _ => xn_156
  | 7, _ => xn_157
  | 8, _ => xn_158
  | 9, _ => xn_159
  | k + 10, h => absurd h (by omega)
theorem xf_160 : ∀ k, k < 10 → xokM (160 + k) = true
  | 0, _ => xn_160
  | 1, _ => xn_161
  | 2, _ => xn_162
  | 3, _ => xn_163
  | 4, _ => xn_164
  | 5, _ => xn_165
  | 6, _ => xn_166
  | 7, _ => xn_167
  | 8, _ => xn_168
  | 9, _ => xn_169
  | k + 10, h => absurd h (by omega)
theorem xf_170 : ∀ k, k < 10 → xokM (170 + k) = true
  | 0, _ => xn_170
  | 1, _ => xn_171
  | 2, _ => xn_172
  | 3, _ => xn_173
  | 4, _ => xn_174
  | 5, _ => xn_175
  | 6, _ => xn_176
  | 7, _ => xn_177
  | 8, _ => xn_178
  | 9, _ => xn_179
  | k + 10, h => absurd h (by omega)
theorem xf_180 : ∀ k, k < 10 → xokM (180 + k) = true
  | 0, _ => xn_180
  | 1, _ => xn_181
  | 2, _ => xn_182
  | 3, _ => xn_183
  | 4, _ => xn_184
  | 5, _ => xn_185
  | 6, _ => xn_186
  | 7, _ => xn_187
  | 8, _ => xn_188
  | 9, _ => xn_189
  | k + 10, h => absurd h (by omega)
theorem xf_190 : ∀ k, k < 10 → xokM (190 + k) = true
  | 0, _ => xn_190
  | 1, _ => xn_191
  | 2, _ => xn_192
  | 3, _ => xn_193
  | 4, _ => xn_194
  | 5, _ => xn_195
  | 6, _ => xn_196
  | 7, _ => xn_197
  | 8, _ => xn_198
  | 9, _ => xn_199
  | k + 10, h => absurd h (by omega)
theorem xf_200 : ∀ k, k < 10 → xokM (200 + k) = true
  | 0, _ => xn_200
  | 1, _ => xn_201
  | 2, _ => xn_202
  | 3, _ => xn_203
  | 4, _ => xn_204
  | 5, _ => xn_205
  | 6, _ => xn_206
  | 7, _ => xn_207
  | 8, _ => xn_208
  | 9, _ => xn_209
  | k + 10, h => absurd h (by omega)
theorem xf_210 : ∀ k, k < 10 → xokM (210 + k) = true
  | 0, _ => xn_210
  | 1, _ => xn_211
  | 2, _ => xn_212
  | 3, _ => xn_213
  | 4, _ => xn_214
  | 5, _ => xn_215
  | 6, _ => xn_216
  | 7, _ => xn_217
  | 8, _ => xn_218
  | 9, _ => xn_219
  | k + 10, h => absurd h (by omega)
theorem xf_220 : ∀ k, k < 1 → xokM (220 + k) = true
  | 0, _ => xn_220
  | k + 1, h => absurd h (by omega)
theorem xokM_of {mi : Nat} (h : mi < 221) : xokM mi = true := by
  rcases Nat.lt_or_ge mi 10 with q | q
  · have h9 := xf_0 (mi - 0) (by omega)
    rwa [show 0 + (mi - 0) = mi by omega] at h9
  rcases Nat.lt_or_ge mi 20 with q | q
  · have h9 := xf_10 (mi - 10) (by omega)
    rwa [show 10 + (mi - 10) = mi by omega] at h9
  rcases Nat.lt_or_ge mi 30 with q | q
  · have h9 := xf_20 (mi - 20) (by omega)
    rwa [show 20 + (mi - 20) = mi by omega] at h9
  rcases Nat.lt_or_ge mi 40 with q | q
  · have h9 := xf_30 (mi - 30) (by omega)
    rwa [show 30 + (mi - 30) = mi by omega] at h9
  rcases Nat.lt_or_ge mi 50 with q | q
  · have h9 := xf_40 (mi - 40) (by omega)
    rwa [show 40 + (mi - 40) = mi by omega] at h9
  rcases Nat.lt_or_ge mi 60 with q | q
  · have h9 := xf_50 (mi - 50) (by omega)
    rwa [show 50 + (mi - 50) = mi by omega] at h9
  rcases Nat.lt_or_ge mi 70 with q | q
  · have h9 := xf_60 (mi - 60) (by omega)
    rwa [show 60 + (mi - 60) = mi by omega] at h9
  rcases Nat.lt_or_ge mi 80 with q | q
  · have h9 := xf_70 (mi - 70) (by omega)
    rwa [show 70 + (mi - 70) = mi by omega] at h9
  rcases Nat.lt_or_ge mi 90 with q | q
  · have h9 := xf_80 (mi - 80) (by omega)
    rwa [show 80 + (mi - 80) = mi by omega] at h9
  rcases Nat.lt_or_ge mi 100 with q | q
  · have h9 := xf_90 (mi - 90) (by omega)
    rwa [show 90 + (mi - 90) = mi by omega] at h9
  rcases Nat.lt_or_ge mi 110 with q | q
  · have h9 := xf_100 (mi - 100) (by omega)
    rwa [show 100 + (mi - 100) = mi by omega] at h9
  rcases Nat.lt_or_ge mi 120 with q | q
  · have h9 := xf_110 (mi - 110) (by omega)
    rwa [show 110 + (mi - 110) = mi by omega] at h9
  rcases Nat.lt_or_ge mi 130 with q | q
  · have h9 := xf_120 (mi - 120) (by omega)
    rwa [show 120 + (mi - 120) = mi by omega] at h9
  rcases Nat.lt_or_ge mi 140 with q | q
  · have h9 := xf_130 (mi - 130) (by omega)
    rwa [show 130 + (mi - 130) = mi by omega] at h9
  rcases Nat.lt_or_ge mi 150 with q | q
  · have h9 := xf_140 (mi - 140) (by omega)
    rwa [show 140 + (mi - 140) = mi by omega] at h9
  rcases Nat.lt_or_ge mi 160 with q | q
  · have h9 := xf_150 (mi - 150) (by omega)
    rwa [show 150 + (mi - 150) = mi by omega] at h9
  rcases Nat.lt_or_ge mi 170 with q | q
  · have h9 := xf_160 (mi - 160) (by omega)
    rwa [show 160 + (mi - 160) = mi by omega] at h9
  rcases Nat.lt_or_ge mi 180 with q | q
  · have h9 := xf_170 (mi - 170) (by omega)
    rwa [show 170 + (mi - 170) = mi by omega] at h9
  rcases Nat.lt_or_ge mi 190 with q | q
  · have h9 := xf_180 (mi - 180) (by omega)
    rwa [show 180 + (mi - 180) = mi by omega] at h9
  rcases Nat.lt_or_ge mi 200 with q | q
  · have h9 := xf_190 (mi - 190) (by omega)
    rwa [show 190 + (mi - 190) = mi by omega] at h9
  rcases Nat.lt_or_ge mi 210 with q | q
  · have h9 := xf_200 (mi - 200) (by omega)
    rwa [show 200 + (mi - 200) = mi by omega] at h9
  rcases Nat.lt_or_ge mi 220 with q | q
  · have h9 := xf_210 (mi - 210) (by omega)
    rwa [show 210 + (mi - 210) = mi by omega] at h9
  rcases Nat.lt_or_ge mi 221 with q | q
  · have h9 := xf_220 (mi - 220) (by omega)
    rwa [show 220 + (mi - 220) = mi by omega] at h9
  · omega
end
section
-- the pure machine's heap as the kit's world
def xv (b scr : Nat) : Value → Value
  | .ref k => .ref (if k = xscr then scr else b + k)
  | v => v
theorem xv_cat (b scr : Nat) (v : Value) : (xv b scr v).category = v.category := by cases v <;> rfl
abbrev xTy : Type := ClassId × ClassId × ClassId
def xk (K : xTy) (ty : FieldType) : ClassId := match ty with
  | .int => K.1
  | .long => K.2.1
  | _ => K.2.2
abbrev xtl (K : xTy) : List (ClassId × FieldType) := [(K.1, .int), (K.2.1, .long), (K.2.2, .char)]
def xe (K : xTy) (b scr : Nat) : xC → va_E
  | .inl q => .inl (xk K q.1, q.2)
  | .inr q => .inr (q.1, q.2.map (xv b scr))
def xw (K : xTy) (b scr : Nat) (A : List xC) : va_W := A.mapIdx fun k e => (b + k, xe K b scr e)
theorem xw_at {K : xTy} {b scr : Nat} {A : List xC} {k : Nat} {e : xC} (h : A[k]? = some e) : (xw K b scr A)[k]? = some (b + k, xe K b scr e) := by
  simp [xw, h]
theorem xw_of {K : xTy} {b scr : Nat} {A : List xC} {k : Nat} {q : Nat × va_E} (h : (xw K b scr A)[k]? = some q) : ∃ e, A[k]? = some e ∧ q = (b + k, xe K b scr e) := by
  simp only [xw, List.getElem?_mapIdx, Option.map_eq_some_iff] at h
  obtain ⟨e, h1, h2⟩ := h
  exact ⟨e, h1, h2.symm⟩
theorem xw_D (K : xTy) (b scr : Nat) (A : List xC) : va_D (fun q => b ≤ q) (xw K b scr A) := by
  refine ⟨fun i j p q hi hj he => ?_, fun k q hk => ?_⟩
  · obtain ⟨e1, -, rfl⟩ := xw_of hi
    obtain ⟨e2, -, rfl⟩ := xw_of hj
    dsimp only at he
    omega
  · obtain ⟨e1, -, rfl⟩ := xw_of hk
    exact Nat.le_add_right b k
theorem xw_set (K : xTy) (b scr : Nat) (A : List xC) (k : Nat) (e : xC) : (xw K b scr A).set k (b + k, xe K b scr e) = xw K b scr (A.set k e) := by
  apply List.ext_getElem?
  intro j
  simp only [xw, List.getElem?_set, List.getElem?_mapIdx, List.length_mapIdx]
  by_cases h : k = j
  · subst h
    by_cases h2 : k < A.length
    · simp [h2]
    · simp [h2]
  · simp [h]
theorem xw_app (K : xTy) (b scr : Nat) (A : List xC) (e : xC) : xw K b scr (A ++ [e]) = xw K b scr A ++ [(b + A.length, xe K b scr e)] := by
  simp [xw, List.mapIdx_append]
/-- what was there before the law's first step, and is there still -/
def xex (b : Nat) (U : State) : Prop := ∃ (s0 : State) (a0 : Array Value), s0.heap.size = b ∧ (∀ q, q < b → U.heap[q]? = s0.heap[q]?) ∧ s0.WarmedH U.vm ∧ (∀ w ∈ lw_tbl, w.before a0 s0 = true) ∧ (Jvm.Cond.and given_1 narrow_1).before a0 s0 = true
theorem xex_move {b : Nat} {s U : State} {H : Heap} (h : xex b s) (hU : U.heap = H) (hH : ∀ q, q < b → H[q]? = s.heap[q]?) (hW : s.WarmedH U.vm) : xex b U := by
  obtain ⟨s0, a0, e1, e2, e3, e4, e5⟩ := h
  exact ⟨s0, a0, e1, fun q hq => by rw [hU, hH q hq]; exact e2 q hq, State.WarmedH.trans e3 hW, e4, e5⟩
/-- a method's surroundings -/
def xcx (D : va_G) (K : xTy) (b scr : Nat) (sc : xSc) (mi : Nat) (p : Program) (s : State) (m : MethodId) (args : Array Value) (meth : Method) (c : Code) : Prop :=
  p.tables.exec = Jvm.exec ∧ c.code = xby mi ∧ c.maxLocals = (xme mi).2.2.1 ∧ s.vm.findClass (xme mi).1.cls = some m.cls ∧ (∀ w ∈ xTb, w.before args s = true) ∧ va_K D xCl (xtl K) s ∧ va_X scr sc.1 sc.2 s s.heap ∧ scr < b ∧ b ≤ s.heap.size ∧ meth.name = (xme mi).1.name ∧ meth.sig.returnType = (xme mi).2.2.2.1 ∧ meth.locks = false ∧ xex b s
/-- what the pure heap counts -/
def xsz : xC → Nat
  | .inl q => q.2.1
  | .inr q => q.2.length
def xcn (h : xH) : Nat := h.1.length + h.2
def xsn (h : xH) : Nat := (h.1.map xsz).sum + 6 * h.2
theorem xlk_mem {i : Nat} {v : Value} : ∀ {ls : xL}, xlk i ls = some v → (i, v) ∈ ls
  | [], h => by cases h
  | q :: r, h => by
    simp only [xlk] at h
    by_cases hq : (q.1 == i) = true
    · rw [if_pos hq] at h
      cases h
      have : q.1 = i := by simpa using hq
      subst this
      exact List.mem_cons_self
    · rw [if_neg hq] at h
      exact List.mem_cons_of_mem _ (xlk_mem h)
theorem xput_mem {i : Nat} {v : Value} {z : Nat × Value} : ∀ {ls : xL}, z ∈ xput i v ls → z = (i, v) ∨ z ∈ ls
  | [], h => by
    simp only [xput, List.mem_singleton] at h
    exact Or.inl h
  | q :: r, h => by
    simp only [xput] at h
    split at h
    · rcases List.mem_cons.mp h with e | e
      · exact Or.inl e
      · exact Or.inr e
    · rcases List.mem_cons.mp h with e | e
      · exact Or.inr (e ▸ List.mem_cons_self)
      · rcases xput_mem e with e | e
        · exact Or.inl e
        · exact Or.inr (List.mem_cons_of_mem _ e)
/-- locals, translated -/
abbrev xtv (b scr : Nat) (q : Nat × Value) : Nat × Value := (q.1, xv b scr q.2)
theorem xhas_lk {b scr nL i : Nat} {v : Value} {la : Array Slot} {ls : xL} (h : lv_has la nL (ls.map (xtv b scr))) (hl : xlk i ls = some v) : la[i]? = some (.val (xv b scr v)) :=
  h.2.2 (i, xv b scr v) (List.mem_map.mpr ⟨(i, v), xlk_mem hl, rfl⟩)
theorem lv_has_mono {la : Array Slot} {nL : Nat} {l l' : List (Nat × Value)} (h : lv_has la nL l) (hs : ∀ q ∈ l', q ∈ l) : lv_has la nL l' := ⟨h.1, h.2.1, fun q hq => h.2.2 q (hs q hq)⟩
theorem xst1_sub {b scr i : Nat} {v : Value} {ls : xL} : ∀ q ∈ (xst1 i v ls).map (xtv b scr), q ∈ (i, xv b scr v) :: (ls.map (xtv b scr)).filter (fun q => !(q.1 == i) && !(q.1 + 1 == i && q.2.category == 2)) := by
  intro q hq
  obtain ⟨z, hz, rfl⟩ := List.mem_map.mp hq
  rcases xput_mem hz with rfl | hz
  · exact List.mem_cons_self
  · obtain ⟨h1, h2⟩ := List.mem_filter.mp hz
    exact List.mem_cons_of_mem _ (List.mem_filter.mpr ⟨List.mem_map.mpr ⟨z, h1, rfl⟩, by simpa [xtv, xv_cat] using h2⟩)
theorem xst2_sub {b scr i : Nat} {v : Value} {ls : xL} : ∀ q ∈ (xst2 i v ls).map (xtv b scr), q ∈ (i, xv b scr v) :: (ls.map (xtv b scr)).filter (fun q => !(q.1 == i) && (!(q.1 == i + 1) && !(q.1 + 1 == i && q.2.category == 2))) := by
  intro q hq
  obtain ⟨z, hz, rfl⟩ := List.mem_map.mp hq
  rcases xput_mem hz with rfl | hz
  · exact List.mem_cons_self
  · obtain ⟨h1, h2⟩ := List.mem_filter.mp hz
    exact List.mem_cons_of_mem _ (List.mem_filter.mpr ⟨List.mem_map.mpr ⟨z, h1, rfl⟩, by simpa [xtv, xv_cat] using h2⟩)
theorem xib_in {i : Int32} {n : Nat} (h : xib i n = true) : vp_in i n := by
  simp only [xib, Bool.and_eq_true, decide_eq_true_eq] at h
  exact vp_in_iff.mpr h
end
section
section XS
variable {p : Program} {l : Launch} {e : Env} {R : Room} {s : State} {m : MethodId} {args : Array Value} {below : List Frame} {meth : Method} {c : Code} {Q : State → Prop}
theorem x_sized {H : Heap} {locs : List Loc} {cells slots : Nat} {g : JFrame} (h : H.size ≤ s.heap.size + cells → W p l e R s m args below meth c H locs cells slots Q g) : W p l e R s m args below meth c H locs cells slots Q g := fun T hT X => h (by rw [← hT]; exact X.heapSize) T hT X
/-- the world between two instructions: C0 cells and S0 slots were there at the method's entry -/
def xwd (D : va_G) (K : xTy) (b scr : Nat) (s : State) (C0 S0 : Nat) (A : List xC) (g : Nat) (H : Heap) (locs : List Loc) (cells slots : Nat) : Prop :=
  s.heap.size = b + C0 ∧ cells + C0 = A.length + g ∧ slots + S0 = xsn (A, g) ∧ H.size = b + (A.length + g) ∧ A.length ≤ 1000 ∧ va_P D xCl (xw K b scr A) H ∧ va_S (fun q => b ≤ q) s.heap H locs
theorem va_S.comp {B : Nat → Prop} {H0 H H1 : Heap} {l0 l1 : List Loc} (h : va_S B H0 H l0) (h1 : va_S B H H1 l1) : va_S B H0 H1 l1 :=
  ⟨Nat.le_trans h.1 h1.1, fun q hq hn => (h1.2.1 q (Nat.lt_of_lt_of_le hq h.1) hn).trans (h.2.1 q hq hn), h1.2.2⟩
theorem va_S.again {B : Nat → Prop} {H0 H : Heap} {l0 : List Loc} (h : va_S B H0 H l0) : va_S B H H l0 := ⟨Nat.le_refl _, fun _ _ _ => rfl, h.2.2⟩
theorem xsum_set {A : List xC} {k : Nat} {e0 e : xC} (h : A[k]? = some e0) (hz : xsz e = xsz e0) : ((A.set k e).map xsz).sum = (A.map xsz).sum := by
  have : (A.set k e).map xsz = A.map xsz := by
    apply List.ext_getElem?
    intro j
    simp only [List.getElem?_map, List.getElem?_set]
    by_cases hj : k = j
    · subst hj
      rw [h]
      have hlt : k < A.length := (List.getElem?_eq_some_iff.mp h).1
      simp [hlt, hz]
    · simp [hj]
  rw [this]
/-- behind a store into a cell -/
theorem xwd_set {D : va_G} {K : xTy} {b scr C0 S0 : Nat} {A : List xC} {g : Nat} {H H1 : Heap} {locs locs1 : List Loc} {cells slots k : Nat} {e0 e1 : xC} (hw : xwd D K b scr s C0 S0 A g H locs cells slots) (hk : A[k]? = some e0) (hz : xsz e1 = xsz e0)
    (hle : H1.size ≤ s.heap.size + cells) (hP : va_P D xCl ((xw K b scr A).set k (b + k, xe K b scr e1)) H1) (hS : va_S (fun q => b ≤ q) H H1 locs1) : xwd D K b scr s C0 S0 (A.set k e1) g H1 locs1 cells slots := by
  obtain ⟨h1, h2, h3, h4, h5, h6, h7⟩ := hw
  have hs := hS.1
  refine ⟨h1, by simpa using h2, ?_, by simp only [List.length_set]; omega, by simpa using h5, by rw [← xw_set]; exact hP, h7.comp hS⟩
  rw [h3]
  simp only [xsn, xsum_set hk hz]
/-- behind a new cell -/
theorem xwd_new {D : va_G} {K : xTy} {b scr C0 S0 : Nat} {A : List xC} {H H1 : Heap} {locs locs1 : List Loc} {cells slots n q : Nat} {e1 : xC} (hw : xwd D K b scr s C0 S0 A 0 H locs cells slots) (hA : A.length < 1000) (hz : xsz e1 = n)
    (hle : H1.size ≤ s.heap.size + (cells + 1)) (hP : va_P D xCl (xw K b scr A ++ [(q, xe K b scr e1)]) H1) (hD : va_D (fun q => b ≤ q) (xw K b scr A ++ [(q, xe K b scr e1)])) (hS : va_S (fun q => b ≤ q) H H1 locs1) : q = b + A.length ∧ xwd D K b scr s C0 S0 (A ++ [e1]) 0 H1 locs1 (cells + 1) (slots + n) := by
  obtain ⟨h1, h2, h3, h4, h5, h6, h7⟩ := hw
  have hlen : (xw K b scr A).length = A.length := by simp [xw]
  have hq1 : (xw K b scr A ++ [(q, xe K b scr e1)])[A.length]? = some (q, xe K b scr e1) := by
    rw [List.getElem?_append_right (by omega), hlen]
    simp
  have hlt : q < H1.size := va_at.lt (hP _ _ hq1)
  have hbq : b ≤ q := hD.2 _ _ hq1
  have hge : b + A.length ≤ q := by
    rcases Nat.lt_or_ge q (b + A.length) with hc | hc
    · exfalso
      have hi : q - b < A.length := by omega
      obtain ⟨e0, he0⟩ : ∃ e0, A[q - b]? = some e0 := ⟨A[q - b], List.getElem?_eq_getElem hi⟩
      have h9 : (xw K b scr A ++ [(q, xe K b scr e1)])[q - b]? = some (b + (q - b), xe K b scr e0) := by
        rw [List.getElem?_append_left (by omega)]
        exact xw_at he0
      have := hD.1 _ _ _ _ h9 hq1 (by dsimp only; omega)
      omega
    · exact hc
  have hs := hS.1
  have hq : q = b + A.length := by omega
  refine ⟨hq, h1, by simp; omega, ?_, by simp only [List.length_append, List.length_singleton]; omega, by simp; omega, ?_, h7.comp hS⟩
  · simp only [xsn, List.map_append, List.sum_append, List.map_cons, List.map_nil, List.sum_cons, List.sum_nil, hz] at h3 ⊢
    omega
  · rw [xw_app, ← hq]
    exact hP
theorem xcl_get {ci : Nat} (h : ci < 8) : xCl[ci]? = some (xcl ci) := by
  have h8 : ci < xCl.length := h
  unfold xcl
  rw [List.getD_eq_getElem?_getD, List.getElem?_eq_getElem h8]
  rfl
theorem xin_ws : ∀ ci, ci < 8 → ∀ w ∈ u_ws (xcl ci).1 (xcl ci).2.1 (xcl ci).2.2, w ∈ xTb := by decide +kernel
def xtyf (ci : Nat) : Nat → FieldType := fun k => (xtys.getD ci []).getD k .int
theorem xty_ok : ∀ ci, ci < 8 → ∀ k, k < (xcl ci).2.2 → parseFieldDescriptor ((xcl ci).2.1 k).2.2.1 = some (xtyf ci k) := by decide +kernel
theorem xnm_ok : ∀ ci, ci < 8 → ∀ a, a < (xcl ci).2.2 → ∀ b, b < (xcl ci).2.2 → a ≠ b → ((xcl ci).2.1 a).2.1 ≠ ((xcl ci).2.1 b).2.1 := by decide +kernel
theorem xdf_ok : ∀ ci, ci < 8 → ∀ j, j < (xcl ci).2.2 → defaultValue (xtyf ci j) = vp_V (xdfs.getD ci []) j := by decide +kernel
theorem xdf_len : ∀ ci, ci < 8 → (xdfs.getD ci []).length = (xcl ci).2.2 := by decide +kernel
def xdfp (v : Value) : Bool := match v with
  | .ref _ => false
  | _ => true
theorem xdf_pl : ∀ ci, ci < 8 → (xdfs.getD ci []).all xdfp = true := by decide +kernel
theorem xdf_xv {b scr : Nat} {l : List Value} (h : l.all xdfp = true) : l.map (xv b scr) = l := by
  have : ∀ v ∈ l, xv b scr v = v := fun v hv => by
    have h1 := List.all_eq_true.mp h v hv
    cases v <;> first | rfl | (simp [xdfp] at h1)
  rw [List.map_congr_left this, List.map_id']
theorem xin_inst : ∀ ci, ci < 8 → Cond.instantiable (xcl ci).1 (xcl ci).2.2 ∈ xTb ∧ Cond.initialized (xcl ci).1 ∈ xTb := by decide +kernel
theorem xin_obj : Cond.instanceMethod Lib.objectInit ∈ xTb ∧ Cond.code Lib.objectInit ⟨#[0xb1]⟩ 1 none ∈ xTb := by decide +kernel
theorem xin_max : Cond.static Lib.Math.max.name ∈ xTb ∧ Cond.initialized "java/lang/Math" ∈ xTb ∧ Cond.code Lib.Math.max.name Lib.Math.max.code 2 (some .int) ∈ xTb := by decide +kernel
theorem xfit_n {b scr : Nat} {ty : FieldType} {v : Value} (h : xfit ty v = true) : narrow ty (xv b scr v) = xv b scr v ∧ fits ty (xv b scr v) = true := by
  cases ty <;> cases v <;> first | (simp [xfit] at h; done) | (exact ⟨rfl, rfl⟩) | skip
  all_goals
    simp only [xfit, Bool.or_eq_true, beq_iff_eq] at h
    rcases h with rfl | rfl <;> exact ⟨rfl, rfl⟩
theorem xsw_t {pc d : Nat} {x : Int32} : ∀ {lo : Int} {offs : List Int} {sw : List (Int32 × Nat)}, xswt pc lo offs sw = true → (x.toInt < lo ∨ lo + offs.length ≤ x.toInt) → xsw d x sw = d
  | lo, [], [], _, _ => rfl
  | lo, [], _ :: _, h, _ => by cases h
  | lo, _ :: _, [], h, _ => by cases h
  | lo, o :: offs, z :: sw, h, hx => by
    simp only [xswt, Bool.and_eq_true, decide_eq_true_eq] at h
    have hne : ¬ x = z.1 := fun q => by rw [q, h.1] at hx; simp only [List.length_cons] at hx; omega
    simp only [xsw, if_neg hne]
    exact xsw_t h.2.2 (by simp only [List.length_cons] at hx; omega)
theorem xsw_i {pc d : Nat} {x : Int32} : ∀ {lo : Int} {offs : List Int} {sw : List (Int32 × Nat)}, xswt pc lo offs sw = true → ¬ x.toInt < lo → x.toInt < lo + offs.length → ∃ off, offs[(x.toInt - lo).toNat]? = some off ∧ (pc : Int) + off = (xsw d x sw : Int)
  | lo, [], [], _, h1, h2 => by simp at h2; omega
  | lo, [], _ :: _, h, _, _ => by cases h
  | lo, _ :: _, [], h, _, _ => by cases h
  | lo, o :: offs, z :: sw, h, h1, h2 => by
    simp only [xswt, Bool.and_eq_true, decide_eq_true_eq] at h
    by_cases hx : x.toInt = lo
    · have he : x = z.1 := Int32.toInt_inj.mp (hx.trans h.1.symm)
      refine ⟨o, by rw [hx]; simp, ?_⟩
      simp only [xsw, if_pos he]
      exact h.2.1
    · have hne : ¬ x = z.1 := fun q => hx (by rw [q]; exact h.1)
      obtain ⟨off, a1, a2⟩ := xsw_i (d := d) (x := x) h.2.2 (by omega) (by simp only [List.length_cons] at h2; omega)
      refine ⟨off, ?_, by simp only [xsw, if_neg hne]; exact a2⟩
      have : (x.toInt - lo).toNat = (x.toInt - (lo + 1)).toNat + 1 := by omega
      rw [this, List.getElem?_cons_succ]
      exact a1
theorem xsw_p {pc d : Nat} {dflt : Int} (hd : (pc : Int) + dflt = d) {x : Int32} : ∀ {ps : List (Int × Int)} {sw : List (Int32 × Nat)}, xswp pc ps sw = true → (pc : Int) + Op.lookupswitch.offset ps dflt x.toInt = (xsw d x sw : Int)
  | [], [], _ => by simpa [Op.lookupswitch.offset, xsw] using hd
  | [], _ :: _, h => by cases h
  | _ :: _, [], h => by cases h
  | q :: ps, z :: sw, h => by
    simp only [xswp, Bool.and_eq_true, decide_eq_true_eq] at h
    have ih := xsw_p hd (x := x) h.2.2
    by_cases hx : x.toInt = q.1
    · have he : x = z.1 := Int32.toInt_inj.mp (hx.trans h.1.symm)
      simp only [xsw, if_pos he]
      rw [← h.2.1]
      obtain ⟨q1, q2⟩ := q
      simp only at hx
      simp [Op.lookupswitch.offset, hx]
    · have hne : ¬ x = z.1 := fun w => hx (by rw [w]; exact h.1)
      simp only [xsw, if_neg hne]
      rw [← ih]
      obtain ⟨q1, q2⟩ := q
      simp only at hx
      have hx2 : ¬ q1 = x.toInt := fun w => hx w.symm
      simp [Op.lookupswitch.offset, hx, hx2]
end XS
end
section
section XS2
variable {p : Program} {l : Launch} {e : Env} {R : Room} {s : State} {m : MethodId} {args : Array Value} {below : List Frame} {meth : Method} {c : Code} {Q : State → Prop}
theorem x_if {P : Nat → Prop} {b : Bool} {x y : Nat} (h : P (if b = true then x else y)) (hb : b = true) : P x := by rw [if_pos hb] at h; exact h
theorem x_el {P : Nat → Prop} {b : Bool} {x y : Nat} (h : P (if b = true then x else y)) (hb : ¬ b = true) : P y := by rw [if_neg hb] at h; exact h
set_option maxHeartbeats 4000000 in
set_option maxRecDepth 100000 in
/-- a simple instruction, on the machine -/
theorem xs_sound {D : va_G} {K : xTy} {b scr : Nat} {sc : xSc} {C0 S0 mi d g pc : Nat} {r : xRow} {ls : xL} {st : List Value} {A : List xC} {q : xN} {H : Heap} {locs : List Loc} {cells slots : Nat} {la : Array Slot}
    (cx : xcx D K b scr sc mi p s m args meth c) (hok : xok mi pc r = true)
    (hs : xs sc (xme mi).2.2.1 d g r pc ls st A = some q) (hl : lv_has la (xme mi).2.2.1 (ls.map (xtv b scr))) (hw : xwd D K b scr s C0 S0 A g H locs cells slots)
    (hR : q.2.2.2.length + g ≤ C0 + R.cells ∧ xsn (q.2.2.2, g) ≤ S0 + R.slots) (hd : d ≤ R.frames ∧ 64 * d ≤ R.locals)
    (k : ∀ (la' : Array Slot) (H' : Heap) (locs' : List Loc) (cells' slots' : Nat), lv_has la' (xme mi).2.2.1 (q.2.1.map (xtv b scr)) → xwd D K b scr s C0 S0 q.2.2.2 g H' locs' cells' slots' → W p l e R s m args below meth c H' locs' cells' slots' Q (F0 m q.1 la' (q.2.2.1.map (xv b scr)))) :
    W p l e R s m args below meth c H locs cells slots Q (F0 m pc la (st.map (xv b scr))) := by
  obtain ⟨hx, hb, hml, hown, hts, hK, hX, hsb, hbs, hnm, hrt, hlk, hex⟩ := id cx
  obtain ⟨w1, w2, w3, w4, w5, hP, hS⟩ := id hw
  have hbA : ¬ (fun q : Nat => b ≤ q) scr := Nat.not_le.mpr hsb
  have hscr : scr < s.heap.size := Nat.lt_of_lt_of_le hsb hbs
  have hD := xw_D K b scr A
  have hne : ∀ {a : Nat} {e0 : xC}, A[a]? = some e0 → ¬ a = xscr := fun {a} {e0} ha h9 => by
    have := (List.getElem?_eq_some_iff.mp ha).1
    rw [h9] at this
    simp only [xscr] at this
    omega
  obtain ⟨i, len, r1, r2, r3, rv, rk, sw⟩ := r
  simp only [xok, Bool.and_eq_true, decide_eq_true_eq] at hok
  obtain ⟨hdec, hlen, hok⟩ := hok
  cases i with
  | iconst v =>
    simp only [xlen, Bool.or_eq_true, beq_iff_eq] at hlen
    obtain rfl : len = 1 := by omega
    simp only [xokI, decide_eq_true_eq] at hok
    cases hs
    exact lv_iconst hx hb hdec hok (k _ _ _ _ _ hl hw)
  | bipush v =>
    simp only [xlen, Bool.or_eq_true, beq_iff_eq] at hlen
    obtain rfl : len = 2 := by omega
    simp only [xokI, decide_eq_true_eq] at hok
    cases hs
    exact lv_bipush hx hb hdec hok (k _ _ _ _ _ hl hw)
  | sipush v =>
    simp only [xlen, Bool.or_eq_true, beq_iff_eq] at hlen
    obtain rfl : len = 3 := by omega
    simp only [xokI, decide_eq_true_eq] at hok
    cases hs
    exact lv_sipush hx hb hdec hok (k _ _ _ _ _ hl hw)
  | lconst v =>
    simp only [xlen, Bool.or_eq_true, beq_iff_eq] at hlen
    obtain rfl : len = 1 := by omega
    cases hs
    exact lv_lconst hx hb hdec rfl (k _ _ _ _ _ hl hw)
  | ldc2_w ix =>
    simp only [xlen, Bool.or_eq_true, beq_iff_eq] at hlen
    obtain rfl : len = 3 := by omega
    simp only [xokI] at hok
    cases hs
    exact lv_ldc2 hx hb hown (hts _ (xhas_in hok)) hdec (k _ _ _ _ _ hl hw)
  | iload ix =>
    simp only [xlen, Bool.or_eq_true, beq_iff_eq] at hlen
    obtain rfl : len = 2 := by omega
    simp only [xs, xlki] at hs
    split at hs
    · rename_i x hx1
      cases hs
      exact lv_iload hx hb hdec (xhas_lk hl hx1) (k _ _ _ _ _ hl hw)
    · cases hs
  | iload_n ix =>
    simp only [xlen, Bool.or_eq_true, beq_iff_eq] at hlen
    obtain rfl : len = 1 := by omega
    simp only [xs, xlki] at hs
    split at hs
    · rename_i x hx1
      cases hs
      exact lv_iload_n hx hb hdec rfl (xhas_lk hl hx1) (k _ _ _ _ _ hl hw)
    · cases hs
  | lload ix =>
    simp only [xlen, Bool.or_eq_true, beq_iff_eq] at hlen
    obtain rfl : len = 2 := by omega
    simp only [xs, xlkl] at hs
    split at hs
    · rename_i x hx1
      cases hs
      exact lv_lload hx hb hdec (xhas_lk hl hx1) (k _ _ _ _ _ hl hw)
    · cases hs
  | lload_n ix =>
    simp only [xlen, Bool.or_eq_true, beq_iff_eq] at hlen
    obtain rfl : len = 1 := by omega
    simp only [xs, xlkl] at hs
    split at hs
    · rename_i x hx1
      cases hs
      exact lv_lload_n hx hb hdec rfl (xhas_lk hl hx1) (k _ _ _ _ _ hl hw)
    · cases hs
  | aload ix =>
    simp only [xlen, Bool.or_eq_true, beq_iff_eq] at hlen
    obtain rfl : len = 2 := by omega
    simp only [xs, xlka] at hs
    split at hs
    · rename_i x hx1
      cases hs
      exact lv_aload hx hb hdec (xhas_lk hl hx1) (k _ _ _ _ _ hl hw)
    · cases hs
  | aload_n ix =>
    simp only [xlen, Bool.or_eq_true, beq_iff_eq] at hlen
    obtain rfl : len = 1 := by omega
    simp only [xs, xlka] at hs
    split at hs
    · rename_i x hx1
      cases hs
      exact lv_aload_n hx hb hdec rfl (xhas_lk hl hx1) (k _ _ _ _ _ hl hw)
    · cases hs
  | istore ix =>
    simp only [xlen, Bool.or_eq_true, beq_iff_eq] at hlen
    obtain rfl : len = 2 := by omega
    simp only [xs, xi1] at hs
    split at hs
    · split at hs
      · rename_i hlt
        cases hs
        exact lv_istore hx hb hdec hl hlt rfl (fun la2 hl2 => k _ _ _ _ _ (lv_has_mono hl2 xst1_sub) hw)
      · cases hs
    · cases hs
  | istore_n ix =>
    simp only [xlen, Bool.or_eq_true, beq_iff_eq] at hlen
    obtain rfl : len = 1 := by omega
    simp only [xs, xi1] at hs
    split at hs
    · split at hs
      · rename_i hlt
        cases hs
        exact lv_istore_n hx hb hdec rfl hl hlt rfl (fun la2 hl2 => k _ _ _ _ _ (lv_has_mono hl2 xst1_sub) hw)
      · cases hs
    · cases hs
  | lstore ix =>
    simp only [xlen, Bool.or_eq_true, beq_iff_eq] at hlen
    obtain rfl : len = 2 := by omega
    simp only [xs, xl1] at hs
    split at hs
    · split at hs
      · rename_i hlt
        cases hs
        exact lv_lstore hx hb hdec hl hlt rfl (fun la2 hl2 => k _ _ _ _ _ (lv_has_mono hl2 xst2_sub) hw)
      · cases hs
    · cases hs
  | lstore_n ix =>
    simp only [xlen, Bool.or_eq_true, beq_iff_eq] at hlen
    obtain rfl : len = 1 := by omega
    simp only [xs, xl1] at hs
    split at hs
    · split at hs
      · rename_i hlt
        cases hs
        exact lv_lstore_n hx hb hdec rfl hl hlt rfl (fun la2 hl2 => k _ _ _ _ _ (lv_has_mono hl2 xst2_sub) hw)
      · cases hs
    · cases hs
  | astore ix =>
    simp only [xlen, Bool.or_eq_true, beq_iff_eq] at hlen
    obtain rfl : len = 2 := by omega
    simp only [xs, xr1] at hs
    split at hs
    · split at hs
      · rename_i hlt
        cases hs
        exact lv_astore hx hb hdec hl hlt rfl (fun la2 hl2 => k _ _ _ _ _ (lv_has_mono hl2 xst1_sub) hw)
      · cases hs
    · cases hs
  | astore_n ix =>
    simp only [xlen, Bool.or_eq_true, beq_iff_eq] at hlen
    obtain rfl : len = 1 := by omega
    simp only [xs, xr1] at hs
    split at hs
    · split at hs
      · rename_i hlt
        cases hs
        exact lv_astore_n hx hb hdec rfl hl hlt rfl (fun la2 hl2 => k _ _ _ _ _ (lv_has_mono hl2 xst1_sub) hw)
      · cases hs
    · cases hs
  | iinc ix v =>
    simp only [xlen, Bool.or_eq_true, beq_iff_eq] at hlen
    obtain rfl : len = 3 := by omega
    simp only [xokI, decide_eq_true_eq] at hok
    simp only [xs, xlki] at hs
    split at hs
    · rename_i x hx1
      split at hs
      · rename_i hlt
        cases hs
        obtain ⟨kp, hkp⟩ := List.getElem?_of_mem (List.mem_map.mpr ⟨(ix, Value.int x), xlk_mem hx1, rfl⟩ : xtv b scr (ix, Value.int x) ∈ ls.map (xtv b scr))
        exact lv_iinc hx hb hdec hl hkp (by rw [hok]) hlt rfl (fun la2 hl2 => k _ _ _ _ _ (lv_has_mono hl2 xst1_sub) hw)
      · cases hs
    · cases hs
  | dup =>
    simp only [xlen, Bool.or_eq_true, beq_iff_eq] at hlen
    obtain rfl : len = 1 := by omega
    simp only [xs] at hs
    split at hs
    · split at hs
      · rename_i hc1
        cases hs
        exact lv_dup hx hb hdec (by rw [xv_cat]; exact hc1) (k _ _ _ _ _ hl hw)
      · cases hs
    · cases hs
  | pop =>
    simp only [xlen, Bool.or_eq_true, beq_iff_eq] at hlen
    obtain rfl : len = 1 := by omega
    simp only [xs] at hs
    split at hs
    · split at hs
      · rename_i hc1
        cases hs
        exact lv_pop hx hb hdec (by rw [xv_cat]; exact hc1) (k _ _ _ _ _ hl hw)
      · cases hs
    · cases hs
  | dup2 =>
    simp only [xlen, Bool.or_eq_true, beq_iff_eq] at hlen
    obtain rfl : len = 1 := by omega
    simp only [xs] at hs
    split at hs
    · split at hs
      · rename_i hc1
        split at hs
        · rename_i hc2
          cases hs
          exact lv_dup2_11 hx hb hdec (by rw [xv_cat]; exact hc1) (by rw [xv_cat]; exact hc2) (k _ _ _ _ _ hl hw)
        · cases hs
      · cases hs
    · cases hs
  | iadd =>
    simp only [xlen, Bool.or_eq_true, beq_iff_eq] at hlen
    obtain rfl : len = 1 := by omega
    simp only [xs, xi2] at hs
    split at hs
    · cases hs
      exact lv_iadd hx hb hdec (k _ _ _ _ _ hl hw)
    · cases hs
  | isub =>
    simp only [xlen, Bool.or_eq_true, beq_iff_eq] at hlen
    obtain rfl : len = 1 := by omega
    simp only [xs, xi2] at hs
    split at hs
    · cases hs
      exact lv_isub hx hb hdec (k _ _ _ _ _ hl hw)
    · cases hs
  | imul =>
    simp only [xlen, Bool.or_eq_true, beq_iff_eq] at hlen
    obtain rfl : len = 1 := by omega
    simp only [xs, xi2] at hs
    split at hs
    · cases hs
      exact lv_imul hx hb hdec (k _ _ _ _ _ hl hw)
    · cases hs
  | iand =>
    simp only [xlen, Bool.or_eq_true, beq_iff_eq] at hlen
    obtain rfl : len = 1 := by omega
    simp only [xs, xi2] at hs
    split at hs
    · cases hs
      exact lv_iand hx hb hdec (k _ _ _ _ _ hl hw)
    · cases hs
  | ladd =>
    simp only [xlen, Bool.or_eq_true, beq_iff_eq] at hlen
    obtain rfl : len = 1 := by omega
    simp only [xs, xl2] at hs
    split at hs
    · cases hs
      exact lv_ladd hx hb hdec (k _ _ _ _ _ hl hw)
    · cases hs
  | lsub =>
    simp only [xlen, Bool.or_eq_true, beq_iff_eq] at hlen
    obtain rfl : len = 1 := by omega
    simp only [xs, xl2] at hs
    split at hs
    · cases hs
      exact lv_lsub hx hb hdec (k _ _ _ _ _ hl hw)
    · cases hs
  | lmul =>
    simp only [xlen, Bool.or_eq_true, beq_iff_eq] at hlen
    obtain rfl : len = 1 := by omega
    simp only [xs, xl2] at hs
    split at hs
    · cases hs
      exact lv_lmul hx hb hdec (k _ _ _ _ _ hl hw)
    · cases hs
  | land =>
    simp only [xlen, Bool.or_eq_true, beq_iff_eq] at hlen
    obtain rfl : len = 1 := by omega
    simp only [xs, xl2] at hs
    split at hs
    · cases hs
      exact lv_land hx hb hdec (k _ _ _ _ _ hl hw)
    · cases hs
  | lor =>
    simp only [xlen, Bool.or_eq_true, beq_iff_eq] at hlen
    obtain rfl : len = 1 := by omega
    simp only [xs, xl2] at hs
    split at hs
    · cases hs
      exact lv_lor hx hb hdec (k _ _ _ _ _ hl hw)
    · cases hs
  | irem =>
    simp only [xlen, Bool.or_eq_true, beq_iff_eq] at hlen
    obtain rfl : len = 1 := by omega
    simp only [xs, xi2] at hs
    split at hs
    · split at hs
      · cases hs
      · rename_i hy
        cases hs
        exact lv_irem hx hb hdec hy (k _ _ _ _ _ hl hw)
    · cases hs
  | ldiv =>
    simp only [xlen, Bool.or_eq_true, beq_iff_eq] at hlen
    obtain rfl : len = 1 := by omega
    simp only [xs, xl2] at hs
    split at hs
    · split at hs
      · cases hs
      · rename_i hy
        cases hs
        exact lv_ldiv hx hb hdec hy (k _ _ _ _ _ hl hw)
    · cases hs
  | lrem =>
    simp only [xlen, Bool.or_eq_true, beq_iff_eq] at hlen
    obtain rfl : len = 1 := by omega
    simp only [xs, xl2] at hs
    split at hs
    · split at hs
      · cases hs
      · rename_i hy
        cases hs
        exact lv_lrem hx hb hdec hy (k _ _ _ _ _ hl hw)
    · cases hs
  | ineg =>
    simp only [xlen, Bool.or_eq_true, beq_iff_eq] at hlen
    obtain rfl : len = 1 := by omega
    simp only [xs, xi1] at hs
    split at hs
    · cases hs
      exact lv_ineg hx hb hdec (k _ _ _ _ _ hl hw)
    · cases hs
  | lneg =>
    simp only [xlen, Bool.or_eq_true, beq_iff_eq] at hlen
    obtain rfl : len = 1 := by omega
    simp only [xs, xl1] at hs
    split at hs
    · cases hs
      exact lv_lneg hx hb hdec (k _ _ _ _ _ hl hw)
    · cases hs
  | lshl =>
    simp only [xlen, Bool.or_eq_true, beq_iff_eq] at hlen
    obtain rfl : len = 1 := by omega
    simp only [xs, xli] at hs
    split at hs
    · cases hs
      exact lv_lshl hx hb hdec rfl (k _ _ _ _ _ hl hw)
    · cases hs
  | lushr =>
    simp only [xlen, Bool.or_eq_true, beq_iff_eq] at hlen
    obtain rfl : len = 1 := by omega
    simp only [xs, xli] at hs
    split at hs
    · cases hs
      exact lv_lushr hx hb hdec rfl (k _ _ _ _ _ hl hw)
    · cases hs
  | i2l =>
    simp only [xlen, Bool.or_eq_true, beq_iff_eq] at hlen
    obtain rfl : len = 1 := by omega
    simp only [xs, xi1] at hs
    split at hs
    · cases hs
      exact lv_i2l hx hb hdec rfl (k _ _ _ _ _ hl hw)
    · cases hs
  | l2i =>
    simp only [xlen, Bool.or_eq_true, beq_iff_eq] at hlen
    obtain rfl : len = 1 := by omega
    simp only [xs, xl1] at hs
    split at hs
    · cases hs
      exact lv_l2i hx hb hdec rfl (k _ _ _ _ _ hl hw)
    · cases hs
  | i2c =>
    simp only [xlen, Bool.or_eq_true, beq_iff_eq] at hlen
    obtain rfl : len = 1 := by omega
    simp only [xs, xi1] at hs
    split at hs
    · cases hs
      exact lv_i2c hx hb hdec rfl (k _ _ _ _ _ hl hw)
    · cases hs
  | lcmp =>
    simp only [xlen, Bool.or_eq_true, beq_iff_eq] at hlen
    obtain rfl : len = 1 := by omega
    simp only [xs, xl2] at hs
    split at hs
    · cases hs
      exact W.lcmp hx hb hdec (k _ _ _ _ _ hl hw)
    · cases hs
  | goto o =>
    simp only [xlen, Bool.or_eq_true, beq_iff_eq] at hlen
    obtain rfl : len = 3 := by omega
    simp only [xokI, decide_eq_true_eq] at hok
    cases hs
    exact lv_goto hx hb hdec hok (k _ _ _ _ _ hl hw)
  | ifCond kc o =>
    simp only [xlen, Bool.or_eq_true, beq_iff_eq] at hlen
    obtain rfl : len = 3 := by omega
    simp only [xokI, decide_eq_true_eq] at hok
    simp only [xs, xi1] at hs
    split at hs
    · cases hs
      have kk := k _ _ _ _ _ hl hw
      cases kc with
      | eq => exact lv_if_eq hx hb hdec hok (fun h => x_if (P := fun z => W p l e R s m args below meth c H locs cells slots Q (F0 m z la _)) kk (decide_eq_true h)) (fun h => x_el (P := fun z => W p l e R s m args below meth c H locs cells slots Q (F0 m z la _)) kk (fun z => h (of_decide_eq_true z)))
      | ne => exact lv_if_ne hx hb hdec hok (fun h => x_if (P := fun z => W p l e R s m args below meth c H locs cells slots Q (F0 m z la _)) kk (decide_eq_true h)) (fun h => x_el (P := fun z => W p l e R s m args below meth c H locs cells slots Q (F0 m z la _)) kk (fun z => of_decide_eq_true z h))
      | lt => exact lv_if_lt hx hb hdec hok (fun h => x_if (P := fun z => W p l e R s m args below meth c H locs cells slots Q (F0 m z la _)) kk (decide_eq_true h)) (fun h => x_el (P := fun z => W p l e R s m args below meth c H locs cells slots Q (F0 m z la _)) kk (fun z => h (of_decide_eq_true z)))
      | ge => exact lv_if_ge hx hb hdec hok (fun h => x_if (P := fun z => W p l e R s m args below meth c H locs cells slots Q (F0 m z la _)) kk (decide_eq_true h)) (fun h => x_el (P := fun z => W p l e R s m args below meth c H locs cells slots Q (F0 m z la _)) kk (fun z => h (of_decide_eq_true z)))
      | gt => exact lv_if_gt hx hb hdec hok (fun h => x_if (P := fun z => W p l e R s m args below meth c H locs cells slots Q (F0 m z la _)) kk (decide_eq_true h)) (fun h => x_el (P := fun z => W p l e R s m args below meth c H locs cells slots Q (F0 m z la _)) kk (fun z => h (of_decide_eq_true z)))
      | le => exact lv_if_le hx hb hdec hok (fun h => x_if (P := fun z => W p l e R s m args below meth c H locs cells slots Q (F0 m z la _)) kk (decide_eq_true h)) (fun h => x_el (P := fun z => W p l e R s m args below meth c H locs cells slots Q (F0 m z la _)) kk (fun z => h (of_decide_eq_true z)))
    · cases hs
  | if_icmp kc o =>
    simp only [xlen, Bool.or_eq_true, beq_iff_eq] at hlen
    obtain rfl : len = 3 := by omega
    simp only [xokI, decide_eq_true_eq] at hok
    simp only [xs, xi2] at hs
    split at hs
    · cases hs
      have kk := k _ _ _ _ _ hl hw
      cases kc with
      | eq => exact lv_icmp_eq hx hb hdec hok (fun h => x_if (P := fun z => W p l e R s m args below meth c H locs cells slots Q (F0 m z la _)) kk (decide_eq_true h)) (fun h => x_el (P := fun z => W p l e R s m args below meth c H locs cells slots Q (F0 m z la _)) kk (fun z => h (of_decide_eq_true z)))
      | ne => exact lv_icmp_ne hx hb hdec hok (fun h => x_if (P := fun z => W p l e R s m args below meth c H locs cells slots Q (F0 m z la _)) kk (decide_eq_true h)) (fun h => x_el (P := fun z => W p l e R s m args below meth c H locs cells slots Q (F0 m z la _)) kk (fun z => of_decide_eq_true z h))
      | lt => exact lv_icmp_lt hx hb hdec hok (fun h => x_if (P := fun z => W p l e R s m args below meth c H locs cells slots Q (F0 m z la _)) kk (decide_eq_true h)) (fun h => x_el (P := fun z => W p l e R s m args below meth c H locs cells slots Q (F0 m z la _)) kk (fun z => h (of_decide_eq_true z)))
      | ge => exact lv_icmp_ge hx hb hdec hok (fun h => x_if (P := fun z => W p l e R s m args below meth c H locs cells slots Q (F0 m z la _)) kk (decide_eq_true h)) (fun h => x_el (P := fun z => W p l e R s m args below meth c H locs cells slots Q (F0 m z la _)) kk (fun z => h (of_decide_eq_true z)))
      | gt => exact lv_icmp_gt hx hb hdec hok (fun h => x_if (P := fun z => W p l e R s m args below meth c H locs cells slots Q (F0 m z la _)) kk (decide_eq_true h)) (fun h => x_el (P := fun z => W p l e R s m args below meth c H locs cells slots Q (F0 m z la _)) kk (fun z => h (of_decide_eq_true z)))
      | le => exact lv_icmp_le hx hb hdec hok (fun h => x_if (P := fun z => W p l e R s m args below meth c H locs cells slots Q (F0 m z la _)) kk (decide_eq_true h)) (fun h => x_el (P := fun z => W p l e R s m args below meth c H locs cells slots Q (F0 m z la _)) kk (fun z => h (of_decide_eq_true z)))
    · cases hs
  | tableswitch df lo hi offs =>
    simp only [xokI, Bool.and_eq_true, decide_eq_true_eq] at hok
    obtain ⟨ho1, ho2, ho3⟩ := hok
    simp only [xs, xi1] at hs
    split at hs
    · rename_i x rest
      cases hs
      have kk := k _ _ _ _ _ hl hw
      by_cases h1 : x.toInt < lo
      · exact lv_tableOut hx hb hdec (Or.inl h1) (by rw [ho1]; exact congrArg Int.ofNat (xsw_t ho3 (Or.inl h1)).symm) kk
      · by_cases h2 : hi < x.toInt
        · exact lv_tableOut hx hb hdec (Or.inr h2) (by rw [ho1]; exact congrArg Int.ofNat (xsw_t ho3 (Or.inr (by simp only [Array.length_toList]; omega))).symm) kk
        · obtain ⟨off, a1, a2⟩ := xsw_i (d := r1) ho3 h1 (by simp only [Array.length_toList]; omega)
          exact lv_tableIn hx hb hdec h1 h2 (by rw [← Array.getElem?_toList]; exact a1) a2 kk
    · cases hs
  | lookupswitch df ps =>
    simp only [xokI, Bool.and_eq_true, decide_eq_true_eq] at hok
    obtain ⟨ho1, ho2, ho3⟩ := hok
    simp only [xs, xi1] at hs
    split at hs
    · rename_i x rest
      cases hs
      exact lv_lookup hx hb hdec ho2 rfl (xsw_p ho1 ho3) (k _ _ _ _ _ hl hw)
    · cases hs
  | getfield ix =>
    simp only [xlen, Bool.or_eq_true, beq_iff_eq] at hlen
    obtain rfl : len = 3 := by omega
    simp only [xokI, xfok, Bool.and_eq_true, decide_eq_true_eq] at hok
    obtain ⟨ho1, ho2, ho3, ho4⟩ := hok
    simp only [xs, xr1] at hs
    split at hs
    · rename_i a rest
      simp only [xob] at hs
      split at hs
      · rename_i cj fs hA
        split at hs
        · rename_i hcj
          subst hcj
          split at hs
          · rename_i v hv
            cases hs
            have he := xw_at (K := K) (b := b) (scr := scr) hA
            have kk := k _ _ _ _ _ hl hw
            have ha : (if a = xscr then scr else b + a) = b + a := if_neg (hne hA)
            show W p l e R s m args below meth c H locs cells slots Q (F0 m pc la (.ref (if a = xscr then scr else b + a) :: rest.map (xv b scr)))
            rw [ha]
            exact va_get (D := D) (C := (xcl cj).1) (T := (xcl cj).2.1) (N := (xcl cj).2.2) hx hb hts (xin_ws _ ho1) hown hK hP a he (xcl_get ho1) r2 ho2 (hts _ (xhas_in ho3)) (fun y hy => by rw [ho4] at hy; exact hy) (by rw [List.getElem?_map, hv]; rfl) hdec kk
          · cases hs
        · cases hs
      · cases hs
    · cases hs
  | putfield ix =>
    simp only [xlen, Bool.or_eq_true, beq_iff_eq] at hlen
    obtain rfl : len = 3 := by omega
    simp only [xokI, xfok, Bool.and_eq_true, decide_eq_true_eq] at hok
    obtain ⟨⟨ho1, ho2, ho3, ho4⟩, ho5⟩ := hok
    simp only [xs] at hs
    split at hs
    · rename_i v a rest
      simp only [xob] at hs
      split at hs
      · rename_i cj fs hA
        split at hs
        · rename_i hcj
          subst hcj
          split at hs
          · rename_i hfl
            split at hs
            · rename_i hfit
              cases hs
              have he := xw_at (K := K) (b := b) (scr := scr) hA
              have ha : (if a = xscr then scr else b + a) = b + a := if_neg (hne hA)
              show W p l e R s m args below meth c H locs cells slots Q (F0 m pc la (xv b scr v :: .ref (if a = xscr then scr else b + a) :: rest.map (xv b scr)))
              rw [ha]
              obtain ⟨hn1, hn2⟩ := xfit_n (b := b) (scr := scr) hfit
              have hset : (fs.map (xv b scr)).set r2 (xv b scr v) = (fs.set r2 v).map (xv b scr) := (List.map_set ..).symm
              cases hfin : ((xcl cj).2.1 r2).2.2.2 with
              | false =>
                refine va_put (D := D) (A := fun q => b ≤ q) (H0 := H) (C := (xcl cj).1) (T := (xcl cj).2.1) (N := (xcl cj).2.2) hx hb hts (xin_ws _ ho1) (xtyf cj) (xty_ok _ ho1) (xnm_ok _ ho1) hown hK hP hD hS.again a he (xcl_get ho1) r2 ho2 (hts _ (xhas_in ho3)) (fun y hy => by rw [ho4] at hy; exact hy) hfin (xty_ok _ ho1 r2 ho2) hn1 hn2 (by rw [List.length_map]; exact hfl) hdec (fun H1 locs1 hP1 hD1 hS1 => x_sized fun hz => ?_)
                rw [hset] at hP1
                exact k _ _ _ _ _ hl (xwd_set (e1 := .inr (cj, fs.set r2 v)) hw hA (by simp [xsz]) hz hP1 hS1)
              | true =>
                simp only [xfin, hfin, if_true, Bool.and_eq_true, decide_eq_true_eq] at ho5
                refine va_putF (D := D) (A := fun q => b ≤ q) (H0 := H) (C := (xcl cj).1) (T := (xcl cj).2.1) (N := (xcl cj).2.2) hx hb hts (xin_ws _ ho1) (xtyf cj) (xty_ok _ ho1) (xnm_ok _ ho1) hown hK hP hD hS.again a he (xcl_get ho1) r2 ho2 (hts _ (xhas_in ho3)) (fun y hy => by rw [ho4] at hy; exact hy) hfin (by rw [hnm]; exact ho5.1) (by rw [ho4]; exact ho5.2) (xty_ok _ ho1 r2 ho2) hn1 hn2 (by rw [List.length_map]; exact hfl) hdec (fun H1 locs1 hP1 hD1 hS1 => x_sized fun hz => ?_)
                rw [hset] at hP1
                exact k _ _ _ _ _ hl (xwd_set (e1 := .inr (cj, fs.set r2 v)) hw hA (by simp [xsz]) hz hP1 hS1)
            · cases hs
          · cases hs
        · cases hs
      · cases hs
    · cases hs
  | arraylength =>
    simp only [xlen, Bool.or_eq_true, beq_iff_eq] at hlen
    obtain rfl : len = 1 := by omega
    simp only [xs, xr1] at hs
    split at hs
    · rename_i a rest
      split at hs
      · rename_i ha
        cases hs
        show W p l e R s m args below meth c H locs cells slots Q (F0 m pc la (.ref (if a = xscr then scr else b + a) :: rest.map (xv b scr)))
        rw [if_pos ha]
        exact va_slen hx hb hX hscr hbA hS hdec (k _ _ _ _ _ hl hw)
      · split at hs
        · rename_i hna ty n f hA
          cases hs
          have he := xw_at (K := K) (b := b) (scr := scr) hA
          show W p l e R s m args below meth c H locs cells slots Q (F0 m pc la (.ref (if a = xscr then scr else b + a) :: rest.map (xv b scr)))
          rw [if_neg (hne hA)]
          have kk := k _ _ _ _ _ hl hw
          cases ty with
          | int => exact va_alen hx hb hK hP a 0 he rfl rfl hdec kk
          | long => exact va_alen hx hb hK hP a 1 he rfl rfl hdec kk
          | _ => exact va_alen (ty := .char) hx hb hK hP a 2 he rfl rfl hdec kk
        · cases hs
    · cases hs
  | iaload =>
    simp only [xlen, Bool.or_eq_true, beq_iff_eq] at hlen
    obtain rfl : len = 1 := by omega
    simp only [xs, xri] at hs
    split at hs
    · rename_i j a rest
      split at hs
      · rename_i ha
        split at hs
        · rename_i hin
          cases hs
          show W p l e R s m args below meth c H locs cells slots Q (F0 m pc la (.int j :: .ref (if a = xscr then scr else b + a) :: rest.map (xv b scr)))
          rw [if_pos ha]
          exact va_sld hx hb hX hscr hbA hS (xib_in hin) hdec (k _ _ _ _ _ hl hw)
        · cases hs
      · rename_i hna
        simp only [xarI] at hs
        split at hs
        · rename_i ty n f hA
          split at hs
          · rename_i hty
            subst hty
            split at hs
            · rename_i hin
              cases hs
              have he := xw_at (K := K) (b := b) (scr := scr) hA
              show W p l e R s m args below meth c H locs cells slots Q (F0 m pc la (.int j :: .ref (if a = xscr then scr else b + a) :: rest.map (xv b scr)))
              rw [if_neg (hne hA)]
              exact va_iald hx hb hK hP a 0 he rfl (xib_in hin) hdec (k _ _ _ _ _ hl hw)
            · cases hs
          · cases hs
        · cases hs
    · cases hs
  | caload =>
    simp only [xlen, Bool.or_eq_true, beq_iff_eq] at hlen
    obtain rfl : len = 1 := by omega
    simp only [xs, xri] at hs
    split at hs
    · rename_i j a rest
      simp only [xarI] at hs
      split at hs
      · rename_i ty n f hA
        split at hs
        · rename_i hty
          subst hty
          split at hs
          · rename_i hin
            cases hs
            have he := xw_at (K := K) (b := b) (scr := scr) hA
            show W p l e R s m args below meth c H locs cells slots Q (F0 m pc la (.int j :: .ref (if a = xscr then scr else b + a) :: rest.map (xv b scr)))
            rw [if_neg (hne hA)]
            exact va_cald hx hb hK hP a 2 he rfl (xib_in hin) hdec (k _ _ _ _ _ hl hw)
          · cases hs
        · cases hs
      · cases hs
    · cases hs
  | laload =>
    simp only [xlen, Bool.or_eq_true, beq_iff_eq] at hlen
    obtain rfl : len = 1 := by omega
    simp only [xs, xri] at hs
    split at hs
    · rename_i j a rest
      simp only [xarL] at hs
      split at hs
      · rename_i ty n f hA
        split at hs
        · rename_i hty
          subst hty
          split at hs
          · rename_i hin
            cases hs
            have he := xw_at (K := K) (b := b) (scr := scr) hA
            show W p l e R s m args below meth c H locs cells slots Q (F0 m pc la (.int j :: .ref (if a = xscr then scr else b + a) :: rest.map (xv b scr)))
            rw [if_neg (hne hA)]
            exact va_lald hx hb hK hP a 1 he rfl (xib_in hin) hdec (k _ _ _ _ _ hl hw)
          · cases hs
        · cases hs
      · cases hs
    · cases hs
  | iastore =>
    simp only [xlen, Bool.or_eq_true, beq_iff_eq] at hlen
    obtain rfl : len = 1 := by omega
    simp only [xs, xi1, xri] at hs
    split at hs
    · rename_i x rest0
      split at hs
      · rename_i j a rest
        simp only [xarI] at hs
        split at hs
        · rename_i ty n f hA
          split at hs
          · rename_i hty
            subst hty
            split at hs
            · rename_i hin
              cases hs
              have he := xw_at (K := K) (b := b) (scr := scr) hA
              show W p l e R s m args below meth c H locs cells slots Q (F0 m pc la (.int x :: .int j :: .ref (if a = xscr then scr else b + a) :: rest.map (xv b scr)))
              rw [if_neg (hne hA)]
              refine va_iast (A := fun q => b ≤ q) (H0 := H) hx hb hK hP hD hS.again a 0 he rfl (xib_in hin) hdec (fun H1 locs1 hP1 hD1 hS1 => x_sized fun hz => ?_)
              exact k _ _ _ _ _ hl (xwd_set (e1 := .inl (.int, n, .inl (upd f j.toNatClampNeg x))) hw hA rfl hz hP1 hS1)
            · cases hs
          · cases hs
        · cases hs
      · cases hs
    · cases hs
  | castore =>
    simp only [xlen, Bool.or_eq_true, beq_iff_eq] at hlen
    obtain rfl : len = 1 := by omega
    simp only [xs, xi1, xri] at hs
    split at hs
    · rename_i x rest0
      split at hs
      · rename_i j a rest
        simp only [xarI] at hs
        split at hs
        · rename_i ty n f hA
          split at hs
          · rename_i hty
            subst hty
            split at hs
            · rename_i hin
              cases hs
              have he := xw_at (K := K) (b := b) (scr := scr) hA
              show W p l e R s m args below meth c H locs cells slots Q (F0 m pc la (.int x :: .int j :: .ref (if a = xscr then scr else b + a) :: rest.map (xv b scr)))
              rw [if_neg (hne hA)]
              refine va_cast (A := fun q => b ≤ q) (H0 := H) hx hb hK hP hD hS.again a 2 he rfl (xib_in hin) hdec (fun H1 locs1 hP1 hD1 hS1 => x_sized fun hz => ?_)
              exact k _ _ _ _ _ hl (xwd_set (e1 := .inl (.char, n, .inl (upd f j.toNatClampNeg (vp_nar .char x)))) hw hA rfl hz hP1 hS1)
            · cases hs
          · cases hs
        · cases hs
      · cases hs
    · cases hs
  | lastore =>
    simp only [xlen, Bool.or_eq_true, beq_iff_eq] at hlen
    obtain rfl : len = 1 := by omega
    simp only [xs, xl1, xri] at hs
    split at hs
    · rename_i x rest0
      split at hs
      · rename_i j a rest
        simp only [xarL] at hs
        split at hs
        · rename_i ty n f hA
          split at hs
          · rename_i hty
            subst hty
            split at hs
            · rename_i hin
              cases hs
              have he := xw_at (K := K) (b := b) (scr := scr) hA
              show W p l e R s m args below meth c H locs cells slots Q (F0 m pc la (.long x :: .int j :: .ref (if a = xscr then scr else b + a) :: rest.map (xv b scr)))
              rw [if_neg (hne hA)]
              refine va_last (A := fun q => b ≤ q) (H0 := H) hx hb hK hP hD hS.again a 1 he rfl (xib_in hin) hdec (fun H1 locs1 hP1 hD1 hS1 => x_sized fun hz => ?_)
              exact k _ _ _ _ _ hl (xwd_set (e1 := .inl (.long, n, .inr (.inl (vp_updL f j.toNatClampNeg x)))) hw hA rfl hz hP1 hS1)
            · cases hs
          · cases hs
        · cases hs
      · cases hs
    · cases hs
  | newarray t =>
    simp only [xlen, Bool.or_eq_true, beq_iff_eq] at hlen
    obtain rfl : len = 2 := by omega
    simp only [xokI] at hok
    simp only [xs, xi1] at hs
    split at hs
    · rename_i x rest
      split at hs
      · rename_i hg
        subst hg
        split at hs
        · rename_i hin
          split at hs
          · rename_i hA9
            split at hs
            · rename_i e1 he1
              cases hs
              simp only [xib, Bool.and_eq_true, decide_eq_true_eq] at hin
              have hnn : ¬ x < 0 := fun h => by have := Int32.lt_iff_toInt_lt.mp h; simp at this; omega
              have hcl : x.toNatClampNeg < 100000 := by have h9 : x.toNatClampNeg = x.toInt.toNat := rfl; rw [h9]; omega
              have hsz : xsz e1 = x.toNatClampNeg := by cases t <;> simp only [xnar] at he1 <;> cases he1 <;> rfl
              have hce : cells + 1 ≤ R.cells := by have := hR.1; simp only [List.length_append, List.length_singleton] at this; omega
              have hsl : slots + x.toNatClampNeg ≤ R.slots := by have := hR.2; simp only [xsn, List.map_append, List.sum_append, List.map_cons, List.map_nil, List.sum_cons, List.sum_nil, hsz] at this w3; omega
              have key : ∀ (ty : FieldType) (a0 : vp_A) (t0 : Nat), newarray.typeOf t = ty → e1 = .inl (ty, a0) → (xtl K)[t0]? = some (xk K ty, ty) → va_RA s (xk K ty) ty = (s.vm.findClass ("[" ++ ty.toString) = some (xk K ty)) → (∀ cA : ClassId, va_RA s cA ty = (s.vm.findClass ("[" ++ ty.toString) = some cA)) → (∀ cA : ClassId, vp_cell cA a0 = arrV cA x.toNatClampNeg (fun _ => defaultValue ty)) → componentBytes ty ≤ 8 → W p l e R s m args below meth c H locs cells slots Q (F0 m pc la (.int x :: rest.map (xv b scr))) := by
                intro ty a0 t0 hty he ht0 _ hra ha hcb
                subst he
                refine va_newa (A := fun q => b ≤ q) (H0 := H) hx hb (hts _ (xhas_in hok)) hty hK hP hD hS.again (fun q hq => by show b ≤ q; omega) ha hnn rfl (by have : x.toNatClampNeg * componentBytes ty ≤ 100000 * 8 := Nat.mul_le_mul (by omega) hcb; omega) hce hsl hdec (fun q cA H1 hK1 hP1 hD1 hS1 => x_sized fun hz => ?_)
                have e1 : cA = xk K ty := by
                  have z1 := (hK1.2 3 (cA, ty) rfl).2
                  have z2 := (hK.2 t0 _ ht0).2
                  rw [hra] at z1 z2
                  exact Option.some.inj (z1.symm.trans z2)
                subst e1
                obtain ⟨hq, hw1⟩ := xwd_new (e1 := .inl (ty, a0)) (n := x.toNatClampNeg) hw hA9 hsz hz hP1 hD1 hS1
                have kk := k _ _ _ _ _ hl hw1
                have h3 : xv b scr (.ref A.length) = .ref q := by rw [hq]; show Value.ref (if A.length = xscr then scr else b + A.length) = _; rw [if_neg (by simp only [xscr]; omega)]
                rw [List.map_cons, h3] at kk
                exact kk
              cases t <;> simp only [xnar] at he1 <;> cases he1
              · exact key .char _ 2 rfl rfl rfl rfl (fun _ => rfl) (fun _ => rfl) (by decide)
              · exact key .int _ 0 rfl rfl rfl rfl (fun _ => rfl) (fun _ => rfl) (by decide)
              · exact key .long _ 1 rfl rfl rfl rfl (fun _ => rfl) (fun _ => rfl) (by decide)
            · cases hs
          · cases hs
        · cases hs
      · cases hs
    · cases hs
  | new ix =>
    simp only [xlen, Bool.or_eq_true, beq_iff_eq] at hlen
    obtain rfl : len = 3 := by omega
    simp only [xs] at hs
    split at hs
    · rename_i hg
      subst hg
      split at hs
      · rename_i hA9
        split at hs
        · rename_i h8
          cases hs
          simp only [xokI, if_pos h8] at hok
          have hn : (xdfs.getD r1 []).length = (xcl r1).2.2 := xdf_len _ h8
          have hce : cells + 1 ≤ R.cells := by have := hR.1; simp only [List.length_append, List.length_singleton] at this; omega
          have hsl : slots + (xcl r1).2.2 ≤ R.slots := by have := hR.2; simp only [xsn, List.map_append, List.sum_append, List.map_cons, List.map_nil, List.sum_cons, List.sum_nil, xsz, hn] at this w3; omega
          refine va_new (A := fun q => b ≤ q) (H0 := H) (ci := r1) (fs := xdfs.getD r1 []) (C := (xcl r1).1) (T := (xcl r1).2.1) (N := (xcl r1).2.2) hx hb hts (xin_ws _ h8) (xtyf r1) (xty_ok _ h8) hown (hts _ (xhas_in hok)) (hts _ (xin_inst _ h8).1) (hts _ (xin_inst _ h8).2) hK hP hD hS.again (fun q hq => by show b ≤ q; omega) (xcl_get h8) (xdf_ok _ h8) hce hsl hdec (fun q H1 hP1 hD1 hS1 => x_sized fun hz => ?_)
          have hxe : xe K b scr (.inr (r1, xdfs.getD r1 [])) = .inr (r1, xdfs.getD r1 []) := by show Sum.inr (r1, (xdfs.getD r1 []).map (xv b scr)) = _; rw [xdf_xv (xdf_pl _ h8)]
          rw [← hxe] at hP1 hD1
          obtain ⟨hq, hw1⟩ := xwd_new (e1 := .inr (r1, xdfs.getD r1 [])) (n := (xcl r1).2.2) hw hA9 hn hz hP1 hD1 hS1
          have kk := k _ _ _ _ _ hl hw1
          have h3 : xv b scr (.ref A.length) = .ref q := by rw [hq]; show Value.ref (if A.length = xscr then scr else b + A.length) = _; rw [if_neg (by simp only [xscr]; omega)]
          rw [List.map_cons, h3] at kk
          exact kk
        · cases hs
      · cases hs
    · cases hs
  | invokespecial ix =>
    simp only [xlen, Bool.or_eq_true, beq_iff_eq] at hlen
    obtain rfl : len = 3 := by omega
    simp only [xs] at hs
    split at hs
    · rename_i h1
      subst h1
      split at hs
      · simp only [xr1] at hs
        split at hs
        · rename_i a rest
          split at hs
          · rename_i hca
            cases hs
            have ho : xhas r3 (.methodLink (xme mi).1.cls ix objectInit) = true := by simpa [xokI] using hok
            exact W.objInit hx hb hown (hts _ (xhas_in ho)) (hts _ xin_obj.1) (hts _ xin_obj.2) rfl (by rw [hml]; exact hl.1) rfl hdec (by omega) (by have hc2 : ((rest.map (xv b scr)).map fun v => v.category).sum ≤ 8 := (by rw [List.map_map]; simpa [Function.comp_def, xv_cat] using hca); show 2 * 0 + _ + 12 ≤ R.locals; omega) (k _ _ _ _ _ hl hw)
          · cases hs
        · cases hs
      · cases hs
    · cases hs
  | invokestatic ix =>
    simp only [xlen, Bool.or_eq_true, beq_iff_eq] at hlen
    obtain rfl : len = 3 := by omega
    simp only [xs] at hs
    split at hs
    · rename_i h1
      subst h1
      split at hs
      · simp only [xi2] at hs
        split at hs
        · rename_i y x rest
          split at hs
          · rename_i hca
            cases hs
            have ho : xhas r3 (.methodLink (xme mi).1.cls ix Lib.Math.max.name) = true := by simpa [xokI] using hok
            have hR1 : A.length + g ≤ C0 + R.cells := hR.1
            have hR2 : xsn (A, g) ≤ S0 + R.slots := hR.2
            exact va_mmax hx hb (by rw [hml]; exact hl.1.symm) hown (hts _ (xhas_in ho)) (hts _ xin_max.1) (hts _ xin_max.2.1) (hts _ xin_max.2.2) (by omega) (by have hc2 : ((rest.map (xv b scr)).map fun v => v.category).sum ≤ 8 := (by rw [List.map_map]; simpa [Function.comp_def, xv_cat] using hca); omega) (by omega) (by omega) hdec (k _ _ _ _ _ hl hw)
          · cases hs
        · cases hs
      · cases hs
    · cases hs
  | _ => cases hs
end XS2
end
section
section XR
variable {p : Program} {l : Launch} {e : Env} {R : Room} {s : State} {m : MethodId} {args : Array Value} {below : List Frame} {meth : Method} {c : Code} {Q : State → Prop}
theorem xw_le {A : List xC} {k : Nat} {e0 e1 : xC} (h : A[k]? = some e0) (hz : xsz e1 = xsz e0) : A.length ≤ (A.set k e1).length ∧ (A.map xsz).sum ≤ ((A.set k e1).map xsz).sum := ⟨by simp, Nat.le_of_eq (xsum_set h hz).symm⟩
set_option maxHeartbeats 4000000 in
theorem xs_mono {sc : xSc} {nL d g pc : Nat} {r : xRow} {ls : xL} {st : List Value} {A : List xC} {q : xN} (hs : xs sc nL d g r pc ls st A = some q) : A.length ≤ q.2.2.2.length ∧ (A.map xsz).sum ≤ (q.2.2.2.map xsz).sum := by
  obtain ⟨i, len, r1, r2, r3, rv, rk, sw⟩ := r
  cases i <;> first
    | (cases hs; done)
    | (cases hs; exact ⟨Nat.le_refl _, Nat.le_refl _⟩)
    | (simp only [xs, xi1, xi2, xl1, xl2, xli, xr1, xri, xlki, xlkl, xlka, xarI, xarL, xob] at hs
       repeat' (split at hs)
       all_goals first
         | (cases hs; done)
         | (cases hs; exact ⟨Nat.le_refl _, Nat.le_refl _⟩)
         | (cases hs; rename_i hA _; exact xw_le hA rfl)
         | (cases hs; rename_i hA _ _; exact xw_le hA rfl)
         | (cases hs; rename_i hA _ _ _; exact xw_le hA (by simp [xsz]))
         | (cases hs; exact ⟨by simp, by simp⟩))
theorem xr_mono (sc : xSc) : ∀ (n d mi pc : Nat) (ls : xL) (st : List Value) (h : xH) (o : xO) (h' : xH), xr sc n d mi pc ls st h = some (o, h') → xcn h ≤ xcn h' ∧ xsn h ≤ xsn h'
  | 0, _, _, _, _, _, _, _, _, hr => by cases hr
  | n + 1, d, mi, pc, ls, st, h, o, h', hr => by
    unfold xr at hr
    split at hr
    · cases hr
    · rename_i r hrow
      split at hr
      · split at hr
        · cases hr
        · rename_i q hq
          have h1 := xs_mono hq
          have h2 := xr_mono sc n _ _ _ _ _ _ _ _ hr
          simp only [xcn, xsn] at h2 ⊢
          omega
      · split at hr
        · cases hr
        · cases hr
          exact ⟨Nat.le_refl _, Nat.le_refl _⟩
      · split at hr
        · cases hr
        · rename_i d'
          split at hr
          · cases hr
          · rename_i q hq
            split at hr
            · cases hr
            · rename_i v h1 hc
              have a1 := xr_mono sc n _ _ _ _ _ _ _ _ hc
              have a2 := xr_mono sc n _ _ _ _ _ _ _ _ hr
              omega
            · rename_i ev h1 hc
              split at hr
              · cases hr
              · have a1 := xr_mono sc n _ _ _ _ _ _ _ _ hc
                have a2 := xr_mono sc n _ _ _ _ _ _ _ _ hr
                omega
      · split at hr
        · exact xr_mono sc n _ _ _ _ _ _ _ _ hr
        · cases hr
      · split at hr
        · cases hr
          simp only [xcn, xsn]
          omega
        · cases hr
theorem xargs_map (b scr : Nat) : ∀ (vs : List Value) (i : Nat), lv_args i (vs.map (xv b scr)) = (lv_args i vs).map (xtv b scr)
  | [], _ => rfl
  | v :: vs, i => by
    simp only [List.map_cons, lv_args, xv_cat, xargs_map b scr vs]
theorem xsl_map (b scr : Nat) (vs : List Value) : (lg_sl (vs.map (xv b scr))).length = (lg_sl vs).length := by
  induction vs with
  | nil => rfl
  | cons v vs ih =>
    simp only [lg_sl, List.map_cons, List.flatMap_cons, List.length_append, xv_cat] at ih ⊢
    rw [ih]
    split <;> simp
/-- what a callee is given and gives back -/
def xPc (D : va_G) (K : xTy) (b scr : Nat) (sc : xSc) (h : xH) (As : List Value) : Array Value → State → Prop := fun v U =>
  v = (As.map (xv b scr)).toArray ∧ U.heap.size = b + xcn h ∧ h.1.length ≤ 1000 ∧ va_P D xCl (xw K b scr h.1) U.heap ∧ va_K D xCl (xtl K) U ∧ va_X scr sc.1 sc.2 U U.heap ∧ scr < b ∧ xex b U
def xQc (D : va_G) (K : xTy) (b scr : Nat) (v : Option Value) (h' : xH) : Array Value → State → Outcome → State → Prop := fun _ st oc t =>
  oc = .returned (v.map (xv b scr)) ∧ t.heap.size = b + xcn h' ∧ h'.1.length ≤ 1000 ∧ va_P D xCl (xw K b scr h'.1) t.heap ∧ ∀ q, q < b → t.heap[q]? = st.heap[q]?
def xRm (d mc ms : Nat) : Room := { frames := d, cells := mc, slots := ms, locals := 64 * d }
def xws (mi : Nat) : List Cond := Cond.code (xme mi).1 (xme mi).2.1 (xme mi).2.2.1 (xme mi).2.2.2.1 :: xTb
theorem xPc_blind {D : va_G} {K : xTy} {b scr : Nat} {sc : xSc} {h : xH} {As : List Value} : FrameBlind (xPc D K b scr sc h As) := by
  intro a U g mk q
  obtain ⟨q1, q2, q3, q4, q5, q6, q7, q8⟩ := q
  exact ⟨q1, q2, q3, q4, va_K.moved (u := U) (U := U.calling g mk a) (Vm.Alike.refl U.vm) q5, va_X.moved (u := U) (U := U.calling g mk a) (Vm.Alike.refl U.vm) q6, q7, q8⟩
theorem x_call {H : Heap} {locs : List Loc} {cells slots mc ms pc : Nat} {la : Array Slot} {st0 rest : List Value} {Qa : State → Outcome → State → Prop} {free : Addr → Prop}
    (hr : va_Run p l e R s m args below meth c H locs cells slots mc ms (F0 m pc la st0) rest Qa free)
    (kk : ∀ (v : Option Value) (st₀ t : State) (L : List Loc), st₀.heap = H → (∀ q ∈ L, free q.base) → Qa st₀ (.returned v) t → W p l e R s m args below meth c t.heap (locs ++ L) (cells + mc) (slots + ms) Q (F0 m (pc + 3) la (v.toList ++ rest))) :
    W p l e R s m args below meth c H locs cells slots Q (F0 m pc la st0) := by
  intro T hT X
  obtain ⟨v, st₀, t, T', L, h1, X', h2, h3, h4, h5, h6⟩ := hr T hT X
  obtain ⟨u, a1, a2⟩ := kk v st₀ t L h1 h2 h5 T' h3 X'
  exact ⟨u, h6 u a1, a2⟩
end XR
end
section
section XM1
variable {p : Program} {l : Launch} {e : Env} {R : Room} {s : State} {m : MethodId} {args : Array Value} {below : List Frame} {meth : Method} {c : Code} {Q : State → Prop}
theorem xTb_good {w : Cond} (h : w ∈ xTb) : (w.onTables && w.keeps) = true ∨ ∃ ty, w = .arrayClass ty := good_of_word (List.mem_filter.mp h).2
theorem xws_good {mi : Nat} (hmi : mi < 214) : GoodIn xTb (xws mi) := by
  have h := xokM_of (show mi < 221 by omega)
  simp only [xokM, if_pos hmi, Bool.and_eq_true] at h
  intro w hw
  rcases List.mem_cons.mp hw with rfl | hw
  · exact ⟨xhas_in h.1, xTb_good (xhas_in h.1)⟩
  · exact ⟨hw, xTb_good hw⟩
/-- what is known of a method -/
theorem xmi_facts {mi : Nat} (hmi : mi < 221) : Cond.initialized (xme mi).1.cls ∈ xTb ∧ (xme mi).1.cls ≠ "java/lang/invoke/MethodHandle" ∧ (xme mi).1.cls ≠ "java/lang/invoke/VarHandle" ∧ plainName (xme mi).1.cls = true ∧ (xme mi).2.2.1 ≤ 40 := by
  have h := xokM_of hmi
  simp only [xokM, Bool.and_eq_true, decide_eq_true_eq] at h
  exact ⟨xhas_in h.2.2.1, h.2.2.2.1, h.2.2.2.2.1, h.2.2.2.2.2.1, h.2.2.2.2.2.2⟩
theorem xmi_static {mi : Nat} (hmi : mi < 220) (h99 : (xme mi).2.2.2.2.1 = 99) : Cond.static (xme mi).1 ∈ xTb := by
  have h := xokM_of (show mi < 221 by omega)
  simp only [xokM, if_pos h99, if_pos hmi, Bool.and_eq_true] at h
  exact xhas_in h.2.1
theorem xmi_inst {mi : Nat} (hmi : mi < 220) (h99 : (xme mi).2.2.2.2.1 ≠ 99) : Cond.instanceMethod (xme mi).1 ∈ xTb ∧ (xme mi).1.cls = (xcl (xme mi).2.2.2.2.1).1 ∧ (xme mi).2.2.2.2.1 < 8 ∧ ((xme mi).1.name ≠ "<init>" → Cond.selects (xme mi).1.cls (xme mi).1 (xme mi).1 ∈ xTb) := by
  have h := xokM_of (show mi < 221 by omega)
  simp only [xokM, if_neg h99, Bool.and_eq_true, decide_eq_true_eq] at h
  refine ⟨xhas_in h.2.1.1, h.2.1.2.1, h.2.1.2.2.1, fun hn => ?_⟩
  have h4 := h.2.1.2.2.2
  rw [if_neg hn] at h4
  exact xhas_in h4
/-- the end of a method -/
theorem xret_sound {D : va_G} {K : xTy} {b scr : Nat} {sc : xSc} {C0 S0 mi pc : Nat} {r : xRow} {st : List Value} {h : xH} {v : Option Value} {H : Heap} {locs : List Loc} {cells slots : Nat} {la : Array Slot}
    (cx : xcx D K b scr sc mi p s m args meth c) (hok : xok mi pc r = true) (hv : xret (xme mi).2.2.2.1 r.1 st = some v) (hw : xwd D K b scr s C0 S0 h.1 h.2 H locs cells slots) (hc : xcn h ≤ C0 + R.cells) (hsl : xsn h ≤ S0 + R.slots) :
    W p l e R s m args below meth c H locs cells slots (MQ below (xQc D K b scr v h) args s R.cells R.slots (fun q => b ≤ q)) (F0 m pc la (st.map (xv b scr))) := by
  obtain ⟨hx, hb, hml, hown, hts, hK, hX, hsb, hbs, hnm, hrt, hlk, hex⟩ := id cx
  obtain ⟨w1, w2, w3, w4, w5, hP, hS⟩ := id hw
  have hq : ∀ (z : Option Value) (t : State), t.heap = H → z = v.map (xv b scr) → xQc D K b scr v h args s (.returned z) t := fun z t ht hz => by
    refine ⟨by rw [hz], by rw [ht]; exact w4, w5, by rw [ht]; exact hP, fun q hq => ?_⟩
    rw [ht]
    exact hS.2.1 q (by omega) (by show ¬ b ≤ q; omega)
  have hc2 : cells ≤ R.cells := by simp only [xcn] at hc; omega
  have hs2 : slots ≤ R.slots := by
    have h9 : xsn h = xsn (h.1, h.2) := rfl
    omega
  obtain ⟨i, len, r1, r2, r3, rv, rk, sw⟩ := r
  simp only [xok, Bool.and_eq_true, decide_eq_true_eq] at hok
  obtain ⟨hdec, hlen, -⟩ := hok
  refine W.widen (k := R.cells) (n := R.slots) hc2 hs2 ?_
  unfold xret at hv
  split at hv
  · rename_i x heq
    simp only [xlen, Bool.or_eq_true, beq_iff_eq] at heq hlen
    subst heq
    simp only [xlen] at hlen
    obtain rfl : len = 1 := by omega
    split at hv
    · rename_i hty
      cases hv
      exact W.iret hx hb (by rw [hrt, hty]) (fun t ht _ => hq _ t ht rfl) hS.2.2 hdec
    · rename_i hty
      split at hv
      · rename_i h01
        cases hv
        have hn : narrow .boolean (.int x) = .int x := by
          simp only [Bool.or_eq_true, beq_iff_eq] at h01
          rcases h01 with rfl | rfl <;> rfl
        exact W.zret hx hb (by rw [hrt, hty]) hn (fun t ht _ => hq _ t ht rfl) hS.2.2 hdec
      · cases hv
    · cases hv
  · rename_i x heq
    simp only at heq
    subst heq
    simp only [xlen, Bool.or_eq_true, beq_iff_eq] at hlen
    obtain rfl : len = 1 := by omega
    split at hv
    · rename_i hty
      cases hv
      exact W.lret hx hb (by rw [hrt, hty]) (fun t ht _ => hq _ t ht rfl) hS.2.2 hdec
    · cases hv
  · rename_i heq
    simp only at heq
    subst heq
    simp only [xlen, Bool.or_eq_true, beq_iff_eq] at hlen
    obtain rfl : len = 1 := by omega
    split at hv
    · rename_i hty
      cases hv
      exact W.vret hx hb (by rw [hrt, hty]) (fun t ht _ => hq _ t ht rfl) hS.2.2 hdec
    · cases hv
  · cases hv
/-- a text's number: ldc and Packed.ofText in one -/
def xOf (l : Launch) : Prop := ∀ (sc : xSc) (p : Program) (e : Env) (R : Room) (s : State) (m : MethodId) (args : Array Value) (below : List Frame) (meth : Method) (c : Code) (Q : State → Prop) (D : va_G) (K : xTy) (b scr C0 S0 mi d pc : Nat) (r : xRow) (st : List Value) (A : List xC) (g : Nat) (H : Heap) (locs : List Loc) (cells slots : Nat) (la : Array Slot),
  mi < 214 → xcx D K b scr sc mi p s m args meth c → xrow mi pc = some r → xkd r = 4 → la.size = (xme mi).2.2.1 → xwd D K b scr s C0 S0 A g H locs cells slots → A.length + g ≤ C0 + R.cells → xsn (A, g) ≤ S0 + R.slots → d + 8 ≤ R.frames → 64 * (d + 8) ≤ R.locals →
  W p l e R s m args below meth c H locs cells slots Q (F0 m (pc + 5) la (.long r.2.2.2.2.2.2.1 :: st)) → W p l e R s m args below meth c H locs cells slots Q (F0 m pc la st)
end XM1
end
section
section XM2
variable {p : Program} {l : Launch} {e : Env} {R : Room} {s : State} {m : MethodId} {args : Array Value} {below : List Frame} {meth : Method} {c : Code} {Q : State → Prop}
set_option maxHeartbeats 4000000 in
set_option maxRecDepth 100000 in
/-- a call of a method that returns -/
theorem xcall_sound {D : va_G} {K : xTy} {b scr : Nat} {sc : xSc} {C0 S0 mi d pc : Nat} {r : xRow} {st : List Value} {h h1 : xH} {q : List Value × List Value} {v : Option Value} {H : Heap} {locs : List Loc} {cells slots : Nat} {la : Array Slot}
    (cx : xcx D K b scr sc mi p s m args meth c) (hok : xok mi pc r = true) (hkd : xkd r = 2) (hce : r.2.2.1 < 214) (hq : xcall r st h.1 = some q) (hw : xwd D K b scr s C0 S0 h.1 h.2 H locs cells slots) (hsz : la.size = (xme mi).2.2.1)
    (hmono : xcn h ≤ xcn h1 ∧ xsn h ≤ xsn h1) (hc : xcn h1 ≤ C0 + R.cells) (hsl : xsn h1 ≤ S0 + R.slots) (hd : d + 1 ≤ R.frames) (hlo : 64 * (d + 1) ≤ R.locals)
    (hM : Met l (xme r.2.2.1).1 (xws r.2.2.1) (xRm d (xcn h1 - xcn h) (xsn h1 - xsn h)) (xPc D K b scr sc h q.1) (xQc D K b scr v h1) (xcn h1 - xcn h) (xsn h1 - xsn h) (fun q => b ≤ q))
    (k : ∀ (H' : Heap) (locs' : List Loc) (cells' slots' : Nat), xwd D K b scr s C0 S0 h1.1 h1.2 H' locs' cells' slots' → W p l e R s m args below meth c H' locs' cells' slots' Q (F0 m (pc + 3) la ((v.toList ++ q.2).map (xv b scr)))) :
    W p l e R s m args below meth c H locs cells slots Q (F0 m pc la (st.map (xv b scr))) := by
  obtain ⟨hx, hb, hml, hown, hts, hK, hX, hsb, hbs, hnm, hrt, hlk, hex⟩ := id cx
  obtain ⟨w1, w2, w3, w4, w5, hP, hS⟩ := id hw
  obtain ⟨f1, f2, f3, f4, f5⟩ := xmi_facts (mi := r.2.2.1) (by omega)
  have w3' : slots + S0 = xsn h := w3
  have w2' : cells + C0 = xcn h := w2
  obtain ⟨m1, m2⟩ := hmono
  have hne : ∀ {a : Nat} {e0 : xC}, h.1[a]? = some e0 → ¬ a = xscr := fun {a} {e0} ha h9 => by
    have := (List.getElem?_eq_some_iff.mp ha).1
    rw [h9] at this
    simp only [xscr] at this
    omega
  unfold xcall at hq
  split at hq
  rotate_left
  · cases hq
  rename_i hlen
  split at hq
  rotate_left
  · cases hq
  rename_i hcat
  split at hq
  rotate_left
  · cases hq
  rename_i hrecv
  split at hq
  rotate_left
  · cases hq
  rename_i hslo
  cases hq
  have hAl : (st.take r.2.2.2.1).reverse.length = r.2.2.2.1 := by simp [List.length_take]; omega
  generalize hAe : (st.take r.2.2.2.1).reverse = Args at hrecv hslo hM hAl
  have hst : st.map (xv b scr) = (Args.map (xv b scr)).reverse ++ (st.drop r.2.2.2.1).map (xv b scr) := by
    rw [← hAe, List.map_reverse, List.reverse_reverse, ← List.map_append, List.take_append_drop]
  have hcat2 : (((st.drop r.2.2.2.1).map (xv b scr)).map fun v => v.category).sum ≤ 8 := by
    rw [List.map_map]
    simpa [Function.comp_def, xv_cat] using hcat
  generalize hRe : st.drop r.2.2.2.1 = rest at hst hcat2 k
  have hPU : ∀ U : State, U.heap = H → s.WarmedH U.vm → xPc D K b scr sc h Args (Args.map (xv b scr)).toArray U := fun U hU hW => by
    have hsc : H[scr]? = s.heap[scr]? := hS.2.1 scr (by omega) (by show ¬ b ≤ scr; omega)
    exact ⟨rfl, by rw [hU]; exact w4, w5, by rw [hU]; exact hP, va_K.moved hW.alike hK, by rw [hU]; exact (hX.kept hsc).moved hW.alike, hsb, xex_move hex hU (fun q hq => hS.2.1 q (by omega) (by show ¬ b ≤ q; omega)) hW⟩
  have hf : cells + (xcn h1 - xcn h) ≤ R.cells ∧ slots + (xsn h1 - xsn h) ≤ R.slots := by omega
  have hroom : (xRm d (xcn h1 - xcn h) (xsn h1 - xsn h)).frames + 1 ≤ R.frames ∧ 8 + ((xme r.2.2.1).2.2.1 + 11) + (xRm d (xcn h1 - xcn h) (xsn h1 - xsn h)).locals ≤ R.locals := by
    refine ⟨hd, ?_⟩
    show 8 + ((xme r.2.2.1).2.2.1 + 11) + 64 * d ≤ R.locals
    omega
  have fin : ∀ a : Array Value, va_Run p l e R s m args below meth c H locs cells slots (xcn h1 - xcn h) (xsn h1 - xsn h) (F0 m pc la (st.map (xv b scr))) (rest.map (xv b scr)) (xQc D K b scr v h1 a) (fun q => b ≤ q) → W p l e R s m args below meth c H locs cells slots Q (F0 m pc la (st.map (xv b scr))) := by
    intro a hr
    refine x_call hr (fun v' st₀ t L hst0 hL hQ => ?_)
    obtain ⟨q1, q2, q3, q4, q5⟩ := hQ
    have hv : v' = v.map (xv b scr) := Outcome.returned.inj q1
    subst hv
    have kk := k t.heap (locs ++ L) (cells + (xcn h1 - xcn h)) (slots + (xsn h1 - xsn h)) ⟨w1, by show _ = xcn h1; omega, by show _ = xsn h1; omega, q2, q3, q4, by rw [w1, q2]; omega, fun z hz hn => by
      have hz2 : z < b := by
        have : ¬ b ≤ z := hn
        omega
      rw [q5 z hz2, hst0]
      exact hS.2.1 z hz hn, fun z hz => by
      rcases List.mem_append.mp hz with hz | hz
      · exact hS.2.2 z hz
      · exact hL z hz⟩
    have hl2 : (v.toList ++ rest).map (xv b scr) = (v.map (xv b scr)).toList ++ rest.map (xv b scr) := by cases v <;> simp
    rw [hl2] at kk
    exact kk
  have hfix : CallFix p m c (xby mi) (xme mi).2.2.1 s args xTb (xme mi).1.cls := ⟨hx, hb, hml, hown, hts⟩
  obtain ⟨i, len, r1, r2, r3, rv, rk, sw⟩ := r
  simp only [xok, Bool.and_eq_true, decide_eq_true_eq] at hok
  obtain ⟨hdec, hlen2, hok⟩ := hok
  dsimp only at hce hAl hM fin hf hroom f1 f2 f3 f4 f5 hrecv hslo hPU hdec
  have cb : ∀ (ix n : Nat), xhas r3 (.methodLink (xme mi).1.cls ix (xme r1).1) = true → xpar (xme r1).1 n = true → CallB R s args (xme mi).1.cls ix (xme r1).1 (xme r1).2.1 (xme r1).2.2.1 (xme r1).2.2.2.1 (xws r1) (xRm d (xcn h1 - xcn h) (xsn h1 - xsn h)) (xcn h1 - xcn h) (xsn h1 - xsn h) n := fun ix n hlk2 hpar => by
    simp only [xpar, decide_eq_true_eq] at hpar
    exact callB_of (ws' := xTb) n hts (xws_good hce) rfl rfl rfl (hts _ f1) (hts _ (xhas_in hlk2)) ⟨f2, f3, hpar⟩ hroom
  cases i with
  | invokevirtual ix =>
    simp only [xlen, Bool.or_eq_true, beq_iff_eq] at hlen2
    obtain rfl : len = 3 := by omega
    simp only [xokI, if_pos (show r1 < 1000 by omega), Bool.and_eq_true, decide_eq_true_eq] at hok
    obtain ⟨o1, o2, o3, o4, o5, hni⟩ := hok
    obtain ⟨g1, g2, g3, g4⟩ := xmi_inst (mi := r1) (by omega) o5
    unfold xrecv at hrecv
    rw [if_neg o5] at hrecv
    split at hrecv
    · rename_i a As
      split at hrecv
      · rename_i cj fs hA
        have hcj : cj = (xme r1).2.2.2.2.1 := of_decide_eq_true hrecv
        subst hcj
        have hfa : xv b scr (.ref a) = .ref (b + a) := by show Value.ref (if a = xscr then scr else b + a) = _; rw [if_neg (hne hA)]
        have hst2 : st.map (xv b scr) = (As.map (xv b scr)).reverse ++ Value.ref (b + a) :: rest.map (xv b scr) := by
          rw [hst, List.map_cons, hfa, List.reverse_cons, List.append_assoc]
          rfl
        have hrv := va_recv hK hP (xcl_get g3) (xw_at (K := K) (b := b) (scr := scr) hA)
        rw [← g2] at hrv
        have hPV : PreV s H (xme r1).1.cls (b + a) (xPc D K b scr sc h (.ref a :: As)) (As.map (xv b scr)) := ⟨xPc_blind, hrv, fun U hU hW => by
          have := hPU U hU hW
          rw [List.map_cons, hfa] at this
          exact this⟩
        have hn : (As.map (xv b scr)).length = r2 - 1 := by
          simp only [List.length_cons] at hAl
          simp only [List.length_map]
          omega
        unfold xlink at o2
        split at o2
        · exact fin _ (va_runV hfix hM ⟨cb ix (r2 - 1) o2 o4, hts _ g1, hts _ (g4 hni)⟩ hPV rfl hn (by rw [hsz]) hst2 (lv_room hcat2) hdec hf)
        · simp only [xpar, decide_eq_true_eq] at o4
          have hnl : va_Nw (.methodLinkNest (xme mi).1.cls ix (xme r1).1 "TermReader") s := by
            obtain ⟨s0, a0, e1, e2, e3, e4, e5⟩ := hex
            exact va_Nw.warmM e3 (va_Nw.of rfl (e4 _ (List.mem_of_getElem? (of_decide_eq_true o2))))
          exact fin _ (va_runVN hfix hM ⟨va_cnB (ws' := xTb) (r2 - 1) hts (xws_good hce) rfl rfl rfl hnl (hts _ f1) ⟨f2, f3, o4⟩ hroom, hts _ g1, hts _ (g4 hni)⟩ hPV rfl hn (by rw [hsz]) hst2 (lv_room hcat2) hdec hf)
      · cases hrecv
    · cases hrecv
  | invokespecial ix =>
    simp only [xlen, Bool.or_eq_true, beq_iff_eq] at hlen2
    obtain rfl : len = 3 := by omega
    simp only [xokI, if_pos (show r1 < 1000 by omega), Bool.and_eq_true, decide_eq_true_eq] at hok
    obtain ⟨o1, o2, o3, o4, o5, o6, o7⟩ := hok
    obtain ⟨g1, g2, g3, g4⟩ := xmi_inst (mi := r1) (by omega) o7
    unfold xrecv at hrecv
    rw [if_neg o7] at hrecv
    split at hrecv
    · rename_i a As
      split at hrecv
      · rename_i cj fs hA
        have hfa : xv b scr (.ref a) = .ref (b + a) := by show Value.ref (if a = xscr then scr else b + a) = _; rw [if_neg (hne hA)]
        have hst2 : st.map (xv b scr) = (As.map (xv b scr)).reverse ++ Value.ref (b + a) :: rest.map (xv b scr) := by
          rw [hst, List.map_cons, hfa, List.reverse_cons, List.append_assoc]
          rfl
        have hPS : PreS s H (xPc D K b scr sc h (.ref a :: As)) (.ref (b + a) :: As.map (xv b scr)) := ⟨xPc_blind, fun U hU hW => by
          have := hPU U hU hW
          rw [List.map_cons, hfa] at this
          exact this⟩
        have hn : (As.map (xv b scr)).length = r2 - 1 := by
          simp only [List.length_cons] at hAl
          simp only [List.length_map]
          omega
        have cb1 := cb ix (r2 - 1) o2 o4
        rw [o6] at cb1
        exact fin _ (va_runI hfix hM ⟨cb1, o5, hts _ g1⟩ hPS rfl hn (by rw [hsz]) hst2 (lv_room hcat2) hdec hf)
      · cases hrecv
    · cases hrecv
  | invokestatic ix =>
    simp only [xlen, Bool.or_eq_true, beq_iff_eq] at hlen2
    obtain rfl : len = 3 := by omega
    simp only [xokI, if_pos (show r1 < 1000 by omega), Bool.and_eq_true, decide_eq_true_eq] at hok
    obtain ⟨o1, o2, o4, o5⟩ := hok
    exact fin _ (va_runS hfix hM ⟨cb ix r2 o2 o4, hts _ (xmi_static (mi := r1) (by omega) o5)⟩ ⟨xPc_blind, hPU⟩ rfl (by simp only [List.length_map]; exact hAl) (by rw [hsz]) hst (lv_room hcat2) hdec hf)
  | _ => first
    | (simp [xkd] at hkd; done)
    | (simp only [xkd] at hkd; split at hkd <;> cases hkd)
end XM2
end
section
section XM3
variable {l : Launch}
theorem xcall_sl {r : xRow} {st : List Value} {A : List xC} {q : List Value × List Value} (hq : xcall r st A = some q) : (lg_sl q.1).length ≤ (xme r.2.2.1).2.2.1 := by
  unfold xcall at hq
  split at hq
  · split at hq
    · split at hq
      · split at hq
        · rename_i h
          cases hq
          exact h
        · cases hq
      · cases hq
    · cases hq
  · cases hq
theorem xhd_big : ∀ q ∈ xhd, 214 ≤ q.1 := by decide
theorem xhnd_none {mi pc ev : Nat} (h : mi < 214) : xhnd mi pc ev = none := by
  unfold xhnd
  rw [Option.map_eq_none_iff, List.find?_eq_none]
  intro q hq
  have h1 := xhd_big q hq
  have h2 : (q.1 == mi) = false := by
    rw [beq_eq_false_iff_ne]
    omega
  simp [h2]
/-- the pure machine's frame, wherever the method is called -/
def xGo (l : Launch) (sc : xSc) (d mi pc : Nat) (ls : xL) (st : List Value) (h : xH) (v : Option Value) (h' : xH) : Prop :=
  ∀ (p : Program) (e : Env) (R : Room) (s : State) (m : MethodId) (args : Array Value) (below : List Frame) (meth : Method) (c : Code) (D : va_G) (K : xTy) (b scr C0 S0 : Nat) (H : Heap) (locs : List Loc) (cells slots : Nat) (la : Array Slot),
    xcx D K b scr sc mi p s m args meth c → lv_has la (xme mi).2.2.1 (ls.map (xtv b scr)) → xwd D K b scr s C0 S0 h.1 h.2 H locs cells slots → xcn h' ≤ C0 + R.cells → xsn h' ≤ S0 + R.slots → d ≤ R.frames → 64 * d ≤ R.locals →
    W p l e R s m args below meth c H locs cells slots (MQ below (xQc D K b scr v h') args s R.cells R.slots (fun q => b ≤ q)) (F0 m pc la (st.map (xv b scr)))
theorem xmet_of {sc : xSc} {d mi : Nat} {As : List Value} {h h' : xH} {v : Option Value} (hmi : mi < 214) (hsl : (lg_sl As).length ≤ (xme mi).2.2.1) (hm : xcn h ≤ xcn h' ∧ xsn h ≤ xsn h') (G : xGo l sc d mi 0 (lv_args 0 As) [] h v h') (D : va_G) (K : xTy) (b scr : Nat) :
    Met l (xme mi).1 (xws mi) (xRm d (xcn h' - xcn h) (xsn h' - xsn h)) (xPc D K b scr sc h As) (xQc D K b scr v h') (xcn h' - xcn h) (xsn h' - xsn h) (fun q => b ≤ q) := by
  obtain ⟨f1, f2, f3, f4, f5⟩ := xmi_facts (mi := mi) (by omega)
  refine Met.ofW (cc := (xme mi).2.1) (maxL := (xme mi).2.2.1) (ret := (xme mi).2.2.2.1) f4 rfl ?_
  intro p e s m args below meth c s₁ B hml hv
  obtain ⟨hv1, hv2, hv3, hv4, hv5, hv6, hv7, hv8⟩ := hv
  have hts := atoms_spec (ws := xws mi) B.pre
  have cx : xcx D K b scr sc mi p s m args meth c := ⟨B.exec, B.bytes, hml, findClass_of_methodNamed B.named, fun w hw => hts w (List.mem_cons_of_mem _ hw), hv5, hv6, hv7, by rw [hv2]; omega, (name_of_methodNamed B.named B.method).1, B.returns, B.notSynchronized, hv8⟩
  subst hv1
  have hl := lv_entry (As.map (xv b scr)) (n := (xme mi).2.2.1) (by rw [xsl_map]; exact hsl)
  rw [lg_entry_eq]
  rw [xargs_map] at hl
  exact G p e _ s m _ below meth c D K b scr (xcn h) (xsn h) s.heap [] 0 0 _ cx hl ⟨hv2, Nat.zero_add _, Nat.zero_add _, hv2, hv3, hv4, va_S.rf⟩ (by show xcn h' ≤ xcn h + (xcn h' - xcn h); omega) (by show xsn h' ≤ xsn h + (xsn h' - xsn h); omega) (Nat.le_refl d) (Nat.le_refl (64 * d))
set_option maxHeartbeats 4000000 in
/-- SOUND: what the pure machine answers, the machine answers -/
theorem xr_sound (hof : xOf l) (sc : xSc) : ∀ (n d mi pc : Nat) (ls : xL) (st : List Value) (h : xH) (v : Option Value) (h' : xH), mi < 214 → xr sc n d mi pc ls st h = some (.inl v, h') → xGo l sc d mi pc ls st h v h'
  | 0, _, _, _, _, _, _, _, _, _, hr => by cases hr
  | n + 1, d, mi, pc, ls, st, h, v, h', hmi, hr => by
    intro p e R s m args below meth c D K b scr C0 S0 H locs cells slots la cx hl hw hc hsl hd hlo
    unfold xr at hr
    split at hr
    · cases hr
    · rename_i r hrow
      have hok : xok mi pc r = true := xall_row (xall_of (by omega)) hrow
      split at hr
      · rename_i hk
        split at hr
        · cases hr
        · rename_i q hq
          have hm := xr_mono sc n _ _ _ _ _ _ _ _ hr
          refine xs_sound cx hok hq hl hw ⟨Nat.le_trans hm.1 hc, Nat.le_trans hm.2 hsl⟩ ⟨hd, hlo⟩ (fun la' H' locs' cells' slots' hl' hw' => ?_)
          exact xr_sound hof sc n d mi _ _ _ _ _ _ hmi hr p e R s m args below meth c D K b scr C0 S0 H' locs' cells' slots' la' cx hl' hw' hc hsl hd hlo
      · split at hr
        · cases hr
        · rename_i v1 hv
          cases hr
          exact xret_sound cx hok hv hw hc hsl
      · rename_i hk
        split at hr
        · cases hr
        · rename_i d'
          split at hr
          · cases hr
          · rename_i q hq
            split at hr
            · cases hr
            · rename_i v1 h1 hcal
              have hce : r.2.2.1 < 214 := by
                have h9 := hok
                obtain ⟨i, len, r1, r2, r3, rv, rk, sw⟩ := r
                simp only [xok, Bool.and_eq_true] at h9
                have h9 := h9.2.2
                cases i with
                | invokevirtual ix =>
                  have h1000 : r1 < 1000 := by
                    simp only [xkd] at hk
                    split at hk
                    · assumption
                    · cases hk
                  simp only [xokI, xlim, if_pos hmi, if_pos h1000, Bool.and_eq_true, decide_eq_true_eq] at h9
                  exact h9.1
                | invokespecial ix =>
                  have h1000 : r1 < 1000 := by
                    simp only [xkd] at hk
                    split at hk
                    · assumption
                    · cases hk
                  simp only [xokI, xlim, if_pos hmi, if_pos h1000, Bool.and_eq_true, decide_eq_true_eq] at h9
                  exact h9.1
                | invokestatic ix =>
                  have h1000 : r1 < 1000 := by
                    simp only [xkd] at hk
                    split at hk
                    · assumption
                    · cases hk
                  simp only [xokI, xlim, if_pos hmi, if_pos h1000, Bool.and_eq_true, decide_eq_true_eq] at h9
                  exact h9.1
                | _ => first
                  | (simp [xkd] at hk; done)
                  | (simp only [xkd] at hk; split at hk <;> cases hk)
              have a1 := xr_mono sc n _ _ _ _ _ _ _ _ hcal
              have a2 := xr_mono sc n _ _ _ _ _ _ _ _ hr
              have G := xr_sound hof sc n d' _ _ _ _ _ _ _ hce hcal
              refine xcall_sound cx hok hk hce hq hw hl.1 a1 (Nat.le_trans a2.1 hc) (Nat.le_trans a2.2 hsl) hd hlo (xmet_of hce (xcall_sl hq) a1 G D K b scr) (fun H' locs' cells' slots' hw' => ?_)
              exact xr_sound hof sc n (d' + 1) mi _ _ _ _ _ _ hmi hr p e R s m args below meth c D K b scr C0 S0 H' locs' cells' slots' la cx hl hw' hc hsl hd hlo
            · rw [xhnd_none hmi] at hr
              cases hr
      · rename_i hk
        split at hr
        · rename_i d'
          have hm := xr_mono sc n _ _ _ _ _ _ _ _ hr
          have kk := xr_sound hof sc n (d' + 8) mi _ _ _ _ _ _ hmi hr p e R s m args below meth c D K b scr C0 S0 H locs cells slots la cx hl hw hc hsl hd hlo
          exact hof sc p e R s m args below meth c _ D K b scr C0 S0 mi d' pc r _ h.1 h.2 H locs cells slots la hmi cx hrow hk hl.1 hw (Nat.le_trans hm.1 hc) (Nat.le_trans hm.2 hsl) hd hlo kk
        · cases hr
      · split at hr
        · cases hr
        · cases hr
end XM3
end
section
-- what the pure machine comes to: rules for walks
def xstep (sc : xSc) (rec1 : Nat → Nat → Nat → xL → List Value → xH → Option (xO × xH)) (d mi pc : Nat) (ls : xL) (st : List Value) (h : xH) : Option (xO × xH) := match xrow mi pc with
  | none => none
  | some r => match xkd r with
    | 0 => match xs sc (xme mi).2.2.1 d h.2 r pc ls st h.1 with
      | none => none
      | some q => rec1 d mi q.1 q.2.1 q.2.2.1 (q.2.2.2, h.2)
    | 1 => match xret (xme mi).2.2.2.1 r.1 st with
      | none => none
      | some v => some (.inl v, h)
    | 2 => match d with
      | 0 => none
      | d' + 1 => match xcall r st h.1 with
        | none => none
        | some q => match rec1 d' r.2.2.1 0 (lv_args 0 q.1) [] h with
          | none => none
          | some (.inl v, h') => rec1 (d' + 1) mi (pc + 3) ls (v.toList ++ q.2) h'
          | some (.inr e, h') => match xhnd mi pc e with
            | none => none
            | some t => rec1 (d' + 1) mi t.1 (ls.filter fun z => !(z.1 == t.2)) [] h'
    | 4 => match d with
      | d' + 8 => rec1 (d' + 8) mi (pc + 5) ls (.long r.2.2.2.2.2.2.1 :: st) h
      | _ => none
    | _ => match d with
      | _ + 8 => some (.inr (r.2.2.1 - 1000), (h.1, h.2 + 1))
      | _ => none
theorem xr_eq (sc : xSc) (n d mi pc : Nat) (ls : xL) (st : List Value) (h : xH) : xr sc (n + 1) d mi pc ls st h = xstep sc (xr sc n) d mi pc ls st h := by
  conv => lhs; unfold xr
  rfl
theorem xstep_mono {sc : xSc} {f1 f2 : Nat → Nat → Nat → xL → List Value → xH → Option (xO × xH)} (hm : ∀ d mi pc ls st h r, f1 d mi pc ls st h = some r → f2 d mi pc ls st h = some r) {d mi pc : Nat} {ls : xL} {st : List Value} {h : xH} {r : xO × xH} (hr : xstep sc f1 d mi pc ls st h = some r) : xstep sc f2 d mi pc ls st h = some r := by
  unfold xstep at hr ⊢
  cases hrow : xrow mi pc with
  | none =>
    rw [hrow] at hr
    cases hr
  | some r0 =>
    rw [hrow] at hr
    dsimp only at hr ⊢
    generalize xkd r0 = kk at hr ⊢
    match kk, hr with
    | 0, hr =>
      cases hq : xs sc (xme mi).2.2.1 d h.2 r0 pc ls st h.1 with
      | none =>
        rw [hq] at hr
        cases hr
      | some q =>
        rw [hq] at hr
        exact hm _ _ _ _ _ _ _ hr
    | 1, hr => exact hr
    | 2, hr =>
      match d, hr with
      | 0, hr => exact hr
      | d' + 1, hr =>
        dsimp only at hr ⊢
        cases hq : xcall r0 st h.1 with
        | none =>
          rw [hq] at hr
          cases hr
        | some q =>
          rw [hq] at hr
          dsimp only at hr ⊢
          cases hc : f1 d' r0.2.2.1 0 (lv_args 0 q.1) [] h with
          | none =>
            rw [hc] at hr
            cases hr
          | some z =>
            rw [hc] at hr
            rw [hm _ _ _ _ _ _ _ hc]
            obtain ⟨o, h1⟩ := z
            cases o with
            | inl v => exact hm _ _ _ _ _ _ _ hr
            | inr ev =>
              dsimp only at hr ⊢
              cases ht : xhnd mi pc ev with
              | none =>
                rw [ht] at hr
                cases hr
              | some t =>
                rw [ht] at hr
                exact hm _ _ _ _ _ _ _ hr
    | 3, hr => exact hr
    | 4, hr =>
      match d, hr with
      | d' + 8, hr => exact hm _ _ _ _ _ _ _ hr
      | 0, hr => cases hr
      | 1, hr => cases hr
      | 2, hr => cases hr
      | 3, hr => cases hr
      | 4, hr => cases hr
      | 5, hr => cases hr
      | 6, hr => cases hr
      | 7, hr => cases hr
    | k + 5, hr => exact hr
theorem xr_more (sc : xSc) : ∀ (n d mi pc : Nat) (ls : xL) (st : List Value) (h : xH) (r : xO × xH), xr sc n d mi pc ls st h = some r → xr sc (n + 1) d mi pc ls st h = some r
  | 0, _, _, _, _, _, _, _, hr => by cases hr
  | n + 1, d, mi, pc, ls, st, h, r, hr => by
    rw [xr_eq] at hr ⊢
    exact xstep_mono (xr_more sc n) hr
theorem xr_le {sc : xSc} {n k d mi pc : Nat} {ls : xL} {st : List Value} {h : xH} {r : xO × xH} (hr : xr sc n d mi pc ls st h = some r) (hk : n ≤ k) : xr sc k d mi pc ls st h = some r := by
  induction hk with
  | refl => exact hr
  | step _ ih => exact xr_more _ _ _ _ _ _ _ _ _ ih
def xP (sc : xSc) (d mi pc : Nat) (ls : xL) (st : List Value) (h : xH) (P : xO → xH → Prop) : Prop := ∃ (n : Nat) (o : xO) (h' : xH), xr sc n d mi pc ls st h = some (o, h') ∧ P o h'
/-- a method on its arguments -/
def xM1 (sc : xSc) (d mi : Nat) (As : List Value) (h : xH) (P : xO → xH → Prop) : Prop := xP sc d mi 0 (lv_args 0 As) [] h P
section XP
variable {sc : xSc} {d mi pc : Nat} {ls : xL} {st : List Value} {A : List xC} {g : Nat} {P : xO → xH → Prop}
theorem xP_mono {h : xH} {P' : xO → xH → Prop} (k : xP sc d mi pc ls st h P) (hi : ∀ o h', P o h' → P' o h') : xP sc d mi pc ls st h P' := by
  obtain ⟨n, o, h', e, hp⟩ := k
  exact ⟨n, o, h', e, hi _ _ hp⟩
theorem xP_s {r : xRow} {pc' : Nat} {ls' : xL} {st' : List Value} {A' : List xC} (hrow : xrow mi pc = some r) (hk : xkd r = 0) (hs : xs sc (xme mi).2.2.1 d g r pc ls st A = some (pc', ls', st', A')) (k : xP sc d mi pc' ls' st' (A', g) P) : xP sc d mi pc ls st (A, g) P := by
  obtain ⟨n, o, h', e, hp⟩ := k
  refine ⟨n + 1, o, h', ?_, hp⟩
  rw [xr_eq]
  unfold xstep
  simp only [hrow, hk, hs]
  exact e
theorem xP_ret {r : xRow} {v : Option Value} {h : xH} (hrow : xrow mi pc = some r) (hk : xkd r = 1) (hv : xret (xme mi).2.2.2.1 r.1 st = some v) (k : P (.inl v) h) : xP sc d mi pc ls st h P := by
  refine ⟨1, .inl v, h, ?_, k⟩
  rw [xr_eq]
  unfold xstep
  simp only [hrow, hk, hv]
theorem xP_call {r : xRow} {q : List Value × List Value} {h : xH} (hrow : xrow mi pc = some r) (hk : xkd r = 2) (hq : xcall r st h.1 = some q)
    (k : xM1 sc d r.2.2.1 q.1 h (fun o h1 => match o with
      | .inl v => xP sc (d + 1) mi (pc + 3) ls (v.toList ++ q.2) h1 P
      | .inr ev => ∃ t, xhnd mi pc ev = some t ∧ xP sc (d + 1) mi t.1 (ls.filter fun z => !(z.1 == t.2)) [] h1 P)) : xP sc (d + 1) mi pc ls st h P := by
  obtain ⟨n, o, h1, e, hp⟩ := k
  cases o with
  | inl v =>
    obtain ⟨n2, o2, h2, e2, hp2⟩ := hp
    refine ⟨(n + n2) + 1, o2, h2, ?_, hp2⟩
    rw [xr_eq]
    unfold xstep
    simp only [hrow, hk, hq, xr_le e (Nat.le_add_right n n2)]
    exact xr_le e2 (Nat.le_add_left n2 n)
  | inr ev =>
    obtain ⟨t, ht, n2, o2, h2, e2, hp2⟩ := hp
    refine ⟨(n + n2) + 1, o2, h2, ?_, hp2⟩
    rw [xr_eq]
    unfold xstep
    simp only [hrow, hk, hq, xr_le e (Nat.le_add_right n n2), ht]
    exact xr_le e2 (Nat.le_add_left n2 n)
/-- getfield, on a heap of which a cell is known -/
theorem xP_get {ix len ci k r3 : Nat} {rv : Int32} {rk : Int64} {sw : List (Int32 × Nat)} {a : Nat} {fs rest : List _} {v : Value} (hrow : xrow mi pc = some (.getfield ix, len, ci, k, r3, rv, rk, sw)) (hA : A[a]? = some (.inr (ci, fs))) (hv : fs[k]? = some v)
    (kk : xP sc d mi (pc + 3) ls (v :: rest) (A, g) P) : xP sc d mi pc ls (.ref a :: rest) (A, g) P := by
  refine xP_s hrow rfl ?_ kk
  simp [xs, xr1, xob, hA, hv]
theorem xP_put {ix len ci k r3 : Nat} {rv : Int32} {rk : Int64} {sw : List (Int32 × Nat)} {a : Nat} {fs rest : List _} {v : Value} (hrow : xrow mi pc = some (.putfield ix, len, ci, k, r3, rv, rk, sw)) (hA : A[a]? = some (.inr (ci, fs))) (hl : k < fs.length) (hf : xfit ((xtys.getD ci []).getD k .int) v = true)
    (kk : xP sc d mi (pc + 3) ls rest (A.set a (.inr (ci, fs.set k v)), g) P) : xP sc d mi pc ls (v :: .ref a :: rest) (A, g) P := by
  refine xP_s hrow rfl ?_ kk
  simp only [xs, xob, hA, if_pos hl, hf, if_true]
theorem xP_alen {len r1 r2 r3 : Nat} {rv : Int32} {rk : Int64} {sw : List (Int32 × Nat)} {a n : Nat} {ty : FieldType} {f : _} {rest : List Value} (hrow : xrow mi pc = some (.arraylength, len, r1, r2, r3, rv, rk, sw)) (hA : A[a]? = some (.inl (ty, n, f))) (hn : ¬ a = xscr)
    (kk : xP sc d mi (pc + 1) ls (.int (nI n) :: rest) (A, g) P) : xP sc d mi pc ls (.ref a :: rest) (A, g) P := by
  refine xP_s hrow rfl ?_ kk
  simp only [xs, xr1, if_neg hn, hA]
  rfl
theorem xP_ial {len r1 r2 r3 : Nat} {rv : Int32} {rk : Int64} {sw : List (Int32 × Nat)} {a n : Nat} {f : Nat → Int32} {i : Int32} {rest : List Value} (hrow : xrow mi pc = some (.iaload, len, r1, r2, r3, rv, rk, sw)) (hA : A[a]? = some (.inl (.int, n, .inl f))) (hn : ¬ a = xscr) (hi : xib i n = true)
    (kk : xP sc d mi (pc + 1) ls (.int (f i.toNatClampNeg) :: rest) (A, g) P) : xP sc d mi pc ls (.int i :: .ref a :: rest) (A, g) P := by
  refine xP_s hrow rfl ?_ kk
  simp only [xs, xri, if_neg hn, xarI, hA, hi, if_true]
theorem xP_cal {len r1 r2 r3 : Nat} {rv : Int32} {rk : Int64} {sw : List (Int32 × Nat)} {a n : Nat} {f : Nat → Int32} {i : Int32} {rest : List Value} (hrow : xrow mi pc = some (.caload, len, r1, r2, r3, rv, rk, sw)) (hA : A[a]? = some (.inl (.char, n, .inl f))) (hi : xib i n = true)
    (kk : xP sc d mi (pc + 1) ls (.int (f i.toNatClampNeg) :: rest) (A, g) P) : xP sc d mi pc ls (.int i :: .ref a :: rest) (A, g) P := by
  refine xP_s hrow rfl ?_ kk
  simp only [xs, xri, xarI, hA, hi, if_true]
theorem xP_lal {len r1 r2 r3 : Nat} {rv : Int32} {rk : Int64} {sw : List (Int32 × Nat)} {a n : Nat} {f : Nat → Int64} {i : Int32} {rest : List Value} (hrow : xrow mi pc = some (.laload, len, r1, r2, r3, rv, rk, sw)) (hA : A[a]? = some (.inl (.long, n, .inr (.inl f)))) (hi : xib i n = true)
    (kk : xP sc d mi (pc + 1) ls (.long (f i.toNatClampNeg) :: rest) (A, g) P) : xP sc d mi pc ls (.int i :: .ref a :: rest) (A, g) P := by
  refine xP_s hrow rfl ?_ kk
  simp only [xs, xri, xarL, hA, hi, if_true]
theorem xP_ias {len r1 r2 r3 : Nat} {rv : Int32} {rk : Int64} {sw : List (Int32 × Nat)} {a n : Nat} {f : Nat → Int32} {i x : Int32} {rest : List Value} (hrow : xrow mi pc = some (.iastore, len, r1, r2, r3, rv, rk, sw)) (hA : A[a]? = some (.inl (.int, n, .inl f))) (hi : xib i n = true)
    (kk : xP sc d mi (pc + 1) ls rest (A.set a (.inl (.int, n, .inl (upd f i.toNatClampNeg x))), g) P) : xP sc d mi pc ls (.int x :: .int i :: .ref a :: rest) (A, g) P := by
  refine xP_s hrow rfl ?_ kk
  simp only [xs, xi1, xri, xarI, hA, hi, if_true]
theorem xP_cas {len r1 r2 r3 : Nat} {rv : Int32} {rk : Int64} {sw : List (Int32 × Nat)} {a n : Nat} {f : Nat → Int32} {i x : Int32} {rest : List Value} (hrow : xrow mi pc = some (.castore, len, r1, r2, r3, rv, rk, sw)) (hA : A[a]? = some (.inl (.char, n, .inl f))) (hi : xib i n = true)
    (kk : xP sc d mi (pc + 1) ls rest (A.set a (.inl (.char, n, .inl (upd f i.toNatClampNeg (vp_nar .char x)))), g) P) : xP sc d mi pc ls (.int x :: .int i :: .ref a :: rest) (A, g) P := by
  refine xP_s hrow rfl ?_ kk
  simp only [xs, xi1, xri, xarI, hA, hi, if_true]
theorem xP_las {len r1 r2 r3 : Nat} {rv : Int32} {rk : Int64} {sw : List (Int32 × Nat)} {a n : Nat} {f : Nat → Int64} {i : Int32} {x : Int64} {rest : List Value} (hrow : xrow mi pc = some (.lastore, len, r1, r2, r3, rv, rk, sw)) (hA : A[a]? = some (.inl (.long, n, .inr (.inl f)))) (hi : xib i n = true)
    (kk : xP sc d mi (pc + 1) ls rest (A.set a (.inl (.long, n, .inr (.inl (vp_updL f i.toNatClampNeg x)))), g) P) : xP sc d mi pc ls (.long x :: .int i :: .ref a :: rest) (A, g) P := by
  refine xP_s hrow rfl ?_ kk
  simp only [xs, xl1, xri, xarL, hA, hi, if_true]
/-- a branch -/
theorem xP_if {c : Bool} {t f : Nat} {h : xH} (kt : c = true → xP sc d mi t ls st h P) (kf : c = false → xP sc d mi f ls st h P) : xP sc d mi (if c = true then t else f) ls st h P := by
  cases c with
  | true => exact kt rfl
  | false => exact kf rfl
/-- locals that are no longer read may go -/
theorem xib_nI {j n : Nat} (h : j < n) (hn : n < 2 ^ 31) : xib (nI j) n = true := by
  simp only [xib, Bool.and_eq_true, decide_eq_true_eq]
  rw [nI_toInt (by omega)]
  omega
end XP
end
section
-- CharRow: rows of characters as lists of numbers
/-- the cells that may have changed -/
def xSame (A A' : List xC) (l : List Nat) : Prop := A'.length = A.length ∧ ∀ k, k ∉ l → A'[k]? = A[k]?
theorem xSame.refl (A : List xC) (l : List Nat) : xSame A A l := ⟨rfl, fun _ _ => rfl⟩
theorem xSame.trans {A B C : List xC} {l m : List Nat} (h1 : xSame A B l) (h2 : xSame B C m) : xSame A C (l ++ m) :=
  ⟨h2.1.trans h1.1, fun k hk => (h2.2 k fun h => hk (List.mem_append_right _ h)).trans (h1.2 k fun h => hk (List.mem_append_left _ h))⟩
theorem xSame.wider {A B : List xC} {l m : List Nat} (h : xSame A B l) (hs : ∀ k ∈ l, k ∈ m) : xSame A B m := ⟨h.1, fun k hk => h.2 k fun q => hk (hs k q)⟩
theorem xSame.set {A : List xC} (k : Nat) (e : xC) : xSame A (A.set k e) [k] := ⟨by simp, fun j hj => by
  have : ¬ k = j := fun q => hj (by simp [q])
  simp [List.getElem?_set, this]⟩
theorem xset_ne {A : List xC} {k j : Nat} {e : xC} (h : k ≠ j) : (A.set k e)[j]? = A[j]? := by simp [List.getElem?_set, h]
theorem xset_eq {A : List xC} {k : Nat} {e e0 : xC} (h : A[k]? = some e0) : (A.set k e)[k]? = some e := by
  have := (List.getElem?_eq_some_iff.mp h).1
  simp [List.getElem?_set, this]
/-- comparisons, over the integers -/
theorem xc_i (k : ClassFile.Cond) (x y : Int32) : xcmp k x y = (match k with
  | .eq => decide (x.toInt = y.toInt) | .ne => decide (¬ x.toInt = y.toInt) | .lt => decide (x.toInt < y.toInt) | .ge => decide (y.toInt ≤ x.toInt) | .gt => decide (y.toInt < x.toInt) | .le => decide (x.toInt ≤ y.toInt)) := by
  cases k <;> simp only [xcmp, Int32.lt_iff_toInt_lt, Int32.le_iff_toInt_le, Int32.toInt_inj]
theorem xc_t {k : ClassFile.Cond} {x y : Int32} (h : xcmp k x y = true) : (match k with
  | .eq => x.toInt = y.toInt | .ne => ¬ x.toInt = y.toInt | .lt => x.toInt < y.toInt | .ge => y.toInt ≤ x.toInt | .gt => y.toInt < x.toInt | .le => x.toInt ≤ y.toInt) := by
  rw [xc_i] at h
  cases k <;> simpa using h
theorem xc_f {k : ClassFile.Cond} {x y : Int32} (h : xcmp k x y = false) : (match k with
  | .eq => ¬ x.toInt = y.toInt | .ne => x.toInt = y.toInt | .lt => y.toInt ≤ x.toInt | .ge => x.toInt < y.toInt | .gt => x.toInt ≤ y.toInt | .le => y.toInt < x.toInt) := by
  rw [xc_i] at h
  cases k <;> simpa using h
theorem x_cl (i : Int32) : i.toNatClampNeg = i.toInt.toNat := rfl
theorem xib_of {i : Int32} {n : Nat} (h0 : 0 ≤ i.toInt) (h1 : i.toInt < n) : xib i n = true := by simp [xib, h0, h1]
/-- a row of characters: its object at a, its row at a + 1, holding t -/
def xRw (A : List xC) (a cap : Nat) (t : List Nat) : Prop := ∃ f : Nat → Int32, A[a]? = some (.inr (1, [.ref (a + 1), .int (nI t.length)])) ∧ A[a + 1]? = some (.inl (.char, cap, .inl f)) ∧ t.length ≤ cap ∧ ∀ (i c : Nat), t[i]? = some c → c < 128 ∧ f i = nI c
theorem xRw.same {A A' : List xC} {a cap : Nat} {t : List Nat} {l : List Nat} (h : xRw A a cap t) (hs : xSame A A' l) (h1 : a ∉ l) (h2 : a + 1 ∉ l) : xRw A' a cap t := by
  obtain ⟨f, q1, q2, q3, q4⟩ := h
  exact ⟨f, by rw [hs.2 _ h1]; exact q1, by rw [hs.2 _ h2]; exact q2, q3, q4⟩
/-- what a row answers at a place -/
def cAt (t : List Nat) (i : Int32) : Int32 := if 0 ≤ i.toInt then (match t[i.toInt.toNat]? with
  | some c => nI c
  | none => -1) else -1
theorem cAt_neg {t : List Nat} {i : Int32} (h : i.toInt < 0) : cAt t i = -1 := if_neg (by omega)
theorem cAt_out {t : List Nat} {i : Int32} (h : (t.length : Int) ≤ i.toInt) : cAt t i = -1 := by
  unfold cAt
  rw [if_pos (by omega), List.getElem?_eq_none (by omega)]
theorem cAt_in {t : List Nat} {i : Int32} {c : Nat} (h0 : 0 ≤ i.toInt) (h : t[i.toInt.toNat]? = some c) : cAt t i = nI c := by
  unfold cAt
  rw [if_pos h0, h]
set_option maxRecDepth 100000 in
theorem p_length {sc : xSc} {d g a cap : Nat} {A : List xC} {t : List Nat} {P : xO → xH → Prop} (hr : xRw A a cap t) (k : P (.inl (some (.int (nI t.length)))) (A, g)) : xM1 sc d 12 [.ref a] (A, g) P := by
  obtain ⟨f, h1, h2, h3, h4⟩ := hr
  unfold xM1
  repeat' first
    | refine xP_s rfl rfl rfl ?_
    | refine xP_get rfl h1 rfl ?_
    | refine xP_ret rfl rfl rfl ?_
  exact k
set_option maxRecDepth 100000 in
theorem p_at {sc : xSc} {d g a cap : Nat} {A : List xC} {t : List Nat} {i : Int32} {P : xO → xH → Prop} (hr : xRw A a cap t) (hcap : cap < 2 ^ 31) (ha : ¬ a + 1 = xscr) (k : P (.inl (some (.int (cAt t i)))) (A, g)) : xM1 sc d 13 [.ref a, .int i] (A, g) P := by
  obtain ⟨f, h1, h2, h3, h4⟩ := hr
  have hNi : (nI t.length).toInt = (t.length : Int) := nI_toInt (by omega)
  have hCi : (nI cap).toInt = (cap : Int) := nI_toInt hcap
  have hz : (0 : Int32).toInt = 0 := rfl
  unfold xM1
  repeat' first
    | refine xP_s rfl rfl rfl ?_
    | refine xP_get rfl h1 rfl ?_
    | refine xP_alen rfl h2 ha ?_
    | refine xP_if (fun hc => ?_) (fun hc => ?_)
    | refine xP_ret rfl rfl rfl ?_
  · have := xc_t hc
    dsimp only at this
    rw [cAt_neg (by omega)] at k
    exact k
  · have := xc_t hc
    dsimp only at this
    rw [cAt_out (by omega)] at k
    exact k
  · have := xc_t hc
    dsimp only at this
    rw [cAt_out (by omega)] at k
    exact k
  · rename_i c1 c2
    have q1 := xc_f c1
    have q2 := xc_f c2
    have q3 := xc_f hc
    dsimp only at q1 q2 q3
    refine xP_cal rfl h2 (xib_of (by omega) (by omega)) ?_
    obtain ⟨c, hcc⟩ : ∃ c, t[i.toInt.toNat]? = some c := ⟨t[i.toInt.toNat]'(by omega), List.getElem?_eq_getElem (by omega)⟩
    have hv : f i.toNatClampNeg = cAt t i := by rw [x_cl, (h4 _ c hcc).2, cAt_in (by omega) hcc]
    rw [hv]
    repeat' first
      | refine xP_s rfl rfl rfl ?_
      | refine xP_ret rfl rfl rfl ?_
    exact k
set_option maxRecDepth 100000 in
/-- add: one more, if there is room -/
theorem p_add {sc : xSc} {d g a cap c : Nat} {A : List xC} {t : List Nat} {P : xO → xH → Prop} (hr : xRw A a cap t) (hcap : cap < 2 ^ 31) (ha : ¬ a + 1 = xscr) (hch0 : c < 128) (hroom : t.length < cap) (k : ∀ A', xRw A' a cap (t ++ [c]) → xSame A A' [a, a + 1] → P (.inl none) (A', g)) : xM1 sc d 14 [.ref a, .int (nI c)] (A, g) P := by
  obtain ⟨f, h1, h2, h3, h4⟩ := hr
  have hNi : (nI t.length).toInt = (t.length : Int) := nI_toInt (by omega)
  have hCi : (nI cap).toInt = (cap : Int) := nI_toInt hcap
  have hz : (0 : Int32).toInt = 0 := rfl
  unfold xM1
  repeat' first
    | refine xP_s rfl rfl rfl ?_
    | refine xP_get rfl h1 rfl ?_
    | refine xP_alen rfl h2 ha ?_
    | refine xP_if (fun hc => ?_) (fun hc => ?_)
    | refine xP_ret rfl rfl rfl ?_
  · have := xc_t hc
    dsimp only at this
    omega
  · have := xc_t hc
    dsimp only at this
    omega
  · refine xP_cas rfl h2 (xib_of (by omega) (by omega)) ?_
    have h1' : (A.set (a + 1) (.inl (.char, cap, .inl (upd f (nI t.length).toNatClampNeg (vp_nar .char ((nI c).toUInt32 % 65536).toInt32)))))[a]? = some (.inr (1, [.ref (a + 1), .int (nI t.length)])) := by rw [xset_ne (by omega)]; exact h1
    generalize hB : A.set (a + 1) (.inl (.char, cap, .inl (upd f (nI t.length).toNatClampNeg (vp_nar .char ((nI c).toUInt32 % 65536).toInt32)))) = B at h1' ⊢
    repeat' first
      | refine xP_s rfl rfl rfl ?_
      | refine xP_get rfl h1' rfl ?_
      | refine xP_put rfl h1' (Nat.le_of_ble_eq_true rfl) rfl ?_
      | refine xP_ret rfl rfl rfl ?_
    have hch : vp_nar .char ((nI c).toUInt32 % 65536).toInt32 = nI c := by rw [pk_vc, pk_char, pk_tn (by omega), Nat.mod_eq_of_lt (by omega)]
    refine k _ ⟨upd f t.length (nI c), ?_, ?_, by simp; omega, fun i x hx => ?_⟩ ?_
    · rw [xset_eq h1', nI_1, List.length_append]
      rfl
    · rw [xset_ne (by omega), ← hB, xset_eq h2, nI_clamp (by omega), hch]
    · by_cases hi : i = t.length
      · subst hi
        simp at hx
        subst hx
        exact ⟨hch0, pk_us⟩
      · rw [pk_un hi]
        have : t[i]? = some x := by
          rw [List.getElem?_append] at hx
          split at hx
          · exact hx
          · exfalso
            have := (List.getElem?_eq_some_iff.mp hx).1
            simp at this
            omega
        exact h4 i x this
    · rw [← hB]
      exact ((xSame.set _ _).trans (xSame.set _ _)).wider (by simp)
set_option maxRecDepth 100000 in
/-- cut: fewer, if that is fewer -/
theorem p_cut {sc : xSc} {d g a cap : Nat} {A : List xC} {t : List Nat} {i : Int32} {P : xO → xH → Prop} (hr : xRw A a cap t) (hcap : cap < 2 ^ 31) (k : ∀ A', xRw A' a cap (if 0 ≤ i.toInt ∧ i.toInt < t.length then t.take i.toInt.toNat else t) → xSame A A' [a] → P (.inl none) (A', g)) : xM1 sc d 15 [.ref a, .int i] (A, g) P := by
  obtain ⟨f, h1, h2, h3, h4⟩ := id hr
  have hNi : (nI t.length).toInt = (t.length : Int) := nI_toInt (by omega)
  have hz : (0 : Int32).toInt = 0 := rfl
  unfold xM1
  repeat' first
    | refine xP_s rfl rfl rfl ?_
    | refine xP_get rfl h1 rfl ?_
    | refine xP_put rfl h1 (Nat.le_of_ble_eq_true rfl) rfl ?_
    | refine xP_if (fun hc => ?_) (fun hc => ?_)
    | refine xP_ret rfl rfl rfl ?_
  · have := xc_t hc
    dsimp only at this
    refine k A ?_ (xSame.refl _ _)
    rw [if_neg (by omega)]
    exact hr
  · have := xc_t hc
    dsimp only at this
    refine k A ?_ (xSame.refl _ _)
    rw [if_neg (by omega)]
    exact hr
  · rename_i hc1
    have q1 := xc_f hc1
    have q2 := xc_f hc
    dsimp only at q1 q2
    refine k _ ?_ (xSame.set _ _)
    rw [if_pos (by omega)]
    have hl : (t.take i.toInt.toNat).length = i.toInt.toNat := by rw [List.length_take]; omega
    refine ⟨f, ?_, by rw [xset_ne (by omega)]; exact h2, by omega, fun j c hj => h4 j c ?_⟩
    · rw [xset_eq h1, hl]
      have hi : nI i.toInt.toNat = i := Int32.toInt_inj.mp (by rw [nI_toInt (by omega)]; omega)
      rw [hi]
      rfl
    · rw [List.getElem?_take] at hj
      split at hj
      · exact hj
      · cases hj
theorem x_char {c : Nat} (h : c < 65536) : vp_nar .char (nI c) = nI c := by
  have h1 : ((nI c).toUInt32 % 65536).toInt32 = nI c := by rw [pk_char, pk_tn (by omega), Nat.mod_eq_of_lt h]
  have h2 := pk_vc (nI c)
  rwa [h1] at h2
set_option maxRecDepth 100000 in
theorem p_dropLoop {sc : xSc} {d g a cap D : Nat} {t : List Nat} {P : xO → xH → Prop} (hcap : cap < 2 ^ 30) (ha : ¬ a + 1 = xscr) (hD : D < 2 ^ 30) (h3 : t.length ≤ cap) : ∀ (m k : Nat) (A : List xC) (f : Nat → Int32), t.length ≤ D + k + m → (k = 0 ∨ D + k ≤ t.length) →
    A[a]? = some (.inr (1, [.ref (a + 1), .int (nI t.length)])) → A[a + 1]? = some (.inl (.char, cap, .inl f)) → (∀ (i c : Nat), t[i]? = some c → c < 128) → (∀ (i c : Nat), k ≤ i → t[i]? = some c → f i = nI c) → (∀ (i c : Nat), i < k → t[D + i]? = some c → f i = nI c) →
    (∀ A', xRw A' a cap (t.drop D) → xSame A A' [a, a + 1] → P (.inl none) (A', g)) →
    xP sc d 16 12 [(0, .ref a), (1, .int (nI D)), (2, .int (nI k)), (3, .int (nI (D + k)))] [] (A, g) P := by
  intro m
  induction m with
  | zero =>
    intro k A f hm hk h1 h2 h4 h5 h6 K
    have hNi : (nI t.length).toInt = (t.length : Int) := nI_toInt (by omega)
    have hKi : (nI (D + k)).toInt = ((D + k : Nat) : Int) := nI_toInt (by omega)
    refine xP_s rfl rfl rfl ?_
    refine xP_s rfl rfl rfl ?_
    refine xP_get rfl h1 rfl ?_
    refine xP_s rfl rfl rfl ?_
    refine xP_if (fun hc => ?_) (fun hc => ?_)
    · repeat' first
        | refine xP_s rfl rfl rfl ?_
        | refine xP_put rfl h1 (Nat.le_of_ble_eq_true rfl) rfl ?_
        | refine xP_ret rfl rfl rfl ?_
      have hl : (t.drop D).length = k := by rw [List.length_drop]; omega
      refine K _ ⟨f, ?_, by rw [xset_ne (by omega)]; exact h2, by omega, fun i c hi => ?_⟩ ((xSame.set _ _).wider (by simp))
      · rw [xset_eq h1, hl]
        rfl
      · have hlt := (List.getElem?_eq_some_iff.mp hi).1
        rw [List.getElem?_drop] at hi
        exact ⟨h4 _ _ hi, h6 i c (by omega) hi⟩
    · have := xc_f hc
      dsimp only at this
      omega
  | succ m ih =>
    intro k A f hm hk h1 h2 h4 h5 h6 K
    have hNi : (nI t.length).toInt = (t.length : Int) := nI_toInt (by omega)
    have hKi : (nI (D + k)).toInt = ((D + k : Nat) : Int) := nI_toInt (by omega)
    have hki : (nI k).toInt = (k : Int) := nI_toInt (by omega)
    have hCi : (nI cap).toInt = (cap : Int) := nI_toInt (by omega)
    refine xP_s rfl rfl rfl ?_
    refine xP_s rfl rfl rfl ?_
    refine xP_get rfl h1 rfl ?_
    refine xP_s rfl rfl rfl ?_
    refine xP_if (fun hc => ?_) (fun hc => ?_)
    · have hq := xc_t hc
      dsimp only at hq
      repeat' first
        | refine xP_s rfl rfl rfl ?_
        | refine xP_put rfl h1 (Nat.le_of_ble_eq_true rfl) rfl ?_
        | refine xP_ret rfl rfl rfl ?_
      have hl : (t.drop D).length = k := by rw [List.length_drop]; omega
      refine K _ ⟨f, ?_, by rw [xset_ne (by omega)]; exact h2, by omega, fun i c hi => ?_⟩ ((xSame.set _ _).wider (by simp))
      · rw [xset_eq h1, hl]
        rfl
      · have hlt := (List.getElem?_eq_some_iff.mp hi).1
        rw [List.getElem?_drop] at hi
        exact ⟨h4 _ _ hi, h6 i c (by omega) hi⟩
    · have hq := xc_f hc
      dsimp only at hq
      repeat' first
        | refine xP_s rfl rfl rfl ?_
        | refine xP_get rfl h1 rfl ?_
        | refine xP_alen rfl h2 ha ?_
        | refine xP_if (fun hc => ?_) (fun hc => ?_)
      · have hq2 := xc_t hc
        dsimp only at hq2
        omega
      · obtain ⟨c, hcc⟩ : ∃ c, t[D + k]? = some c := ⟨t[D + k]'(by omega), List.getElem?_eq_getElem (by omega)⟩
        refine xP_cal rfl h2 (xib_of (by omega) (by omega)) ?_
        have hv : f (nI (D + k)).toNatClampNeg = nI c := by rw [nI_clamp (by omega)]; exact h5 _ _ (by omega) hcc
        rw [hv]
        refine xP_cas rfl h2 (xib_of (by omega) (by omega)) ?_
        rw [x_char (by have := h4 _ _ hcc; omega), nI_clamp (by omega)]
        refine xP_s rfl rfl rfl ?_
        refine xP_s rfl rfl rfl ?_
        refine xP_s rfl rfl rfl ?_
        have e1 : nI k + 1 = nI (k + 1) := nI_1 k
        have e2 : nI (D + k) + 1 = nI (D + (k + 1)) := nI_1 (D + k)
        have go := ih (k + 1) (A.set (a + 1) (.inl (.char, cap, .inl (upd f k (nI c))))) (upd f k (nI c)) (by omega) (Or.inr (by omega)) (by rw [xset_ne (by omega)]; exact h1) (xset_eq h2) h4 (fun i c' hi hc' => by rw [pk_un (by omega)]; exact h5 i c' (by omega) hc') (fun i c' hi hc' => by
          by_cases hik : i = k
          · subst hik
            rw [hcc] at hc'
            cases hc'
            exact pk_us
          · rw [pk_un hik]
            exact h6 i c' (by omega) hc') (fun A' r1 r2 => K A' r1 (((xSame.set _ _).trans r2).wider (by simp)))
        rw [← e1, ← e2] at go
        exact go
set_option maxRecDepth 100000 in
/-- dropFirst -/
theorem p_dropFirst {sc : xSc} {d g a cap D : Nat} {A : List xC} {t : List Nat} {P : xO → xH → Prop} (hr : xRw A a cap t) (hcap : cap < 2 ^ 30) (ha : ¬ a + 1 = xscr) (hD : D < 2 ^ 30) (k : ∀ A', xRw A' a cap (t.drop D) → xSame A A' [a, a + 1] → P (.inl none) (A', g)) : xM1 sc d 16 [.ref a, .int (nI D)] (A, g) P := by
  obtain ⟨f, h1, h2, h3, h4⟩ := id hr
  have hDi : (nI D).toInt = (D : Int) := nI_toInt (by omega)
  have hz : (0 : Int32).toInt = 0 := rfl
  have loop := p_dropLoop (sc := sc) (d := d) (g := g) (P := P) hcap ha hD h3 t.length 0 A f (by omega) (Or.inl rfl) h1 h2 (fun i c hi => (h4 i c hi).1) (fun i c _ hi => (h4 i c hi).2) (fun i c hi => absurd hi (Nat.not_lt_zero _)) k
  unfold xM1
  refine xP_s rfl rfl rfl ?_
  refine xP_s rfl rfl rfl ?_
  refine xP_s rfl rfl rfl ?_
  refine xP_s rfl rfl rfl ?_
  refine xP_if (fun hc => ?_) (fun hc => ?_)
  · have hq := xc_t hc
    dsimp only at hq
    have h0 : D = 0 := by omega
    subst h0
    refine xP_s rfl rfl rfl ?_
    refine xP_s rfl rfl rfl ?_
    exact loop
  · refine xP_s rfl rfl rfl ?_
    refine xP_s rfl rfl rfl ?_
    refine xP_s rfl rfl rfl ?_
    exact loop
end
section
-- Chars: kinds of characters
/-- a boolean as the machine has it -/
def xb (c : Bool) : Int32 := if c = true then 1 else 0
theorem xb_t : xb true = 1 := rfl
theorem xb_f : xb false = 0 := rfl
theorem xb_01 (c : Bool) : (xb c == 0 || xb c == 1) = true := by cases c <;> rfl
theorem xb_ne0 (c : Bool) : xcmp .ne (xb c) 0 = c := by cases c <;> rfl
theorem xb_eq0 (c : Bool) : xcmp .eq (xb c) 0 = !c := by cases c <;> rfl
/-- between two numbers -/
def iIn (lo hi : Int) (x : Int32) : Bool := decide (lo ≤ x.toInt) && decide (x.toInt ≤ hi)
set_option maxRecDepth 100000 in
theorem p_isPrintable {sc : xSc} {d g : Nat} {A : List xC} {x : Int32} {P : xO → xH → Prop} (k : P (.inl (some (.int (xb (iIn 32 126 x))))) (A, g)) : xM1 sc d 200 [.int x] (A, g) P := by
  have h1 : (32 : Int32).toInt = 32 := rfl
  have h2 : (126 : Int32).toInt = 126 := rfl
  unfold xM1
  repeat' first
    | refine xP_s rfl rfl rfl ?_
    | refine xP_if (fun hc => ?_) (fun hc => ?_)
    | refine xP_ret rfl rfl rfl ?_
  · have q1 := xc_t hc
    dsimp only at q1
    have e : iIn 32 126 x = false := by simp only [iIn, Bool.and_eq_false_iff, decide_eq_false_iff_not]; omega
    rw [e] at k
    exact k
  · have q1 := xc_t hc
    dsimp only at q1
    have e : iIn 32 126 x = false := by simp only [iIn, Bool.and_eq_false_iff, decide_eq_false_iff_not]; omega
    rw [e] at k
    exact k
  · rename_i hc1
    have q1 := xc_f hc1
    have q2 := xc_f hc
    dsimp only at q1 q2
    have e : iIn 32 126 x = true := by simp only [iIn, Bool.and_eq_true, decide_eq_true_eq]; omega
    rw [e] at k
    exact k
set_option maxRecDepth 100000 in
theorem p_isSmall {sc : xSc} {d g : Nat} {A : List xC} {x : Int32} {P : xO → xH → Prop} (k : P (.inl (some (.int (xb (iIn 97 122 x))))) (A, g)) : xM1 sc d 201 [.int x] (A, g) P := by
  have h1 : (97 : Int32).toInt = 97 := rfl
  have h2 : (122 : Int32).toInt = 122 := rfl
  unfold xM1
  repeat' first
    | refine xP_s rfl rfl rfl ?_
    | refine xP_if (fun hc => ?_) (fun hc => ?_)
    | refine xP_ret rfl rfl rfl ?_
  · have q1 := xc_t hc
    dsimp only at q1
    have e : iIn 97 122 x = false := by simp only [iIn, Bool.and_eq_false_iff, decide_eq_false_iff_not]; omega
    rw [e] at k
    exact k
  · have q1 := xc_t hc
    dsimp only at q1
    have e : iIn 97 122 x = false := by simp only [iIn, Bool.and_eq_false_iff, decide_eq_false_iff_not]; omega
    rw [e] at k
    exact k
  · rename_i hc1
    have q1 := xc_f hc1
    have q2 := xc_f hc
    dsimp only at q1 q2
    have e : iIn 97 122 x = true := by simp only [iIn, Bool.and_eq_true, decide_eq_true_eq]; omega
    rw [e] at k
    exact k
set_option maxRecDepth 100000 in
theorem p_isLarge {sc : xSc} {d g : Nat} {A : List xC} {x : Int32} {P : xO → xH → Prop} (k : P (.inl (some (.int (xb (iIn 65 90 x))))) (A, g)) : xM1 sc d 202 [.int x] (A, g) P := by
  have h1 : (65 : Int32).toInt = 65 := rfl
  have h2 : (90 : Int32).toInt = 90 := rfl
  unfold xM1
  repeat' first
    | refine xP_s rfl rfl rfl ?_
    | refine xP_if (fun hc => ?_) (fun hc => ?_)
    | refine xP_ret rfl rfl rfl ?_
  · have q1 := xc_t hc
    dsimp only at q1
    have e : iIn 65 90 x = false := by simp only [iIn, Bool.and_eq_false_iff, decide_eq_false_iff_not]; omega
    rw [e] at k
    exact k
  · have q1 := xc_t hc
    dsimp only at q1
    have e : iIn 65 90 x = false := by simp only [iIn, Bool.and_eq_false_iff, decide_eq_false_iff_not]; omega
    rw [e] at k
    exact k
  · rename_i hc1
    have q1 := xc_f hc1
    have q2 := xc_f hc
    dsimp only at q1 q2
    have e : iIn 65 90 x = true := by simp only [iIn, Bool.and_eq_true, decide_eq_true_eq]; omega
    rw [e] at k
    exact k
set_option maxRecDepth 100000 in
theorem p_isDigit {sc : xSc} {d g : Nat} {A : List xC} {x : Int32} {P : xO → xH → Prop} (k : P (.inl (some (.int (xb (iIn 48 57 x))))) (A, g)) : xM1 sc d 203 [.int x] (A, g) P := by
  have h1 : (48 : Int32).toInt = 48 := rfl
  have h2 : (57 : Int32).toInt = 57 := rfl
  unfold xM1
  repeat' first
    | refine xP_s rfl rfl rfl ?_
    | refine xP_if (fun hc => ?_) (fun hc => ?_)
    | refine xP_ret rfl rfl rfl ?_
  · have q1 := xc_t hc
    dsimp only at q1
    have e : iIn 48 57 x = false := by simp only [iIn, Bool.and_eq_false_iff, decide_eq_false_iff_not]; omega
    rw [e] at k
    exact k
  · have q1 := xc_t hc
    dsimp only at q1
    have e : iIn 48 57 x = false := by simp only [iIn, Bool.and_eq_false_iff, decide_eq_false_iff_not]; omega
    rw [e] at k
    exact k
  · rename_i hc1
    have q1 := xc_f hc1
    have q2 := xc_f hc
    dsimp only at q1 q2
    have e : iIn 48 57 x = true := by simp only [iIn, Bool.and_eq_true, decide_eq_true_eq]; omega
    rw [e] at k
    exact k
def isW (x : Int32) : Bool := iIn 97 122 x || (iIn 65 90 x || (iIn 48 57 x || decide (x.toInt = 95)))
set_option maxRecDepth 100000 in
theorem p_isWord {sc : xSc} {d g : Nat} {A : List xC} {x : Int32} {P : xO → xH → Prop} (k : P (.inl (some (.int (xb (isW x))))) (A, g)) : xM1 sc (d + 1) 204 [.int x] (A, g) P := by
  have h1 : (95 : Int32).toInt = 95 := rfl
  unfold xM1
  repeat' first
    | refine xP_s rfl rfl rfl ?_
    | refine xP_call rfl rfl rfl (p_isSmall ?_)
    | refine xP_call rfl rfl rfl (p_isLarge ?_)
    | refine xP_call rfl rfl rfl (p_isDigit ?_)
    | refine xP_if (fun hc => ?_) (fun hc => ?_)
    | refine xP_ret rfl rfl rfl ?_
  all_goals
    simp only [xb_ne0, xb_eq0, Bool.not_eq_true'] at *
    try simp only [xc_i, h1, decide_eq_true_eq, decide_eq_false_iff_not, Decidable.not_not] at *
    simp_all [isW, xb]
end
