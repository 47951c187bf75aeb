-- ===== PART A: goes FIRST, ahead of the names: the tables' words, and 'selects' of the private methods out of them =====
/-- a private method of a class that the tables say can be made, by its rows of tables_1 -/
def lw_okq (q : MethodName × Nat) : Prop := (q.1.cls ≠ "java/lang/invoke/MethodHandle" ∧ q.1.cls ≠ "java/lang/invoke/VarHandle") ∧ Cond.instantiable q.1.cls q.2 ∈ tables_1 ∧ Cond.privateMethod q.1 ∈ tables_1 ∧ Cond.instanceMethod q.1 ∈ tables_1
theorem lw_p0 : lw_okq (⟨"RoomForHelp", "helperAt", "(I)LRoomForHelp$Helper;"⟩, 10) := ⟨⟨by decide +kernel, by decide +kernel⟩, List.mem_of_getElem? (i := 20) (by decide +kernel), List.mem_of_getElem? (i := 290) (by decide +kernel), List.mem_of_getElem? (i := 291) (by decide +kernel)⟩
theorem lw_p1 : lw_okq (⟨"RoomForHelp", "homeAt", "(I)LRoomForHelp$Home;"⟩, 10) := ⟨⟨by decide +kernel, by decide +kernel⟩, List.mem_of_getElem? (i := 20) (by decide +kernel), List.mem_of_getElem? (i := 298) (by decide +kernel), List.mem_of_getElem? (i := 299) (by decide +kernel)⟩
theorem lw_p2 : lw_okq (⟨"RoomForHelp", "hindrance", "(LRoomForHelp$Home;LRoomForHelp$Helper;)I"⟩, 10) := ⟨⟨by decide +kernel, by decide +kernel⟩, List.mem_of_getElem? (i := 20) (by decide +kernel), List.mem_of_getElem? (i := 306) (by decide +kernel), List.mem_of_getElem? (i := 307) (by decide +kernel)⟩
theorem lw_p3 : lw_okq (⟨"RoomForHelp", "holds", "(LRoomForHelp$Helper;)Z"⟩, 10) := ⟨⟨by decide +kernel, by decide +kernel⟩, List.mem_of_getElem? (i := 20) (by decide +kernel), List.mem_of_getElem? (i := 310) (by decide +kernel), List.mem_of_getElem? (i := 311) (by decide +kernel)⟩
theorem lw_p4 : lw_okq (⟨"RoomForHelp", "findBest", "()Z"⟩, 10) := ⟨⟨by decide +kernel, by decide +kernel⟩, List.mem_of_getElem? (i := 20) (by decide +kernel), List.mem_of_getElem? (i := 318) (by decide +kernel), List.mem_of_getElem? (i := 319) (by decide +kernel)⟩
theorem lw_p5 : lw_okq (⟨"RoomForHelp", "gatherFree", "()Z"⟩, 10) := ⟨⟨by decide +kernel, by decide +kernel⟩, List.mem_of_getElem? (i := 20) (by decide +kernel), List.mem_of_getElem? (i := 322) (by decide +kernel), List.mem_of_getElem? (i := 323) (by decide +kernel)⟩
theorem lw_p6 : lw_okq (⟨"RoomForHelp", "letKnow", "(II)V"⟩, 10) := ⟨⟨by decide +kernel, by decide +kernel⟩, List.mem_of_getElem? (i := 20) (by decide +kernel), List.mem_of_getElem? (i := 347) (by decide +kernel), List.mem_of_getElem? (i := 348) (by decide +kernel)⟩
theorem lw_p7 : lw_okq (⟨"RoomForHelp$BestPairing", "reckonMostFrom", "()V"⟩, 12) := ⟨⟨by decide +kernel, by decide +kernel⟩, List.mem_of_getElem? (i := 79) (by decide +kernel), List.mem_of_getElem? (i := 367) (by decide +kernel), List.mem_of_getElem? (i := 368) (by decide +kernel)⟩
theorem lw_p8 : lw_okq (⟨"RoomForHelp$BestPairing", "can", "(II)Z"⟩, 12) := ⟨⟨by decide +kernel, by decide +kernel⟩, List.mem_of_getElem? (i := 79) (by decide +kernel), List.mem_of_getElem? (i := 371) (by decide +kernel), List.mem_of_getElem? (i := 372) (by decide +kernel)⟩
theorem lw_p9 : lw_okq (⟨"RoomForHelp$BestPairing", "bothLike", "(II)I"⟩, 12) := ⟨⟨by decide +kernel, by decide +kernel⟩, List.mem_of_getElem? (i := 79) (by decide +kernel), List.mem_of_getElem? (i := 375) (by decide +kernel), List.mem_of_getElem? (i := 376) (by decide +kernel)⟩
theorem lw_p10 : lw_okq (⟨"RoomForHelp$BestPairing", "seat", "(III)V"⟩, 12) := ⟨⟨by decide +kernel, by decide +kernel⟩, List.mem_of_getElem? (i := 79) (by decide +kernel), List.mem_of_getElem? (i := 382) (by decide +kernel), List.mem_of_getElem? (i := 383) (by decide +kernel)⟩
theorem lw_p11 : lw_okq (⟨"RoomForHelp$BestPairing", "runawaysToUnpaired", "()I"⟩, 12) := ⟨⟨by decide +kernel, by decide +kernel⟩, List.mem_of_getElem? (i := 79) (by decide +kernel), List.mem_of_getElem? (i := 386) (by decide +kernel), List.mem_of_getElem? (i := 387) (by decide +kernel)⟩
theorem lw_p12 : lw_okq (⟨"RoomForHelp$BestPairing", "isRunaway", "(II)Z"⟩, 12) := ⟨⟨by decide +kernel, by decide +kernel⟩, List.mem_of_getElem? (i := 79) (by decide +kernel), List.mem_of_getElem? (i := 390) (by decide +kernel), List.mem_of_getElem? (i := 391) (by decide +kernel)⟩
theorem lw_p13 : lw_okq (⟨"RoomForHelp$BestPairing", "homeWouldLeaveFor", "(II)Z"⟩, 12) := ⟨⟨by decide +kernel, by decide +kernel⟩, List.mem_of_getElem? (i := 79) (by decide +kernel), List.mem_of_getElem? (i := 394) (by decide +kernel), List.mem_of_getElem? (i := 395) (by decide +kernel)⟩
theorem lw_p14 : lw_okq (⟨"RoomForHelp$BestPairing", "helperWouldLeaveFor", "(II)Z"⟩, 12) := ⟨⟨by decide +kernel, by decide +kernel⟩, List.mem_of_getElem? (i := 79) (by decide +kernel), List.mem_of_getElem? (i := 398) (by decide +kernel), List.mem_of_getElem? (i := 399) (by decide +kernel)⟩
theorem lw_p15 : lw_okq (⟨"RoomForHelp$BestPairing", "keepIfBetter", "(II)V"⟩, 12) := ⟨⟨by decide +kernel, by decide +kernel⟩, List.mem_of_getElem? (i := 79) (by decide +kernel), List.mem_of_getElem? (i := 402) (by decide +kernel), List.mem_of_getElem? (i := 403) (by decide +kernel)⟩
def lw_privs_1 : List (MethodName × Nat) := [(⟨"RoomForHelp", "helperAt", "(I)LRoomForHelp$Helper;"⟩, 10), (⟨"RoomForHelp", "homeAt", "(I)LRoomForHelp$Home;"⟩, 10), (⟨"RoomForHelp", "hindrance", "(LRoomForHelp$Home;LRoomForHelp$Helper;)I"⟩, 10), (⟨"RoomForHelp", "holds", "(LRoomForHelp$Helper;)Z"⟩, 10), (⟨"RoomForHelp", "findBest", "()Z"⟩, 10), (⟨"RoomForHelp", "gatherFree", "()Z"⟩, 10), (⟨"RoomForHelp", "letKnow", "(II)V"⟩, 10), (⟨"RoomForHelp$BestPairing", "reckonMostFrom", "()V"⟩, 12), (⟨"RoomForHelp$BestPairing", "can", "(II)Z"⟩, 12), (⟨"RoomForHelp$BestPairing", "bothLike", "(II)I"⟩, 12), (⟨"RoomForHelp$BestPairing", "seat", "(III)V"⟩, 12), (⟨"RoomForHelp$BestPairing", "runawaysToUnpaired", "()I"⟩, 12), (⟨"RoomForHelp$BestPairing", "isRunaway", "(II)Z"⟩, 12), (⟨"RoomForHelp$BestPairing", "homeWouldLeaveFor", "(II)Z"⟩, 12), (⟨"RoomForHelp$BestPairing", "helperWouldLeaveFor", "(II)Z"⟩, 12), (⟨"RoomForHelp$BestPairing", "keepIfBetter", "(II)V"⟩, 12)]
theorem lw_r1 : ∀ q ∈ lw_privs_1, lw_okq q := List.forall_mem_cons.mpr ⟨lw_p0, List.forall_mem_cons.mpr ⟨lw_p1, List.forall_mem_cons.mpr ⟨lw_p2, List.forall_mem_cons.mpr ⟨lw_p3, List.forall_mem_cons.mpr ⟨lw_p4, List.forall_mem_cons.mpr ⟨lw_p5, List.forall_mem_cons.mpr ⟨lw_p6, List.forall_mem_cons.mpr ⟨lw_p7, List.forall_mem_cons.mpr ⟨lw_p8, List.forall_mem_cons.mpr ⟨lw_p9, List.forall_mem_cons.mpr ⟨lw_p10, List.forall_mem_cons.mpr ⟨lw_p11, List.forall_mem_cons.mpr ⟨lw_p12, List.forall_mem_cons.mpr ⟨lw_p13, List.forall_mem_cons.mpr ⟨lw_p14, List.forall_mem_cons.mpr ⟨lw_p15, fun _ h => absurd h List.not_mem_nil⟩⟩⟩⟩⟩⟩⟩⟩⟩⟩⟩⟩⟩⟩⟩⟩
theorem lw_p16 : lw_okq (⟨"RoomForHelp$BestPairing", "newRunaways", "(I)I"⟩, 12) := ⟨⟨by decide +kernel, by decide +kernel⟩, List.mem_of_getElem? (i := 79) (by decide +kernel), List.mem_of_getElem? (i := 409) (by decide +kernel), List.mem_of_getElem? (i := 410) (by decide +kernel)⟩
theorem lw_p17 : lw_okq (⟨"RoomForHelp", "kindAt", "(I)LRoomForHelp$Lasting;"⟩, 10) := ⟨⟨by decide +kernel, by decide +kernel⟩, List.mem_of_getElem? (i := 20) (by decide +kernel), List.mem_of_getElem? (i := 438) (by decide +kernel), List.mem_of_getElem? (i := 439) (by decide +kernel)⟩
theorem lw_p18 : lw_okq (⟨"RoomForHelp", "partAtEnd", "(LRoomForHelp$Home;)Z"⟩, 10) := ⟨⟨by decide +kernel, by decide +kernel⟩, List.mem_of_getElem? (i := 20) (by decide +kernel), List.mem_of_getElem? (i := 483) (by decide +kernel), List.mem_of_getElem? (i := 484) (by decide +kernel)⟩
theorem lw_p19 : lw_okq (⟨"RoomForHelp$AgreementReader", "forgetFormerText", "()V"⟩, 8) := ⟨⟨by decide +kernel, by decide +kernel⟩, List.mem_of_getElem? (i := 48) (by decide +kernel), List.mem_of_getElem? (i := 519) (by decide +kernel), List.mem_of_getElem? (i := 520) (by decide +kernel)⟩
theorem lw_p20 : lw_okq (⟨"RoomForHelp$AgreementReader", "step", "(LRoomForHelp$Tape;)V"⟩, 8) := ⟨⟨by decide +kernel, by decide +kernel⟩, List.mem_of_getElem? (i := 48) (by decide +kernel), List.mem_of_getElem? (i := 524) (by decide +kernel), List.mem_of_getElem? (i := 525) (by decide +kernel)⟩
theorem lw_p21 : lw_okq (⟨"RoomForHelp$AgreementReader", "readClause", "(LRoomForHelp$Tape;)Z"⟩, 8) := ⟨⟨by decide +kernel, by decide +kernel⟩, List.mem_of_getElem? (i := 48) (by decide +kernel), List.mem_of_getElem? (i := 536) (by decide +kernel), List.mem_of_getElem? (i := 537) (by decide +kernel)⟩
theorem lw_p22 : lw_okq (⟨"RoomForHelp$AgreementReader", "readWord", "(LRoomForHelp$Tape;)I"⟩, 8) := ⟨⟨by decide +kernel, by decide +kernel⟩, List.mem_of_getElem? (i := 48) (by decide +kernel), List.mem_of_getElem? (i := 540) (by decide +kernel), List.mem_of_getElem? (i := 541) (by decide +kernel)⟩
theorem lw_p23 : lw_okq (⟨"RoomForHelp$AgreementReader", "wordOfToken", "(LRoomForHelp$Tape;)I"⟩, 8) := ⟨⟨by decide +kernel, by decide +kernel⟩, List.mem_of_getElem? (i := 48) (by decide +kernel), List.mem_of_getElem? (i := 544) (by decide +kernel), List.mem_of_getElem? (i := 545) (by decide +kernel)⟩
theorem lw_p24 : lw_okq (⟨"RoomForHelp$AgreementReader", "tokenSpells", "(LRoomForHelp$Tape;Ljava/lang/String;)Z"⟩, 8) := ⟨⟨by decide +kernel, by decide +kernel⟩, List.mem_of_getElem? (i := 48) (by decide +kernel), List.mem_of_getElem? (i := 556) (by decide +kernel), List.mem_of_getElem? (i := 557) (by decide +kernel)⟩
theorem lw_p25 : lw_okq (⟨"RoomForHelp$AgreementReader", "refuse", "(I)Z"⟩, 8) := ⟨⟨by decide +kernel, by decide +kernel⟩, List.mem_of_getElem? (i := 48) (by decide +kernel), List.mem_of_getElem? (i := 608) (by decide +kernel), List.mem_of_getElem? (i := 609) (by decide +kernel)⟩
theorem lw_p26 : lw_okq (⟨"RoomForHelp$AgreementReader", "readNumber", "(LRoomForHelp$Tape;I)Z"⟩, 8) := ⟨⟨by decide +kernel, by decide +kernel⟩, List.mem_of_getElem? (i := 48) (by decide +kernel), List.mem_of_getElem? (i := 612) (by decide +kernel), List.mem_of_getElem? (i := 613) (by decide +kernel)⟩
theorem lw_p27 : lw_okq (⟨"RoomForHelp$AgreementReader", "valueOfToken", "(LRoomForHelp$Tape;)I"⟩, 8) := ⟨⟨by decide +kernel, by decide +kernel⟩, List.mem_of_getElem? (i := 48) (by decide +kernel), List.mem_of_getElem? (i := 616) (by decide +kernel), List.mem_of_getElem? (i := 617) (by decide +kernel)⟩
theorem lw_p28 : lw_okq (⟨"RoomForHelp", "isWeekOf", "(LRoomForHelp$Pair;I)Z"⟩, 10) := ⟨⟨by decide +kernel, by decide +kernel⟩, List.mem_of_getElem? (i := 20) (by decide +kernel), List.mem_of_getElem? (i := 653) (by decide +kernel), List.mem_of_getElem? (i := 654) (by decide +kernel)⟩
theorem lw_p29 : lw_okq (⟨"RoomForHelp$Lasting", "nextEnding", "(II)I"⟩, 2) := ⟨⟨by decide +kernel, by decide +kernel⟩, List.mem_of_getElem? (i := 155) (by decide +kernel), List.mem_of_getElem? (i := 712) (by decide +kernel), List.mem_of_getElem? (i := 713) (by decide +kernel)⟩
theorem lw_p30 : lw_okq (⟨"RoomForHelp$Lasting", "takeEndingsAt", "(IILRoomForHelp$Fraction;)V"⟩, 2) := ⟨⟨by decide +kernel, by decide +kernel⟩, List.mem_of_getElem? (i := 155) (by decide +kernel), List.mem_of_getElem? (i := 720) (by decide +kernel), List.mem_of_getElem? (i := 721) (by decide +kernel)⟩
theorem lw_p31 : lw_okq (⟨"RoomForHelp", "countLivingPairs", "()I"⟩, 10) := ⟨⟨by decide +kernel, by decide +kernel⟩, List.mem_of_getElem? (i := 20) (by decide +kernel), List.mem_of_getElem? (i := 760) (by decide +kernel), List.mem_of_getElem? (i := 761) (by decide +kernel)⟩
def lw_privs_2 : List (MethodName × Nat) := [(⟨"RoomForHelp$BestPairing", "newRunaways", "(I)I"⟩, 12), (⟨"RoomForHelp", "kindAt", "(I)LRoomForHelp$Lasting;"⟩, 10), (⟨"RoomForHelp", "partAtEnd", "(LRoomForHelp$Home;)Z"⟩, 10), (⟨"RoomForHelp$AgreementReader", "forgetFormerText", "()V"⟩, 8), (⟨"RoomForHelp$AgreementReader", "step", "(LRoomForHelp$Tape;)V"⟩, 8), (⟨"RoomForHelp$AgreementReader", "readClause", "(LRoomForHelp$Tape;)Z"⟩, 8), (⟨"RoomForHelp$AgreementReader", "readWord", "(LRoomForHelp$Tape;)I"⟩, 8), (⟨"RoomForHelp$AgreementReader", "wordOfToken", "(LRoomForHelp$Tape;)I"⟩, 8), (⟨"RoomForHelp$AgreementReader", "tokenSpells", "(LRoomForHelp$Tape;Ljava/lang/String;)Z"⟩, 8), (⟨"RoomForHelp$AgreementReader", "refuse", "(I)Z"⟩, 8), (⟨"RoomForHelp$AgreementReader", "readNumber", "(LRoomForHelp$Tape;I)Z"⟩, 8), (⟨"RoomForHelp$AgreementReader", "valueOfToken", "(LRoomForHelp$Tape;)I"⟩, 8), (⟨"RoomForHelp", "isWeekOf", "(LRoomForHelp$Pair;I)Z"⟩, 10), (⟨"RoomForHelp$Lasting", "nextEnding", "(II)I"⟩, 2), (⟨"RoomForHelp$Lasting", "takeEndingsAt", "(IILRoomForHelp$Fraction;)V"⟩, 2), (⟨"RoomForHelp", "countLivingPairs", "()I"⟩, 10)]
theorem lw_r2 : ∀ q ∈ lw_privs_2, lw_okq q := List.forall_mem_cons.mpr ⟨lw_p16, List.forall_mem_cons.mpr ⟨lw_p17, List.forall_mem_cons.mpr ⟨lw_p18, List.forall_mem_cons.mpr ⟨lw_p19, List.forall_mem_cons.mpr ⟨lw_p20, List.forall_mem_cons.mpr ⟨lw_p21, List.forall_mem_cons.mpr ⟨lw_p22, List.forall_mem_cons.mpr ⟨lw_p23, List.forall_mem_cons.mpr ⟨lw_p24, List.forall_mem_cons.mpr ⟨lw_p25, List.forall_mem_cons.mpr ⟨lw_p26, List.forall_mem_cons.mpr ⟨lw_p27, List.forall_mem_cons.mpr ⟨lw_p28, List.forall_mem_cons.mpr ⟨lw_p29, List.forall_mem_cons.mpr ⟨lw_p30, List.forall_mem_cons.mpr ⟨lw_p31, fun _ h => absurd h List.not_mem_nil⟩⟩⟩⟩⟩⟩⟩⟩⟩⟩⟩⟩⟩⟩⟩⟩
theorem lw_p32 : lw_okq (⟨"RoomForHelp", "countLapsedChecks", "()I"⟩, 10) := ⟨⟨by decide +kernel, by decide +kernel⟩, List.mem_of_getElem? (i := 20) (by decide +kernel), List.mem_of_getElem? (i := 764) (by decide +kernel), List.mem_of_getElem? (i := 765) (by decide +kernel)⟩
theorem lw_p33 : lw_okq (⟨"RoomForHelpModel", "isHelper", "(I)Z"⟩, 46) := ⟨⟨by decide +kernel, by decide +kernel⟩, List.mem_of_getElem? (i := 768) (by decide +kernel), List.mem_of_getElem? (i := 936) (by decide +kernel), List.mem_of_getElem? (i := 937) (by decide +kernel)⟩
theorem lw_p34 : lw_okq (⟨"RoomForHelpModel", "isHome", "(I)Z"⟩, 46) := ⟨⟨by decide +kernel, by decide +kernel⟩, List.mem_of_getElem? (i := 768) (by decide +kernel), List.mem_of_getElem? (i := 944) (by decide +kernel), List.mem_of_getElem? (i := 945) (by decide +kernel)⟩
theorem lw_p35 : lw_okq (⟨"RoomForHelpModel", "whyNot", "(II)I"⟩, 46) := ⟨⟨by decide +kernel, by decide +kernel⟩, List.mem_of_getElem? (i := 768) (by decide +kernel), List.mem_of_getElem? (i := 953) (by decide +kernel), List.mem_of_getElem? (i := 954) (by decide +kernel)⟩
theorem lw_p36 : lw_okq (⟨"RoomForHelpModel", "seeks", "()Z"⟩, 46) := ⟨⟨by decide +kernel, by decide +kernel⟩, List.mem_of_getElem? (i := 768) (by decide +kernel), List.mem_of_getElem? (i := 961) (by decide +kernel), List.mem_of_getElem? (i := 962) (by decide +kernel)⟩
theorem lw_p37 : lw_okq (⟨"RoomForHelpModel", "lifeOf", "(I)I"⟩, 46) := ⟨⟨by decide +kernel, by decide +kernel⟩, List.mem_of_getElem? (i := 768) (by decide +kernel), List.mem_of_getElem? (i := 965) (by decide +kernel), List.mem_of_getElem? (i := 966) (by decide +kernel)⟩
theorem lw_p38 : lw_okq (⟨"RoomForHelpModel", "isFree", "(I)Z"⟩, 46) := ⟨⟨by decide +kernel, by decide +kernel⟩, List.mem_of_getElem? (i := 768) (by decide +kernel), List.mem_of_getElem? (i := 969) (by decide +kernel), List.mem_of_getElem? (i := 970) (by decide +kernel)⟩
theorem lw_p39 : lw_okq (⟨"RoomForHelpModel", "holds", "()V"⟩, 46) := ⟨⟨by decide +kernel, by decide +kernel⟩, List.mem_of_getElem? (i := 768) (by decide +kernel), List.mem_of_getElem? (i := 973) (by decide +kernel), List.mem_of_getElem? (i := 974) (by decide +kernel)⟩
theorem lw_p40 : lw_okq (⟨"RoomForHelpModel", "runaways", "()I"⟩, 46) := ⟨⟨by decide +kernel, by decide +kernel⟩, List.mem_of_getElem? (i := 768) (by decide +kernel), List.mem_of_getElem? (i := 977) (by decide +kernel), List.mem_of_getElem? (i := 978) (by decide +kernel)⟩
theorem lw_p41 : lw_okq (⟨"RoomForHelpModel", "together", "()I"⟩, 46) := ⟨⟨by decide +kernel, by decide +kernel⟩, List.mem_of_getElem? (i := 768) (by decide +kernel), List.mem_of_getElem? (i := 981) (by decide +kernel), List.mem_of_getElem? (i := 982) (by decide +kernel)⟩
theorem lw_p42 : lw_okq (⟨"RoomForHelpModel", "nextFor", "(II)I"⟩, 46) := ⟨⟨by decide +kernel, by decide +kernel⟩, List.mem_of_getElem? (i := 768) (by decide +kernel), List.mem_of_getElem? (i := 985) (by decide +kernel), List.mem_of_getElem? (i := 986) (by decide +kernel)⟩
theorem lw_p43 : lw_okq (⟨"RoomForHelpModel", "livesOf", "(I)I"⟩, 46) := ⟨⟨by decide +kernel, by decide +kernel⟩, List.mem_of_getElem? (i := 768) (by decide +kernel), List.mem_of_getElem? (i := 1001) (by decide +kernel), List.mem_of_getElem? (i := 1002) (by decide +kernel)⟩
theorem lw_p44 : lw_okq (⟨"RoomForHelpModel", "ends", "()I"⟩, 46) := ⟨⟨by decide +kernel, by decide +kernel⟩, List.mem_of_getElem? (i := 768) (by decide +kernel), List.mem_of_getElem? (i := 1010) (by decide +kernel), List.mem_of_getElem? (i := 1011) (by decide +kernel)⟩
theorem lw_p45 : lw_okq (⟨"RoomForHelpModel", "put", "(I)V"⟩, 46) := ⟨⟨by decide +kernel, by decide +kernel⟩, List.mem_of_getElem? (i := 768) (by decide +kernel), List.mem_of_getElem? (i := 1018) (by decide +kernel), List.mem_of_getElem? (i := 1019) (by decide +kernel)⟩
theorem lw_p46 : lw_okq (⟨"RoomForHelpModel", "next", "(I)V"⟩, 46) := ⟨⟨by decide +kernel, by decide +kernel⟩, List.mem_of_getElem? (i := 768) (by decide +kernel), List.mem_of_getElem? (i := 1030) (by decide +kernel), List.mem_of_getElem? (i := 1031) (by decide +kernel)⟩
theorem lw_p47 : lw_okq (⟨"RoomForHelpModel", "clause", "(I)V"⟩, 46) := ⟨⟨by decide +kernel, by decide +kernel⟩, List.mem_of_getElem? (i := 768) (by decide +kernel), List.mem_of_getElem? (i := 1052) (by decide +kernel), List.mem_of_getElem? (i := 1053) (by decide +kernel)⟩
def lw_privs_3 : List (MethodName × Nat) := [(⟨"RoomForHelp", "countLapsedChecks", "()I"⟩, 10), (⟨"RoomForHelpModel", "isHelper", "(I)Z"⟩, 46), (⟨"RoomForHelpModel", "isHome", "(I)Z"⟩, 46), (⟨"RoomForHelpModel", "whyNot", "(II)I"⟩, 46), (⟨"RoomForHelpModel", "seeks", "()Z"⟩, 46), (⟨"RoomForHelpModel", "lifeOf", "(I)I"⟩, 46), (⟨"RoomForHelpModel", "isFree", "(I)Z"⟩, 46), (⟨"RoomForHelpModel", "holds", "()V"⟩, 46), (⟨"RoomForHelpModel", "runaways", "()I"⟩, 46), (⟨"RoomForHelpModel", "together", "()I"⟩, 46), (⟨"RoomForHelpModel", "nextFor", "(II)I"⟩, 46), (⟨"RoomForHelpModel", "livesOf", "(I)I"⟩, 46), (⟨"RoomForHelpModel", "ends", "()I"⟩, 46), (⟨"RoomForHelpModel", "put", "(I)V"⟩, 46), (⟨"RoomForHelpModel", "next", "(I)V"⟩, 46), (⟨"RoomForHelpModel", "clause", "(I)V"⟩, 46)]
theorem lw_r3 : ∀ q ∈ lw_privs_3, lw_okq q := List.forall_mem_cons.mpr ⟨lw_p32, List.forall_mem_cons.mpr ⟨lw_p33, List.forall_mem_cons.mpr ⟨lw_p34, List.forall_mem_cons.mpr ⟨lw_p35, List.forall_mem_cons.mpr ⟨lw_p36, List.forall_mem_cons.mpr ⟨lw_p37, List.forall_mem_cons.mpr ⟨lw_p38, List.forall_mem_cons.mpr ⟨lw_p39, List.forall_mem_cons.mpr ⟨lw_p40, List.forall_mem_cons.mpr ⟨lw_p41, List.forall_mem_cons.mpr ⟨lw_p42, List.forall_mem_cons.mpr ⟨lw_p43, List.forall_mem_cons.mpr ⟨lw_p44, List.forall_mem_cons.mpr ⟨lw_p45, List.forall_mem_cons.mpr ⟨lw_p46, List.forall_mem_cons.mpr ⟨lw_p47, fun _ h => absurd h List.not_mem_nil⟩⟩⟩⟩⟩⟩⟩⟩⟩⟩⟩⟩⟩⟩⟩⟩
theorem lw_p48 : lw_okq (⟨"RoomForHelpModel", "fails", "(I)V"⟩, 46) := ⟨⟨by decide +kernel, by decide +kernel⟩, List.mem_of_getElem? (i := 768) (by decide +kernel), List.mem_of_getElem? (i := 1056) (by decide +kernel), List.mem_of_getElem? (i := 1057) (by decide +kernel)⟩
theorem lw_p49 : lw_okq (⟨"RoomForHelpModel", "shares", "(II)V"⟩, 46) := ⟨⟨by decide +kernel, by decide +kernel⟩, List.mem_of_getElem? (i := 768) (by decide +kernel), List.mem_of_getElem? (i := 1094) (by decide +kernel), List.mem_of_getElem? (i := 1095) (by decide +kernel)⟩
theorem lw_p50 : lw_okq (⟨"RoomForHelpModel", "lastedOf", "(I)I"⟩, 46) := ⟨⟨by decide +kernel, by decide +kernel⟩, List.mem_of_getElem? (i := 768) (by decide +kernel), List.mem_of_getElem? (i := 1098) (by decide +kernel), List.mem_of_getElem? (i := 1099) (by decide +kernel)⟩
def lw_privs_4 : List (MethodName × Nat) := [(⟨"RoomForHelpModel", "fails", "(I)V"⟩, 46), (⟨"RoomForHelpModel", "shares", "(II)V"⟩, 46), (⟨"RoomForHelpModel", "lastedOf", "(I)I"⟩, 46)]
theorem lw_r4 : ∀ q ∈ lw_privs_4, lw_okq q := List.forall_mem_cons.mpr ⟨lw_p48, List.forall_mem_cons.mpr ⟨lw_p49, List.forall_mem_cons.mpr ⟨lw_p50, fun _ h => absurd h List.not_mem_nil⟩⟩⟩
def lw_privs : List (MethodName × Nat) := lw_privs_1 ++ (lw_privs_2 ++ (lw_privs_3 ++ (lw_privs_4)))
def lw_tbl : List Cond := k2_sels lw_privs ++ tables_1
theorem lw_privs_ok : ∀ q ∈ lw_privs, lw_okq q := by
  show ∀ q ∈ lw_privs_1 ++ (lw_privs_2 ++ (lw_privs_3 ++ (lw_privs_4))), lw_okq q
  exact List.forall_mem_append.mpr ⟨lw_r1, List.forall_mem_append.mpr ⟨lw_r2, List.forall_mem_append.mpr ⟨lw_r3, lw_r4⟩⟩⟩

def RX0 : String := "RoomForHelp$AgreementReader"
def TX0 : u_T := fun k => match k with
  | 0 => ("RoomForHelp$AgreementReader", "numbers", "[I", true)
  | 1 => ("RoomForHelp$AgreementReader", "seenWords", "I", false)
  | 2 => ("RoomForHelp$AgreementReader", "clauses", "I", false)
  | 3 => ("RoomForHelp$AgreementReader", "fault", "I", false)
  | 4 => ("RoomForHelp$AgreementReader", "place", "I", false)
  | 5 => ("RoomForHelp$AgreementReader", "token", "I", false)
  | 6 => ("RoomForHelp$AgreementReader", "start", "I", false)
  | _ => ("RoomForHelp$AgreementReader", "stop", "I", false)
def tyX0 : Nat → FieldType := fun k => match k with
  | 0 => .array .int
  | 1 => .int
  | 2 => .int
  | 3 => .int
  | 4 => .int
  | 5 => .int
  | 6 => .int
  | _ => .int
theorem nmX0 : ∀ a, a < 8 → ∀ b, b < 8 → a ≠ b → (TX0 a).2.1 ≠ (TX0 b).2.1 := by decide +kernel
theorem tyX0_ok : ∀ k, k < 8 → parseFieldDescriptor (TX0 k).2.2.1 = some (tyX0 k) := by decide +kernel
def RX1 : String := "RoomForHelp$BestPairing"
def TX1 : u_T := fun k => match k with
  | 0 => ("RoomForHelp$BestPairing", "homes", "[I", true)
  | 1 => ("RoomForHelp$BestPairing", "helpers", "[I", true)
  | 2 => ("RoomForHelp$BestPairing", "homeSeats", "I", false)
  | 3 => ("RoomForHelp$BestPairing", "helperSeats", "I", false)
  | 4 => ("RoomForHelp$BestPairing", "homeLikes", "[[I", true)
  | 5 => ("RoomForHelp$BestPairing", "helperLikes", "[[I", true)
  | 6 => ("RoomForHelp$BestPairing", "mostFrom", "[I", true)
  | 7 => ("RoomForHelp$BestPairing", "helperWith", "[I", true)
  | 8 => ("RoomForHelp$BestPairing", "homeWith", "[I", true)
  | 9 => ("RoomForHelp$BestPairing", "bestHelperWith", "[I", true)
  | 10 => ("RoomForHelp$BestPairing", "bestLikes", "I", false)
  | _ => ("RoomForHelp$BestPairing", "limit", "I", false)
def tyX1 : Nat → FieldType := fun k => match k with
  | 0 => .array .int
  | 1 => .array .int
  | 2 => .int
  | 3 => .int
  | 4 => .array (.array .int)
  | 5 => .array (.array .int)
  | 6 => .array .int
  | 7 => .array .int
  | 8 => .array .int
  | 9 => .array .int
  | 10 => .int
  | _ => .int
theorem nmX1 : ∀ a, a < 12 → ∀ b, b < 12 → a ≠ b → (TX1 a).2.1 ≠ (TX1 b).2.1 := by decide +kernel
theorem tyX1_ok : ∀ k, k < 12 → parseFieldDescriptor (TX1 k).2.2.1 = some (tyX1 k) := by decide +kernel
def RX2 : String := "RoomForHelp$Fraction"
def TX2 : u_T := fun k => match k with
  | 0 => ("RoomForHelp$Fraction", "upper", "J", false)
  | _ => ("RoomForHelp$Fraction", "lower", "J", false)
def tyX2 : Nat → FieldType := fun k => match k with
  | 0 => .long
  | _ => .long
theorem nmX2 : ∀ a, a < 2 → ∀ b, b < 2 → a ≠ b → (TX2 a).2.1 ≠ (TX2 b).2.1 := by decide +kernel
theorem tyX2_ok : ∀ k, k < 2 → parseFieldDescriptor (TX2 k).2.2.1 = some (tyX2 k) := by decide +kernel
def RX3 : String := "RoomForHelp$Helper"
def TX3 : u_T := fun k => match k with
  | 0 => ("RoomForHelp$Helper", "has", "I", true)
  | 1 => ("RoomForHelp$Helper", "bars", "I", true)
  | 2 => ("RoomForHelp$Helper", "hours", "I", true)
  | 3 => ("RoomForHelp$Helper", "likes", "[I", true)
  | 4 => ("RoomForHelp$Helper", "check", "I", false)
  | _ => ("RoomForHelp$Helper", "pair", "LRoomForHelp$Pair;", false)
def tyX3 : Nat → FieldType := fun k => match k with
  | 0 => .int
  | 1 => .int
  | 2 => .int
  | 3 => .array .int
  | 4 => .int
  | _ => .object "RoomForHelp$Pair"
theorem nmX3 : ∀ a, a < 6 → ∀ b, b < 6 → a ≠ b → (TX3 a).2.1 ≠ (TX3 b).2.1 := by decide +kernel
theorem tyX3_ok : ∀ k, k < 6 → parseFieldDescriptor (TX3 k).2.2.1 = some (tyX3 k) := by decide +kernel
def RX4 : String := "RoomForHelp$Home"
def TX4 : u_T := fun k => match k with
  | 0 => ("RoomForHelp$Home", "kind", "I", true)
  | 1 => ("RoomForHelp$Home", "has", "I", true)
  | 2 => ("RoomForHelp$Home", "bars", "I", true)
  | 3 => ("RoomForHelp$Home", "hours", "I", true)
  | 4 => ("RoomForHelp$Home", "likes", "[I", true)
  | 5 => ("RoomForHelp$Home", "weeks", "[I", true)
  | _ => ("RoomForHelp$Home", "pair", "LRoomForHelp$Pair;", false)
def tyX4 : Nat → FieldType := fun k => match k with
  | 0 => .int
  | 1 => .int
  | 2 => .int
  | 3 => .int
  | 4 => .array .int
  | 5 => .array .int
  | _ => .object "RoomForHelp$Pair"
theorem nmX4 : ∀ a, a < 7 → ∀ b, b < 7 → a ≠ b → (TX4 a).2.1 ≠ (TX4 b).2.1 := by decide +kernel
theorem tyX4_ok : ∀ k, k < 7 → parseFieldDescriptor (TX4 k).2.2.1 = some (tyX4 k) := by decide +kernel
def RX5 : String := "RoomForHelp$Lasting"
def TX5 : u_T := fun k => match k with
  | 0 => ("RoomForHelp$Lasting", "pairs", "[LRoomForHelp$Pair;", true)
  | _ => ("RoomForHelp$Lasting", "count", "I", false)
def tyX5 : Nat → FieldType := fun k => match k with
  | 0 => .array (.object "RoomForHelp$Pair")
  | _ => .int
theorem nmX5 : ∀ a, a < 2 → ∀ b, b < 2 → a ≠ b → (TX5 a).2.1 ≠ (TX5 b).2.1 := by decide +kernel
theorem tyX5_ok : ∀ k, k < 2 → parseFieldDescriptor (TX5 k).2.2.1 = some (tyX5 k) := by decide +kernel
def RX6 : String := "RoomForHelp$Pair"
def TX6 : u_T := fun k => match k with
  | 0 => ("RoomForHelp$Pair", "helper", "I", true)
  | 1 => ("RoomForHelp$Pair", "first", "I", true)
  | 2 => ("RoomForHelp$Pair", "terms", "LRoomForHelp$Terms;", true)
  | 3 => ("RoomForHelp$Pair", "end", "I", false)
  | _ => ("RoomForHelp$Pair", "ended", "Z", false)
def tyX6 : Nat → FieldType := fun k => match k with
  | 0 => .int
  | 1 => .int
  | 2 => .object "RoomForHelp$Terms"
  | 3 => .int
  | _ => .boolean
theorem nmX6 : ∀ a, a < 5 → ∀ b, b < 5 → a ≠ b → (TX6 a).2.1 ≠ (TX6 b).2.1 := by decide +kernel
theorem tyX6_ok : ∀ k, k < 5 → parseFieldDescriptor (TX6 k).2.2.1 = some (tyX6 k) := by decide +kernel
def RX7 : String := "RoomForHelp$Tape"
def TX7 : u_T := fun k => match k with
  | 0 => ("RoomForHelp$Tape", "bytes", "[I", true)
  | _ => ("RoomForHelp$Tape", "length", "I", false)
def tyX7 : Nat → FieldType := fun k => match k with
  | 0 => .array .int
  | _ => .int
theorem nmX7 : ∀ a, a < 2 → ∀ b, b < 2 → a ≠ b → (TX7 a).2.1 ≠ (TX7 b).2.1 := by decide +kernel
theorem tyX7_ok : ∀ k, k < 2 → parseFieldDescriptor (TX7 k).2.2.1 = some (tyX7 k) := by decide +kernel
def RX8 : String := "RoomForHelp$Terms"
def TX8 : u_T := fun k => match k with
  | 0 => ("RoomForHelp$Terms", "hours", "I", true)
  | 1 => ("RoomForHelp$Terms", "nights", "I", true)
  | 2 => ("RoomForHelp$Terms", "notice", "I", true)
  | _ => ("RoomForHelp$Terms", "trial", "I", true)
def tyX8 : Nat → FieldType := fun k => match k with
  | 0 => .int
  | 1 => .int
  | 2 => .int
  | _ => .int
theorem nmX8 : ∀ a, a < 4 → ∀ b, b < 4 → a ≠ b → (TX8 a).2.1 ≠ (TX8 b).2.1 := by decide +kernel
theorem tyX8_ok : ∀ k, k < 4 → parseFieldDescriptor (TX8 k).2.2.1 = some (tyX8 k) := by decide +kernel
def RX9 : String := "RoomForHelp"
def TX9 : u_T := fun k => match k with
  | 0 => ("RoomForHelp", "homes", "[LRoomForHelp$Home;", true)
  | 1 => ("RoomForHelp", "helpers", "[LRoomForHelp$Helper;", true)
  | 2 => ("RoomForHelp", "kinds", "[LRoomForHelp$Lasting;", true)
  | 3 => ("RoomForHelp", "tape", "LRoomForHelp$Tape;", true)
  | 4 => ("RoomForHelp", "reader", "LRoomForHelp$AgreementReader;", true)
  | 5 => ("RoomForHelp", "pairing", "LRoomForHelp$BestPairing;", true)
  | 6 => ("RoomForHelp", "terms", "LRoomForHelp$Terms;", false)
  | 7 => ("RoomForHelp", "homeCount", "I", false)
  | 8 => ("RoomForHelp", "helperCount", "I", false)
  | _ => ("RoomForHelp", "clock", "I", false)
def tyX9 : Nat → FieldType := fun k => match k with
  | 0 => .array (.object "RoomForHelp$Home")
  | 1 => .array (.object "RoomForHelp$Helper")
  | 2 => .array (.object "RoomForHelp$Lasting")
  | 3 => .object "RoomForHelp$Tape"
  | 4 => .object "RoomForHelp$AgreementReader"
  | 5 => .object "RoomForHelp$BestPairing"
  | 6 => .object "RoomForHelp$Terms"
  | 7 => .int
  | 8 => .int
  | _ => .int
theorem nmX9 : ∀ a, a < 10 → ∀ b, b < 10 → a ≠ b → (TX9 a).2.1 ≠ (TX9 b).2.1 := by decide +kernel
theorem tyX9_ok : ∀ k, k < 10 → parseFieldDescriptor (TX9 k).2.2.1 = some (tyX9 k) := by decide +kernel
def RX10 : String := "RoomForHelpModel"
def TX10 : u_T := fun k => match k with
  | 0 => ("RoomForHelpModel", "clock", "I", false)
  | 1 => ("RoomForHelpModel", "homes", "I", false)
  | 2 => ("RoomForHelpModel", "kind", "[I", true)
  | 3 => ("RoomForHelpModel", "homeHas", "[I", true)
  | 4 => ("RoomForHelpModel", "homeBars", "[I", true)
  | 5 => ("RoomForHelpModel", "needs", "[I", true)
  | 6 => ("RoomForHelpModel", "helpers", "I", false)
  | 7 => ("RoomForHelpModel", "has", "[I", true)
  | 8 => ("RoomForHelpModel", "bars", "[I", true)
  | 9 => ("RoomForHelpModel", "offers", "[I", true)
  | 10 => ("RoomForHelpModel", "check", "[I", true)
  | 11 => ("RoomForHelpModel", "likes", "[I", true)
  | 12 => ("RoomForHelpModel", "liked", "[I", true)
  | 13 => ("RoomForHelpModel", "tape", "[B", true)
  | 14 => ("RoomForHelpModel", "taped", "I", false)
  | 15 => ("RoomForHelpModel", "at", "I", false)
  | 16 => ("RoomForHelpModel", "token", "I", false)
  | 17 => ("RoomForHelpModel", "sort", "I", false)
  | 18 => ("RoomForHelpModel", "told", "I", false)
  | 19 => ("RoomForHelpModel", "wrong", "I", false)
  | 20 => ("RoomForHelpModel", "wrongAt", "I", false)
  | 21 => ("RoomForHelpModel", "fault", "I", false)
  | 22 => ("RoomForHelpModel", "faultAt", "I", false)
  | 23 => ("RoomForHelpModel", "isTold", "[Z", true)
  | 24 => ("RoomForHelpModel", "newRule", "[I", true)
  | 25 => ("RoomForHelpModel", "rule", "[I", true)
  | 26 => ("RoomForHelpModel", "lives", "I", false)
  | 27 => ("RoomForHelpModel", "lifeHome", "[I", true)
  | 28 => ("RoomForHelpModel", "lifeHelper", "[I", true)
  | 29 => ("RoomForHelpModel", "lifeFrom", "[I", true)
  | 30 => ("RoomForHelpModel", "lifeHours", "[I", true)
  | 31 => ("RoomForHelpModel", "lifeNights", "[I", true)
  | 32 => ("RoomForHelpModel", "lifeNotice", "[I", true)
  | 33 => ("RoomForHelpModel", "lifeTrial", "[I", true)
  | 34 => ("RoomForHelpModel", "lifeEnd", "[I", true)
  | 35 => ("RoomForHelpModel", "lifeLasted", "[I", true)
  | 36 => ("RoomForHelpModel", "hours", "[I", true)
  | 37 => ("RoomForHelpModel", "nights", "[I", true)
  | 38 => ("RoomForHelpModel", "freeHomes", "I", false)
  | 39 => ("RoomForHelpModel", "freeHome", "[I", true)
  | 40 => ("RoomForHelpModel", "with", "[I", true)
  | 41 => ("RoomForHelpModel", "found", "[I", true)
  | 42 => ("RoomForHelpModel", "bestRunaways", "I", false)
  | 43 => ("RoomForHelpModel", "bestLikes", "I", false)
  | 44 => ("RoomForHelpModel", "upper", "J", false)
  | _ => ("RoomForHelpModel", "under", "J", false)
def tyX10 : Nat → FieldType := fun k => match k with
  | 0 => .int
  | 1 => .int
  | 2 => .array .int
  | 3 => .array .int
  | 4 => .array .int
  | 5 => .array .int
  | 6 => .int
  | 7 => .array .int
  | 8 => .array .int
  | 9 => .array .int
  | 10 => .array .int
  | 11 => .array .int
  | 12 => .array .int
  | 13 => .array .byte
  | 14 => .int
  | 15 => .int
  | 16 => .int
  | 17 => .int
  | 18 => .int
  | 19 => .int
  | 20 => .int
  | 21 => .int
  | 22 => .int
  | 23 => .array .boolean
  | 24 => .array .int
  | 25 => .array .int
  | 26 => .int
  | 27 => .array .int
  | 28 => .array .int
  | 29 => .array .int
  | 30 => .array .int
  | 31 => .array .int
  | 32 => .array .int
  | 33 => .array .int
  | 34 => .array .int
  | 35 => .array .int
  | 36 => .array .int
  | 37 => .array .int
  | 38 => .int
  | 39 => .array .int
  | 40 => .array .int
  | 41 => .array .int
  | 42 => .int
  | 43 => .int
  | 44 => .long
  | _ => .long
theorem nmX10 : ∀ a, a < 46 → ∀ b, b < 46 → a ≠ b → (TX10 a).2.1 ≠ (TX10 b).2.1 := by decide +kernel
theorem tyX10_ok : ∀ k, k < 46 → parseFieldDescriptor (TX10 k).2.2.1 = some (tyX10 k) := by decide +kernel
abbrev vwCl : List vw_C := [(RX0, TX0, 8), (RX1, TX1, 12), (RX2, TX2, 2), (RX3, TX3, 6), (RX4, TX4, 7), (RX5, TX5, 2), (RX6, TX6, 5), (RX7, TX7, 2), (RX8, TX8, 4), (RX9, TX9, 10), (RX10, TX10, 46)]
