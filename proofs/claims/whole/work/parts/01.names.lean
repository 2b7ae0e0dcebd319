-- ===== PART A: goes FIRST, ahead of the names: the tables' words, and 'selects' of the private methods out of them =====
/-- a private method of a class that the tables say can be made, by its rows of tables_1 -/
def lw_okq (q : MethodName × Nat) : Prop := (q.1.cls ≠ "java/lang/invoke/MethodHandle" ∧ q.1.cls ≠ "java/lang/invoke/VarHandle") ∧ Cond.instantiable q.1.cls q.2 ∈ tables_1 ∧ Cond.privateMethod q.1 ∈ tables_1 ∧ Cond.instanceMethod q.1 ∈ tables_1
theorem lw_p0 : lw_okq (⟨"WakeOrder$Reader", "skipBlanks", "()V"⟩, 7) := ⟨⟨by decide +kernel, by decide +kernel⟩, List.mem_of_getElem? (i := 26) (by decide +kernel), List.mem_of_getElem? (i := 361) (by decide +kernel), List.mem_of_getElem? (i := 362) (by decide +kernel)⟩
theorem lw_p1 : lw_okq (⟨"WakeOrder$Reader", "letterOrNone", "()I"⟩, 7) := ⟨⟨by decide +kernel, by decide +kernel⟩, List.mem_of_getElem? (i := 26) (by decide +kernel), List.mem_of_getElem? (i := 365) (by decide +kernel), List.mem_of_getElem? (i := 366) (by decide +kernel)⟩
theorem lw_p2 : lw_okq (⟨"WakeOrder$Reader", "readClause", "()V"⟩, 7) := ⟨⟨by decide +kernel, by decide +kernel⟩, List.mem_of_getElem? (i := 26) (by decide +kernel), List.mem_of_getElem? (i := 369) (by decide +kernel), List.mem_of_getElem? (i := 370) (by decide +kernel)⟩
theorem lw_p3 : lw_okq (⟨"WakeOrder$Reader", "blame", "(II)V"⟩, 7) := ⟨⟨by decide +kernel, by decide +kernel⟩, List.mem_of_getElem? (i := 26) (by decide +kernel), List.mem_of_getElem? (i := 373) (by decide +kernel), List.mem_of_getElem? (i := 374) (by decide +kernel)⟩
theorem lw_p4 : lw_okq (⟨"WakeOrder$Reader", "readMorning", "(I)V"⟩, 7) := ⟨⟨by decide +kernel, by decide +kernel⟩, List.mem_of_getElem? (i := 26) (by decide +kernel), List.mem_of_getElem? (i := 377) (by decide +kernel), List.mem_of_getElem? (i := 378) (by decide +kernel)⟩
theorem lw_p5 : lw_okq (⟨"WakeOrder$Reader", "number", "(II)I"⟩, 7) := ⟨⟨by decide +kernel, by decide +kernel⟩, List.mem_of_getElem? (i := 26) (by decide +kernel), List.mem_of_getElem? (i := 381) (by decide +kernel), List.mem_of_getElem? (i := 382) (by decide +kernel)⟩
theorem lw_p6 : lw_okq (⟨"WakeOrder$Reader", "atFigure", "()Z"⟩, 7) := ⟨⟨by decide +kernel, by decide +kernel⟩, List.mem_of_getElem? (i := 26) (by decide +kernel), List.mem_of_getElem? (i := 385) (by decide +kernel), List.mem_of_getElem? (i := 386) (by decide +kernel)⟩
theorem lw_p7 : lw_okq (⟨"WakeOrder$Reader", "endClause", "()V"⟩, 7) := ⟨⟨by decide +kernel, by decide +kernel⟩, List.mem_of_getElem? (i := 26) (by decide +kernel), List.mem_of_getElem? (i := 389) (by decide +kernel), List.mem_of_getElem? (i := 390) (by decide +kernel)⟩
theorem lw_p8 : lw_okq (⟨"WakeOrder$Reader", "readPerson", "(I)V"⟩, 7) := ⟨⟨by decide +kernel, by decide +kernel⟩, List.mem_of_getElem? (i := 26) (by decide +kernel), List.mem_of_getElem? (i := 393) (by decide +kernel), List.mem_of_getElem? (i := 394) (by decide +kernel)⟩
theorem lw_p9 : lw_okq (⟨"WakeOrder$Reader", "readJob", "(I)V"⟩, 7) := ⟨⟨by decide +kernel, by decide +kernel⟩, List.mem_of_getElem? (i := 26) (by decide +kernel), List.mem_of_getElem? (i := 401) (by decide +kernel), List.mem_of_getElem? (i := 402) (by decide +kernel)⟩
theorem lw_p10 : lw_okq (⟨"WakeOrder$Reader", "readWaiting", "()V"⟩, 7) := ⟨⟨by decide +kernel, by decide +kernel⟩, List.mem_of_getElem? (i := 26) (by decide +kernel), List.mem_of_getElem? (i := 409) (by decide +kernel), List.mem_of_getElem? (i := 410) (by decide +kernel)⟩
theorem lw_p11 : lw_okq (⟨"WakeOrder$Capital", "setUpByDone", "(LWakeOrder$Row;I)V"⟩, 5) := ⟨⟨by decide +kernel, by decide +kernel⟩, List.mem_of_getElem? (i := 108) (by decide +kernel), List.mem_of_getElem? (i := 469) (by decide +kernel), List.mem_of_getElem? (i := 470) (by decide +kernel)⟩
theorem lw_p12 : lw_okq (⟨"WakeOrder$Capital", "wakesAt", "(I)I"⟩, 5) := ⟨⟨by decide +kernel, by decide +kernel⟩, List.mem_of_getElem? (i := 108) (by decide +kernel), List.mem_of_getElem? (i := 479) (by decide +kernel), List.mem_of_getElem? (i := 480) (by decide +kernel)⟩
theorem lw_p13 : lw_okq (⟨"WakeOrder$Capital", "inMorning", "(I)I"⟩, 5) := ⟨⟨by decide +kernel, by decide +kernel⟩, List.mem_of_getElem? (i := 108) (by decide +kernel), List.mem_of_getElem? (i := 490) (by decide +kernel), List.mem_of_getElem? (i := 491) (by decide +kernel)⟩
theorem lw_p14 : lw_okq (⟨"WakeOrder$Capital", "setDoneAndCount", "()I"⟩, 5) := ⟨⟨by decide +kernel, by decide +kernel⟩, List.mem_of_getElem? (i := 108) (by decide +kernel), List.mem_of_getElem? (i := 494) (by decide +kernel), List.mem_of_getElem? (i := 495) (by decide +kernel)⟩
theorem lw_p15 : lw_okq (⟨"WakeOrder", "dismissedOnes", "()I"⟩, 10) := ⟨⟨by decide +kernel, by decide +kernel⟩, List.mem_of_getElem? (i := 18) (by decide +kernel), List.mem_of_getElem? (i := 499) (by decide +kernel), List.mem_of_getElem? (i := 500) (by decide +kernel)⟩
def lw_privs_1 : List (MethodName × Nat) := [(⟨"WakeOrder$Reader", "skipBlanks", "()V"⟩, 7), (⟨"WakeOrder$Reader", "letterOrNone", "()I"⟩, 7), (⟨"WakeOrder$Reader", "readClause", "()V"⟩, 7), (⟨"WakeOrder$Reader", "blame", "(II)V"⟩, 7), (⟨"WakeOrder$Reader", "readMorning", "(I)V"⟩, 7), (⟨"WakeOrder$Reader", "number", "(II)I"⟩, 7), (⟨"WakeOrder$Reader", "atFigure", "()Z"⟩, 7), (⟨"WakeOrder$Reader", "endClause", "()V"⟩, 7), (⟨"WakeOrder$Reader", "readPerson", "(I)V"⟩, 7), (⟨"WakeOrder$Reader", "readJob", "(I)V"⟩, 7), (⟨"WakeOrder$Reader", "readWaiting", "()V"⟩, 7), (⟨"WakeOrder$Capital", "setUpByDone", "(LWakeOrder$Row;I)V"⟩, 5), (⟨"WakeOrder$Capital", "wakesAt", "(I)I"⟩, 5), (⟨"WakeOrder$Capital", "inMorning", "(I)I"⟩, 5), (⟨"WakeOrder$Capital", "setDoneAndCount", "()I"⟩, 5), (⟨"WakeOrder", "dismissedOnes", "()I"⟩, 10)]
theorem lw_r1 : ∀ q ∈ lw_privs_1, lw_okq q := List.forall_mem_cons.mpr ⟨lw_p0, List.forall_mem_cons.mpr ⟨lw_p1, List.forall_mem_cons.mpr ⟨lw_p2, List.forall_mem_cons.mpr ⟨lw_p3, List.forall_mem_cons.mpr ⟨lw_p4, List.forall_mem_cons.mpr ⟨lw_p5, List.forall_mem_cons.mpr ⟨lw_p6, List.forall_mem_cons.mpr ⟨lw_p7, List.forall_mem_cons.mpr ⟨lw_p8, List.forall_mem_cons.mpr ⟨lw_p9, List.forall_mem_cons.mpr ⟨lw_p10, List.forall_mem_cons.mpr ⟨lw_p11, List.forall_mem_cons.mpr ⟨lw_p12, List.forall_mem_cons.mpr ⟨lw_p13, List.forall_mem_cons.mpr ⟨lw_p14, List.forall_mem_cons.mpr ⟨lw_p15, fun _ h => absurd h List.not_mem_nil⟩⟩⟩⟩⟩⟩⟩⟩⟩⟩⟩⟩⟩⟩⟩⟩
theorem lw_p16 : lw_okq (⟨"WakeOrder", "isPerson", "(I)Z"⟩, 10) := ⟨⟨by decide +kernel, by decide +kernel⟩, List.mem_of_getElem? (i := 18) (by decide +kernel), List.mem_of_getElem? (i := 520) (by decide +kernel), List.mem_of_getElem? (i := 521) (by decide +kernel)⟩
theorem lw_p17 : lw_okq (⟨"WakeOrder", "jobsOf", "(I)I"⟩, 10) := ⟨⟨by decide +kernel, by decide +kernel⟩, List.mem_of_getElem? (i := 18) (by decide +kernel), List.mem_of_getElem? (i := 529) (by decide +kernel), List.mem_of_getElem? (i := 530) (by decide +kernel)⟩
theorem lw_p18 : lw_okq (⟨"WakeOrder", "isJob", "(I)Z"⟩, 10) := ⟨⟨by decide +kernel, by decide +kernel⟩, List.mem_of_getElem? (i := 18) (by decide +kernel), List.mem_of_getElem? (i := 537) (by decide +kernel), List.mem_of_getElem? (i := 538) (by decide +kernel)⟩
theorem lw_p19 : lw_okq (⟨"WakeOrder", "drawMorning", "()V"⟩, 10) := ⟨⟨by decide +kernel, by decide +kernel⟩, List.mem_of_getElem? (i := 18) (by decide +kernel), List.mem_of_getElem? (i := 593) (by decide +kernel), List.mem_of_getElem? (i := 594) (by decide +kernel)⟩
theorem lw_p20 : lw_okq (⟨"WakeOrder", "drawBelow", "(I)I"⟩, 10) := ⟨⟨by decide +kernel, by decide +kernel⟩, List.mem_of_getElem? (i := 18) (by decide +kernel), List.mem_of_getElem? (i := 597) (by decide +kernel), List.mem_of_getElem? (i := 598) (by decide +kernel)⟩
theorem lw_p21 : lw_okq (⟨"WakeOrder$Trials", "trialDoes", "(LWakeOrder$Capital;II)Z"⟩, 5) := ⟨⟨by decide +kernel, by decide +kernel⟩, List.mem_of_getElem? (i := 231) (by decide +kernel), List.mem_of_getElem? (i := 628) (by decide +kernel), List.mem_of_getElem? (i := 629) (by decide +kernel)⟩
theorem lw_p22 : lw_okq (⟨"WakeOrder$Row", "swap", "(II)V"⟩, 2) := ⟨⟨by decide +kernel, by decide +kernel⟩, List.mem_of_getElem? (i := 122) (by decide +kernel), List.mem_of_getElem? (i := 642) (by decide +kernel), List.mem_of_getElem? (i := 643) (by decide +kernel)⟩
theorem lw_p23 : lw_okq (⟨"WakeOrder$Trials", "nobodyStuckWithout", "(LWakeOrder$Capital;I)Z"⟩, 5) := ⟨⟨by decide +kernel, by decide +kernel⟩, List.mem_of_getElem? (i := 231) (by decide +kernel), List.mem_of_getElem? (i := 686) (by decide +kernel), List.mem_of_getElem? (i := 687) (by decide +kernel)⟩
theorem lw_p24 : lw_okq (⟨"WakeOrder$Windows", "fits", "(LWakeOrder$Capital;)Z"⟩, 7) := ⟨⟨by decide +kernel, by decide +kernel⟩, List.mem_of_getElem? (i := 259) (by decide +kernel), List.mem_of_getElem? (i := 718) (by decide +kernel), List.mem_of_getElem? (i := 719) (by decide +kernel)⟩
theorem lw_p25 : lw_okq (⟨"WakeOrder$Windows", "countTrial", "(LWakeOrder$Capital;)V"⟩, 7) := ⟨⟨by decide +kernel, by decide +kernel⟩, List.mem_of_getElem? (i := 259) (by decide +kernel), List.mem_of_getElem? (i := 726) (by decide +kernel), List.mem_of_getElem? (i := 727) (by decide +kernel)⟩
theorem lw_p26 : lw_okq (⟨"WakeOrderModel", "here", "()I"⟩, 40) := ⟨⟨by decide +kernel, by decide +kernel⟩, List.mem_of_getElem? (i := 788) (by decide +kernel), List.mem_of_getElem? (i := 929) (by decide +kernel), List.mem_of_getElem? (i := 930) (by decide +kernel)⟩
theorem lw_p27 : lw_okq (⟨"WakeOrderModel", "takeClause", "()I"⟩, 40) := ⟨⟨by decide +kernel, by decide +kernel⟩, List.mem_of_getElem? (i := 788) (by decide +kernel), List.mem_of_getElem? (i := 933) (by decide +kernel), List.mem_of_getElem? (i := 934) (by decide +kernel)⟩
theorem lw_p28 : lw_okq (⟨"WakeOrderModel", "fails", "(II)I"⟩, 40) := ⟨⟨by decide +kernel, by decide +kernel⟩, List.mem_of_getElem? (i := 788) (by decide +kernel), List.mem_of_getElem? (i := 937) (by decide +kernel), List.mem_of_getElem? (i := 938) (by decide +kernel)⟩
theorem lw_p29 : lw_okq (⟨"WakeOrderModel", "into", "([IIII)I"⟩, 40) := ⟨⟨by decide +kernel, by decide +kernel⟩, List.mem_of_getElem? (i := 788) (by decide +kernel), List.mem_of_getElem? (i := 941) (by decide +kernel), List.mem_of_getElem? (i := 942) (by decide +kernel)⟩
theorem lw_p30 : lw_okq (⟨"WakeOrderModel", "takeNumber", "(II)I"⟩, 40) := ⟨⟨by decide +kernel, by decide +kernel⟩, List.mem_of_getElem? (i := 788) (by decide +kernel), List.mem_of_getElem? (i := 945) (by decide +kernel), List.mem_of_getElem? (i := 946) (by decide +kernel)⟩
theorem lw_p31 : lw_okq (⟨"WakeOrderModel", "takePerson", "()I"⟩, 40) := ⟨⟨by decide +kernel, by decide +kernel⟩, List.mem_of_getElem? (i := 788) (by decide +kernel), List.mem_of_getElem? (i := 951) (by decide +kernel), List.mem_of_getElem? (i := 952) (by decide +kernel)⟩
def lw_privs_2 : List (MethodName × Nat) := [(⟨"WakeOrder", "isPerson", "(I)Z"⟩, 10), (⟨"WakeOrder", "jobsOf", "(I)I"⟩, 10), (⟨"WakeOrder", "isJob", "(I)Z"⟩, 10), (⟨"WakeOrder", "drawMorning", "()V"⟩, 10), (⟨"WakeOrder", "drawBelow", "(I)I"⟩, 10), (⟨"WakeOrder$Trials", "trialDoes", "(LWakeOrder$Capital;II)Z"⟩, 5), (⟨"WakeOrder$Row", "swap", "(II)V"⟩, 2), (⟨"WakeOrder$Trials", "nobodyStuckWithout", "(LWakeOrder$Capital;I)Z"⟩, 5), (⟨"WakeOrder$Windows", "fits", "(LWakeOrder$Capital;)Z"⟩, 7), (⟨"WakeOrder$Windows", "countTrial", "(LWakeOrder$Capital;)V"⟩, 7), (⟨"WakeOrderModel", "here", "()I"⟩, 40), (⟨"WakeOrderModel", "takeClause", "()I"⟩, 40), (⟨"WakeOrderModel", "fails", "(II)I"⟩, 40), (⟨"WakeOrderModel", "into", "([IIII)I"⟩, 40), (⟨"WakeOrderModel", "takeNumber", "(II)I"⟩, 40), (⟨"WakeOrderModel", "takePerson", "()I"⟩, 40)]
theorem lw_r2 : ∀ q ∈ lw_privs_2, lw_okq q := List.forall_mem_cons.mpr ⟨lw_p16, List.forall_mem_cons.mpr ⟨lw_p17, List.forall_mem_cons.mpr ⟨lw_p18, List.forall_mem_cons.mpr ⟨lw_p19, List.forall_mem_cons.mpr ⟨lw_p20, List.forall_mem_cons.mpr ⟨lw_p21, List.forall_mem_cons.mpr ⟨lw_p22, List.forall_mem_cons.mpr ⟨lw_p23, List.forall_mem_cons.mpr ⟨lw_p24, List.forall_mem_cons.mpr ⟨lw_p25, List.forall_mem_cons.mpr ⟨lw_p26, List.forall_mem_cons.mpr ⟨lw_p27, List.forall_mem_cons.mpr ⟨lw_p28, List.forall_mem_cons.mpr ⟨lw_p29, List.forall_mem_cons.mpr ⟨lw_p30, List.forall_mem_cons.mpr ⟨lw_p31, fun _ h => absurd h List.not_mem_nil⟩⟩⟩⟩⟩⟩⟩⟩⟩⟩⟩⟩⟩⟩⟩⟩
theorem lw_p32 : lw_okq (⟨"WakeOrderModel", "takeJob", "()I"⟩, 40) := ⟨⟨by decide +kernel, by decide +kernel⟩, List.mem_of_getElem? (i := 788) (by decide +kernel), List.mem_of_getElem? (i := 955) (by decide +kernel), List.mem_of_getElem? (i := 956) (by decide +kernel)⟩
theorem lw_p33 : lw_okq (⟨"WakeOrderModel", "takeWait", "()I"⟩, 40) := ⟨⟨by decide +kernel, by decide +kernel⟩, List.mem_of_getElem? (i := 788) (by decide +kernel), List.mem_of_getElem? (i := 959) (by decide +kernel), List.mem_of_getElem? (i := 960) (by decide +kernel)⟩
theorem lw_p34 : lw_okq (⟨"WakeOrderModel", "takeRead", "()V"⟩, 40) := ⟨⟨by decide +kernel, by decide +kernel⟩, List.mem_of_getElem? (i := 788) (by decide +kernel), List.mem_of_getElem? (i := 963) (by decide +kernel), List.mem_of_getElem? (i := 964) (by decide +kernel)⟩
theorem lw_p35 : lw_okq (⟨"WakeOrderModel", "settle", "()V"⟩, 40) := ⟨⟨by decide +kernel, by decide +kernel⟩, List.mem_of_getElem? (i := 788) (by decide +kernel), List.mem_of_getElem? (i := 975) (by decide +kernel), List.mem_of_getElem? (i := 976) (by decide +kernel)⟩
theorem lw_p36 : lw_okq (⟨"WakeOrderModel", "settleUps", "()Z"⟩, 40) := ⟨⟨by decide +kernel, by decide +kernel⟩, List.mem_of_getElem? (i := 788) (by decide +kernel), List.mem_of_getElem? (i := 980) (by decide +kernel), List.mem_of_getElem? (i := 981) (by decide +kernel)⟩
theorem lw_p37 : lw_okq (⟨"WakeOrderModel", "inTime", "(I)I"⟩, 40) := ⟨⟨by decide +kernel, by decide +kernel⟩, List.mem_of_getElem? (i := 788) (by decide +kernel), List.mem_of_getElem? (i := 990) (by decide +kernel), List.mem_of_getElem? (i := 991) (by decide +kernel)⟩
theorem lw_p38 : lw_okq (⟨"WakeOrderModel", "settleJobs", "()Z"⟩, 40) := ⟨⟨by decide +kernel, by decide +kernel⟩, List.mem_of_getElem? (i := 788) (by decide +kernel), List.mem_of_getElem? (i := 994) (by decide +kernel), List.mem_of_getElem? (i := 995) (by decide +kernel)⟩
theorem lw_p39 : lw_okq (⟨"WakeOrderModel", "stuckSet", "()I"⟩, 40) := ⟨⟨by decide +kernel, by decide +kernel⟩, List.mem_of_getElem? (i := 788) (by decide +kernel), List.mem_of_getElem? (i := 998) (by decide +kernel), List.mem_of_getElem? (i := 999) (by decide +kernel)⟩
theorem lw_p40 : lw_okq (⟨"WakeOrderModel", "undoneSet", "()I"⟩, 40) := ⟨⟨by decide +kernel, by decide +kernel⟩, List.mem_of_getElem? (i := 788) (by decide +kernel), List.mem_of_getElem? (i := 1002) (by decide +kernel), List.mem_of_getElem? (i := 1003) (by decide +kernel)⟩
theorem lw_p41 : lw_okq (⟨"WakeOrderModel", "isPerson", "(I)Z"⟩, 40) := ⟨⟨by decide +kernel, by decide +kernel⟩, List.mem_of_getElem? (i := 788) (by decide +kernel), List.mem_of_getElem? (i := 1010) (by decide +kernel), List.mem_of_getElem? (i := 1011) (by decide +kernel)⟩
theorem lw_p42 : lw_okq (⟨"WakeOrderModel", "placeOf", "(I)I"⟩, 40) := ⟨⟨by decide +kernel, by decide +kernel⟩, List.mem_of_getElem? (i := 788) (by decide +kernel), List.mem_of_getElem? (i := 1015) (by decide +kernel), List.mem_of_getElem? (i := 1016) (by decide +kernel)⟩
theorem lw_p43 : lw_okq (⟨"WakeOrderModel", "manyOf", "(I)I"⟩, 40) := ⟨⟨by decide +kernel, by decide +kernel⟩, List.mem_of_getElem? (i := 788) (by decide +kernel), List.mem_of_getElem? (i := 1019) (by decide +kernel), List.mem_of_getElem? (i := 1020) (by decide +kernel)⟩
theorem lw_p44 : lw_okq (⟨"WakeOrderModel", "isJob", "(I)Z"⟩, 40) := ⟨⟨by decide +kernel, by decide +kernel⟩, List.mem_of_getElem? (i := 788) (by decide +kernel), List.mem_of_getElem? (i := 1027) (by decide +kernel), List.mem_of_getElem? (i := 1028) (by decide +kernel)⟩
theorem lw_p45 : lw_okq (⟨"WakeOrderModel", "remember", "()V"⟩, 40) := ⟨⟨by decide +kernel, by decide +kernel⟩, List.mem_of_getElem? (i := 788) (by decide +kernel), List.mem_of_getElem? (i := 1040) (by decide +kernel), List.mem_of_getElem? (i := 1041) (by decide +kernel)⟩
theorem lw_p46 : lw_okq (⟨"WakeOrderModel", "takeOut", "(I)V"⟩, 40) := ⟨⟨by decide +kernel, by decide +kernel⟩, List.mem_of_getElem? (i := 788) (by decide +kernel), List.mem_of_getElem? (i := 1044) (by decide +kernel), List.mem_of_getElem? (i := 1045) (by decide +kernel)⟩
theorem lw_p47 : lw_okq (⟨"WakeOrderModel", "putIn", "(II)V"⟩, 40) := ⟨⟨by decide +kernel, by decide +kernel⟩, List.mem_of_getElem? (i := 788) (by decide +kernel), List.mem_of_getElem? (i := 1048) (by decide +kernel), List.mem_of_getElem? (i := 1049) (by decide +kernel)⟩
def lw_privs_3 : List (MethodName × Nat) := [(⟨"WakeOrderModel", "takeJob", "()I"⟩, 40), (⟨"WakeOrderModel", "takeWait", "()I"⟩, 40), (⟨"WakeOrderModel", "takeRead", "()V"⟩, 40), (⟨"WakeOrderModel", "settle", "()V"⟩, 40), (⟨"WakeOrderModel", "settleUps", "()Z"⟩, 40), (⟨"WakeOrderModel", "inTime", "(I)I"⟩, 40), (⟨"WakeOrderModel", "settleJobs", "()Z"⟩, 40), (⟨"WakeOrderModel", "stuckSet", "()I"⟩, 40), (⟨"WakeOrderModel", "undoneSet", "()I"⟩, 40), (⟨"WakeOrderModel", "isPerson", "(I)Z"⟩, 40), (⟨"WakeOrderModel", "placeOf", "(I)I"⟩, 40), (⟨"WakeOrderModel", "manyOf", "(I)I"⟩, 40), (⟨"WakeOrderModel", "isJob", "(I)Z"⟩, 40), (⟨"WakeOrderModel", "remember", "()V"⟩, 40), (⟨"WakeOrderModel", "takeOut", "(I)V"⟩, 40), (⟨"WakeOrderModel", "putIn", "(II)V"⟩, 40)]
theorem lw_r3 : ∀ q ∈ lw_privs_3, lw_okq q := List.forall_mem_cons.mpr ⟨lw_p32, List.forall_mem_cons.mpr ⟨lw_p33, List.forall_mem_cons.mpr ⟨lw_p34, List.forall_mem_cons.mpr ⟨lw_p35, List.forall_mem_cons.mpr ⟨lw_p36, List.forall_mem_cons.mpr ⟨lw_p37, List.forall_mem_cons.mpr ⟨lw_p38, List.forall_mem_cons.mpr ⟨lw_p39, List.forall_mem_cons.mpr ⟨lw_p40, List.forall_mem_cons.mpr ⟨lw_p41, List.forall_mem_cons.mpr ⟨lw_p42, List.forall_mem_cons.mpr ⟨lw_p43, List.forall_mem_cons.mpr ⟨lw_p44, List.forall_mem_cons.mpr ⟨lw_p45, List.forall_mem_cons.mpr ⟨lw_p46, List.forall_mem_cons.mpr ⟨lw_p47, fun _ h => absurd h List.not_mem_nil⟩⟩⟩⟩⟩⟩⟩⟩⟩⟩⟩⟩⟩⟩⟩⟩
theorem lw_p48 : lw_okq (⟨"WakeOrderModel", "dismissNow", "(I)V"⟩, 40) := ⟨⟨by decide +kernel, by decide +kernel⟩, List.mem_of_getElem? (i := 788) (by decide +kernel), List.mem_of_getElem? (i := 1064) (by decide +kernel), List.mem_of_getElem? (i := 1065) (by decide +kernel)⟩
theorem lw_p49 : lw_okq (⟨"WakeOrderModel", "draw", "(I)I"⟩, 40) := ⟨⟨by decide +kernel, by decide +kernel⟩, List.mem_of_getElem? (i := 788) (by decide +kernel), List.mem_of_getElem? (i := 1078) (by decide +kernel), List.mem_of_getElem? (i := 1079) (by decide +kernel)⟩
theorem lw_p50 : lw_okq (⟨"WakeOrderModel", "findRaise", "(II)V"⟩, 40) := ⟨⟨by decide +kernel, by decide +kernel⟩, List.mem_of_getElem? (i := 788) (by decide +kernel), List.mem_of_getElem? (i := 1094) (by decide +kernel), List.mem_of_getElem? (i := 1095) (by decide +kernel)⟩
theorem lw_p51 : lw_okq (⟨"WakeOrderModel", "save", "()V"⟩, 40) := ⟨⟨by decide +kernel, by decide +kernel⟩, List.mem_of_getElem? (i := 788) (by decide +kernel), List.mem_of_getElem? (i := 1098) (by decide +kernel), List.mem_of_getElem? (i := 1099) (by decide +kernel)⟩
theorem lw_p52 : lw_okq (⟨"WakeOrderModel", "firstOrder", "()V"⟩, 40) := ⟨⟨by decide +kernel, by decide +kernel⟩, List.mem_of_getElem? (i := 788) (by decide +kernel), List.mem_of_getElem? (i := 1102) (by decide +kernel), List.mem_of_getElem? (i := 1103) (by decide +kernel)⟩
theorem lw_p53 : lw_okq (⟨"WakeOrderModel", "nearer", "()I"⟩, 40) := ⟨⟨by decide +kernel, by decide +kernel⟩, List.mem_of_getElem? (i := 788) (by decide +kernel), List.mem_of_getElem? (i := 1106) (by decide +kernel), List.mem_of_getElem? (i := 1107) (by decide +kernel)⟩
theorem lw_p54 : lw_okq (⟨"WakeOrderModel", "wasPlace", "(I)I"⟩, 40) := ⟨⟨by decide +kernel, by decide +kernel⟩, List.mem_of_getElem? (i := 788) (by decide +kernel), List.mem_of_getElem? (i := 1110) (by decide +kernel), List.mem_of_getElem? (i := 1111) (by decide +kernel)⟩
theorem lw_p55 : lw_okq (⟨"WakeOrderModel", "areDone", "(II)Z"⟩, 40) := ⟨⟨by decide +kernel, by decide +kernel⟩, List.mem_of_getElem? (i := 788) (by decide +kernel), List.mem_of_getElem? (i := 1114) (by decide +kernel), List.mem_of_getElem? (i := 1115) (by decide +kernel)⟩
theorem lw_p56 : lw_okq (⟨"WakeOrderModel", "nextOrder", "()Z"⟩, 40) := ⟨⟨by decide +kernel, by decide +kernel⟩, List.mem_of_getElem? (i := 788) (by decide +kernel), List.mem_of_getElem? (i := 1118) (by decide +kernel), List.mem_of_getElem? (i := 1119) (by decide +kernel)⟩
theorem lw_p57 : lw_okq (⟨"WakeOrderModel", "swap", "(II)V"⟩, 40) := ⟨⟨by decide +kernel, by decide +kernel⟩, List.mem_of_getElem? (i := 788) (by decide +kernel), List.mem_of_getElem? (i := 1122) (by decide +kernel), List.mem_of_getElem? (i := 1123) (by decide +kernel)⟩
theorem lw_p58 : lw_okq (⟨"WakeOrderModel", "putBack", "()V"⟩, 40) := ⟨⟨by decide +kernel, by decide +kernel⟩, List.mem_of_getElem? (i := 788) (by decide +kernel), List.mem_of_getElem? (i := 1126) (by decide +kernel), List.mem_of_getElem? (i := 1127) (by decide +kernel)⟩
theorem lw_p59 : lw_okq (⟨"WakeOrderModel", "allUpsBut", "(I)I"⟩, 40) := ⟨⟨by decide +kernel, by decide +kernel⟩, List.mem_of_getElem? (i := 788) (by decide +kernel), List.mem_of_getElem? (i := 1134) (by decide +kernel), List.mem_of_getElem? (i := 1135) (by decide +kernel)⟩
theorem lw_p60 : lw_okq (⟨"WakeOrderModel", "doneOrLast", "(I)I"⟩, 40) := ⟨⟨by decide +kernel, by decide +kernel⟩, List.mem_of_getElem? (i := 788) (by decide +kernel), List.mem_of_getElem? (i := 1142) (by decide +kernel), List.mem_of_getElem? (i := 1143) (by decide +kernel)⟩
theorem lw_p61 : lw_okq (⟨"WakeOrderModel", "findOrders", "()V"⟩, 40) := ⟨⟨by decide +kernel, by decide +kernel⟩, List.mem_of_getElem? (i := 788) (by decide +kernel), List.mem_of_getElem? (i := 1168) (by decide +kernel), List.mem_of_getElem? (i := 1169) (by decide +kernel)⟩
theorem lw_p62 : lw_okq (⟨"WakeOrderModel", "allSeen", "()Z"⟩, 40) := ⟨⟨by decide +kernel, by decide +kernel⟩, List.mem_of_getElem? (i := 788) (by decide +kernel), List.mem_of_getElem? (i := 1172) (by decide +kernel), List.mem_of_getElem? (i := 1173) (by decide +kernel)⟩
theorem lw_p63 : lw_okq (⟨"WakeOrderModel", "countOrder", "()V"⟩, 40) := ⟨⟨by decide +kernel, by decide +kernel⟩, List.mem_of_getElem? (i := 788) (by decide +kernel), List.mem_of_getElem? (i := 1176) (by decide +kernel), List.mem_of_getElem? (i := 1177) (by decide +kernel)⟩
def lw_privs_4 : List (MethodName × Nat) := [(⟨"WakeOrderModel", "dismissNow", "(I)V"⟩, 40), (⟨"WakeOrderModel", "draw", "(I)I"⟩, 40), (⟨"WakeOrderModel", "findRaise", "(II)V"⟩, 40), (⟨"WakeOrderModel", "save", "()V"⟩, 40), (⟨"WakeOrderModel", "firstOrder", "()V"⟩, 40), (⟨"WakeOrderModel", "nearer", "()I"⟩, 40), (⟨"WakeOrderModel", "wasPlace", "(I)I"⟩, 40), (⟨"WakeOrderModel", "areDone", "(II)Z"⟩, 40), (⟨"WakeOrderModel", "nextOrder", "()Z"⟩, 40), (⟨"WakeOrderModel", "swap", "(II)V"⟩, 40), (⟨"WakeOrderModel", "putBack", "()V"⟩, 40), (⟨"WakeOrderModel", "allUpsBut", "(I)I"⟩, 40), (⟨"WakeOrderModel", "doneOrLast", "(I)I"⟩, 40), (⟨"WakeOrderModel", "findOrders", "()V"⟩, 40), (⟨"WakeOrderModel", "allSeen", "()Z"⟩, 40), (⟨"WakeOrderModel", "countOrder", "()V"⟩, 40)]
theorem lw_r4 : ∀ q ∈ lw_privs_4, lw_okq q := List.forall_mem_cons.mpr ⟨lw_p48, List.forall_mem_cons.mpr ⟨lw_p49, List.forall_mem_cons.mpr ⟨lw_p50, List.forall_mem_cons.mpr ⟨lw_p51, List.forall_mem_cons.mpr ⟨lw_p52, List.forall_mem_cons.mpr ⟨lw_p53, List.forall_mem_cons.mpr ⟨lw_p54, List.forall_mem_cons.mpr ⟨lw_p55, List.forall_mem_cons.mpr ⟨lw_p56, List.forall_mem_cons.mpr ⟨lw_p57, List.forall_mem_cons.mpr ⟨lw_p58, List.forall_mem_cons.mpr ⟨lw_p59, List.forall_mem_cons.mpr ⟨lw_p60, List.forall_mem_cons.mpr ⟨lw_p61, List.forall_mem_cons.mpr ⟨lw_p62, List.forall_mem_cons.mpr ⟨lw_p63, fun _ h => absurd h List.not_mem_nil⟩⟩⟩⟩⟩⟩⟩⟩⟩⟩⟩⟩⟩⟩⟩⟩
def lw_privs : List (MethodName × Nat) := lw_privs_1 ++ (lw_privs_2 ++ (lw_privs_3 ++ (lw_privs_4)))
def lw_tbl : List Cond := k2_sels lw_privs ++ tables_1
theorem lw_privs_ok : ∀ q ∈ lw_privs, lw_okq q := by
  show ∀ q ∈ lw_privs_1 ++ (lw_privs_2 ++ (lw_privs_3 ++ (lw_privs_4))), lw_okq q
  exact List.forall_mem_append.mpr ⟨lw_r1, List.forall_mem_append.mpr ⟨lw_r2, List.forall_mem_append.mpr ⟨lw_r3, lw_r4⟩⟩⟩
def RX0 : String := "WakeOrder$Book"
def TX0 : u_T := fun k => match k with
  | 0 => ("WakeOrder$Book", "jobs", "[I", true)
  | 1 => ("WakeOrder$Book", "minutes", "[I", true)
  | _ => ("WakeOrder$Book", "count", "I", false)
def tyX0 : Nat → FieldType := fun k => match k with
  | 0 => .array .int
  | 1 => .array .int
  | _ => .int
theorem nmX0 : ∀ a, a < 3 → ∀ b, b < 3 → a ≠ b → (TX0 a).2.1 ≠ (TX0 b).2.1 := by decide +kernel
theorem tyX0_ok : ∀ k, k < 3 → parseFieldDescriptor (TX0 k).2.2.1 = some (tyX0 k) := by decide +kernel
abbrev cX0_init : ByteArray := prog_2_method_1_code
def yX0_init : MethodName := ⟨RX0, "<init>", "()V"⟩
abbrev cX0_append : ByteArray := prog_2_method_2_code
def yX0_append : MethodName := ⟨RX0, "append", "(II)Z"⟩
abbrev cX0_firstWrong : ByteArray := prog_2_method_3_code
def yX0_firstWrong : MethodName := ⟨RX0, "firstWrong", "(LWakeOrder$Capital;)I"⟩
def RX1 : String := "WakeOrder$Capital"
def TX1 : u_T := fun k => match k with
  | 0 => ("WakeOrder$Capital", "city", "LWakeOrder$City;", true)
  | 1 => ("WakeOrder$Capital", "now", "LWakeOrder$State;", true)
  | 2 => ("WakeOrder$Capital", "up", "[I", true)
  | 3 => ("WakeOrder$Capital", "done", "[I", true)
  | _ => ("WakeOrder$Capital", "idleFrom", "[I", true)
def tyX1 : Nat → FieldType := fun k => match k with
  | 0 => .object "WakeOrder$City"
  | 1 => .object "WakeOrder$State"
  | 2 => .array .int
  | 3 => .array .int
  | _ => .array .int
theorem nmX1 : ∀ a, a < 5 → ∀ b, b < 5 → a ≠ b → (TX1 a).2.1 ≠ (TX1 b).2.1 := by decide +kernel
theorem tyX1_ok : ∀ k, k < 5 → parseFieldDescriptor (TX1 k).2.2.1 = some (tyX1 k) := by decide +kernel
abbrev cX1_init : ByteArray := prog_3_method_1_code
def yX1_init : MethodName := ⟨RX1, "<init>", "()V"⟩
abbrev cX1_reckonNow : ByteArray := prog_3_method_2_code
def yX1_reckonNow : MethodName := ⟨RX1, "reckonNow", "()V"⟩
abbrev cX1_reckon : ByteArray := prog_3_method_3_code
def yX1_reckon : MethodName := ⟨RX1, "reckon", "(LWakeOrder$Row;I)V"⟩
abbrev cX1_setUpByDone : ByteArray := prog_3_method_4_code
def yX1_setUpByDone : MethodName := ⟨RX1, "setUpByDone", "(LWakeOrder$Row;I)V"⟩
abbrev cX1_wakesAt : ByteArray := prog_3_method_5_code
def yX1_wakesAt : MethodName := ⟨RX1, "wakesAt", "(I)I"⟩
abbrev cX1_setDoneAndCount : ByteArray := prog_3_method_6_code
def yX1_setDoneAndCount : MethodName := ⟨RX1, "setDoneAndCount", "()I"⟩
abbrev cX1_inMorning : ByteArray := prog_3_method_7_code
def yX1_inMorning : MethodName := ⟨RX1, "inMorning", "(I)I"⟩
abbrev cX1_orMorningsEnd : ByteArray := prog_3_method_8_code
def yX1_orMorningsEnd : MethodName := ⟨RX1, "orMorningsEnd", "(I)I"⟩
abbrev cX1_stuckIn : ByteArray := prog_3_method_9_code
def yX1_stuckIn : MethodName := ⟨RX1, "stuckIn", "(LWakeOrder$Row;)I"⟩
abbrev cX1_undoneJobs : ByteArray := prog_3_method_10_code
def yX1_undoneJobs : MethodName := ⟨RX1, "undoneJobs", "()I"⟩
abbrev cX1_isEarlier : ByteArray := prog_3_method_11_code
def yX1_isEarlier : MethodName := ⟨RX1, "isEarlier", "(II)Z"⟩
abbrev cX1_allDoneBy : ByteArray := prog_3_method_12_code
def yX1_allDoneBy : MethodName := ⟨RX1, "allDoneBy", "(II)Z"⟩
abbrev cX1_sumOfUpBut : ByteArray := prog_3_method_13_code
def yX1_sumOfUpBut : MethodName := ⟨RX1, "sumOfUpBut", "(LWakeOrder$Row;I)I"⟩
def RX2 : String := "WakeOrder$City"
def TX2 : u_T := fun k => match k with
  | 0 => ("WakeOrder$City", "minutes", "I", false)
  | 1 => ("WakeOrder$City", "persons", "I", false)
  | 2 => ("WakeOrder$City", "jobs", "I", false)
  | 3 => ("WakeOrder$City", "wakes", "[I", true)
  | 4 => ("WakeOrder$City", "waitsFor", "[I", true)
  | 5 => ("WakeOrder$City", "doer", "[I", true)
  | 6 => ("WakeOrder$City", "takes", "[I", true)
  | _ => ("WakeOrder$City", "behind", "[I", true)
def tyX2 : Nat → FieldType := fun k => match k with
  | 0 => .int
  | 1 => .int
  | 2 => .int
  | 3 => .array .int
  | 4 => .array .int
  | 5 => .array .int
  | 6 => .array .int
  | _ => .array .int
theorem nmX2 : ∀ a, a < 8 → ∀ b, b < 8 → a ≠ b → (TX2 a).2.1 ≠ (TX2 b).2.1 := by decide +kernel
theorem tyX2_ok : ∀ k, k < 8 → parseFieldDescriptor (TX2 k).2.2.1 = some (tyX2 k) := by decide +kernel
abbrev cX2_init : ByteArray := prog_4_method_1_code
def yX2_init : MethodName := ⟨RX2, "<init>", "()V"⟩
abbrev cX2_clear : ByteArray := prog_4_method_2_code
def yX2_clear : MethodName := ⟨RX2, "clear", "()V"⟩
abbrev cX2_become : ByteArray := prog_4_method_3_code
def yX2_become : MethodName := ⟨RX2, "become", "(LWakeOrder$City;)V"⟩
abbrev cX2_addPerson : ByteArray := prog_4_method_4_code
def yX2_addPerson : MethodName := ⟨RX2, "addPerson", "(I)V"⟩
abbrev cX2_addJob : ByteArray := prog_4_method_5_code
def yX2_addJob : MethodName := ⟨RX2, "addJob", "(III)V"⟩
def RX3 : String := "WakeOrder$History"
def TX3 : u_T := fun k => match k with
  | 0 => ("WakeOrder$History", "past", "[LWakeOrder$State;", true)
  | 1 => ("WakeOrder$History", "next", "I", false)
  | _ => ("WakeOrder$History", "count", "I", false)
def tyX3 : Nat → FieldType := fun k => match k with
  | 0 => .array (.object "WakeOrder$State")
  | 1 => .int
  | _ => .int
theorem nmX3 : ∀ a, a < 3 → ∀ b, b < 3 → a ≠ b → (TX3 a).2.1 ≠ (TX3 b).2.1 := by decide +kernel
theorem tyX3_ok : ∀ k, k < 3 → parseFieldDescriptor (TX3 k).2.2.1 = some (tyX3 k) := by decide +kernel
abbrev cX3_init : ByteArray := prog_5_method_1_code
def yX3_init : MethodName := ⟨RX3, "<init>", "()V"⟩
abbrev cX3_remember : ByteArray := prog_5_method_2_code
def yX3_remember : MethodName := ⟨RX3, "remember", "(LWakeOrder$State;)V"⟩
abbrev cX3_takeBack : ByteArray := prog_5_method_3_code
def yX3_takeBack : MethodName := ⟨RX3, "takeBack", "(LWakeOrder$State;)Z"⟩
abbrev cX3_forget : ByteArray := prog_5_method_4_code
def yX3_forget : MethodName := ⟨RX3, "forget", "()V"⟩
def RX4 : String := "WakeOrder$Images"
def TX4 : u_T := fun k => match k with
  | 0 => ("WakeOrder$Images", "states", "[LWakeOrder$State;", true)
  | 1 => ("WakeOrder$Images", "seeds", "[I", true)
  | _ => ("WakeOrder$Images", "kept", "[Z", true)
def tyX4 : Nat → FieldType := fun k => match k with
  | 0 => .array (.object "WakeOrder$State")
  | 1 => .array .int
  | _ => .array .boolean
theorem nmX4 : ∀ a, a < 3 → ∀ b, b < 3 → a ≠ b → (TX4 a).2.1 ≠ (TX4 b).2.1 := by decide +kernel
theorem tyX4_ok : ∀ k, k < 3 → parseFieldDescriptor (TX4 k).2.2.1 = some (tyX4 k) := by decide +kernel
abbrev cX4_init : ByteArray := prog_6_method_1_code
def yX4_init : MethodName := ⟨RX4, "<init>", "()V"⟩
abbrev cX4_store : ByteArray := prog_6_method_2_code
def yX4_store : MethodName := ⟨RX4, "store", "(ILWakeOrder$State;I)V"⟩
abbrev cX4_restore : ByteArray := prog_6_method_3_code
def yX4_restore : MethodName := ⟨RX4, "restore", "(ILWakeOrder$State;)V"⟩
abbrev cX4_forget : ByteArray := prog_6_method_4_code
def yX4_forget : MethodName := ⟨RX4, "forget", "()V"⟩
def RX5 : String := "WakeOrder$Reader"
def TX5 : u_T := fun k => match k with
  | 0 => ("WakeOrder$Reader", "text", "[I", true)
  | 1 => ("WakeOrder$Reader", "draft", "LWakeOrder$City;", true)
  | 2 => ("WakeOrder$Reader", "length", "I", false)
  | 3 => ("WakeOrder$Reader", "faultKind", "I", false)
  | 4 => ("WakeOrder$Reader", "faultPlace", "I", false)
  | 5 => ("WakeOrder$Reader", "at", "I", false)
  | _ => ("WakeOrder$Reader", "numberAt", "I", false)
def tyX5 : Nat → FieldType := fun k => match k with
  | 0 => .array .int
  | 1 => .object "WakeOrder$City"
  | 2 => .int
  | 3 => .int
  | 4 => .int
  | 5 => .int
  | _ => .int
theorem nmX5 : ∀ a, a < 7 → ∀ b, b < 7 → a ≠ b → (TX5 a).2.1 ≠ (TX5 b).2.1 := by decide +kernel
theorem tyX5_ok : ∀ k, k < 7 → parseFieldDescriptor (TX5 k).2.2.1 = some (tyX5 k) := by decide +kernel
abbrev cX5_init : ByteArray := prog_7_method_1_code
def yX5_init : MethodName := ⟨RX5, "<init>", "()V"⟩
abbrev cX5_append : ByteArray := prog_7_method_2_code
def yX5_append : MethodName := ⟨RX5, "append", "(I)Z"⟩
abbrev cX5_readText : ByteArray := prog_7_method_3_code
def yX5_readText : MethodName := ⟨RX5, "readText", "()V"⟩
abbrev cX5_readClause : ByteArray := prog_7_method_4_code
def yX5_readClause : MethodName := ⟨RX5, "readClause", "()V"⟩
abbrev cX5_readMorning : ByteArray := prog_7_method_5_code
def yX5_readMorning : MethodName := ⟨RX5, "readMorning", "(I)V"⟩
abbrev cX5_readPerson : ByteArray := prog_7_method_6_code
def yX5_readPerson : MethodName := ⟨RX5, "readPerson", "(I)V"⟩
abbrev cX5_readJob : ByteArray := prog_7_method_7_code
def yX5_readJob : MethodName := ⟨RX5, "readJob", "(I)V"⟩
abbrev cX5_readWaiting : ByteArray := prog_7_method_8_code
def yX5_readWaiting : MethodName := ⟨RX5, "readWaiting", "()V"⟩
abbrev cX5_skipBlanks : ByteArray := prog_7_method_9_code
def yX5_skipBlanks : MethodName := ⟨RX5, "skipBlanks", "()V"⟩
abbrev cX5_letterOrNone : ByteArray := prog_7_method_10_code
def yX5_letterOrNone : MethodName := ⟨RX5, "letterOrNone", "()I"⟩
abbrev cX5_atFigure : ByteArray := prog_7_method_11_code
def yX5_atFigure : MethodName := ⟨RX5, "atFigure", "()Z"⟩
abbrev cX5_number : ByteArray := prog_7_method_12_code
def yX5_number : MethodName := ⟨RX5, "number", "(II)I"⟩
abbrev cX5_endClause : ByteArray := prog_7_method_13_code
def yX5_endClause : MethodName := ⟨RX5, "endClause", "()V"⟩
abbrev cX5_blame : ByteArray := prog_7_method_14_code
def yX5_blame : MethodName := ⟨RX5, "blame", "(II)V"⟩
def RX6 : String := "WakeOrder$Row"
def TX6 : u_T := fun k => match k with
  | 0 => ("WakeOrder$Row", "cells", "[I", true)
  | _ => ("WakeOrder$Row", "size", "I", false)
def tyX6 : Nat → FieldType := fun k => match k with
  | 0 => .array .int
  | _ => .int
theorem nmX6 : ∀ a, a < 2 → ∀ b, b < 2 → a ≠ b → (TX6 a).2.1 ≠ (TX6 b).2.1 := by decide +kernel
theorem tyX6_ok : ∀ k, k < 2 → parseFieldDescriptor (TX6 k).2.2.1 = some (tyX6 k) := by decide +kernel
abbrev cX6_init : ByteArray := prog_8_method_1_code
def yX6_init : MethodName := ⟨RX6, "<init>", "()V"⟩
abbrev cX6_at : ByteArray := prog_8_method_2_code
def yX6_at : MethodName := ⟨RX6, "at", "(I)I"⟩
abbrev cX6_placeOf : ByteArray := prog_8_method_3_code
def yX6_placeOf : MethodName := ⟨RX6, "placeOf", "(I)I"⟩
abbrev cX6_members : ByteArray := prog_8_method_4_code
def yX6_members : MethodName := ⟨RX6, "members", "()I"⟩
abbrev cX6_become : ByteArray := prog_8_method_5_code
def yX6_become : MethodName := ⟨RX6, "become", "(LWakeOrder$Row;)V"⟩
abbrev cX6_fillByNumber : ByteArray := prog_8_method_6_code
def yX6_fillByNumber : MethodName := ⟨RX6, "fillByNumber", "(I)V"⟩
abbrev cX6_takeOut : ByteArray := prog_8_method_7_code
def yX6_takeOut : MethodName := ⟨RX6, "takeOut", "(I)V"⟩
abbrev cX6_putIn : ByteArray := prog_8_method_8_code
def yX6_putIn : MethodName := ⟨RX6, "putIn", "(II)V"⟩
abbrev cX6_nearerHeadThanIn : ByteArray := prog_8_method_9_code
def yX6_nearerHeadThanIn : MethodName := ⟨RX6, "nearerHeadThanIn", "(LWakeOrder$Row;)I"⟩
abbrev cX6_toNextOrder : ByteArray := prog_8_method_10_code
def yX6_toNextOrder : MethodName := ⟨RX6, "toNextOrder", "()Z"⟩
abbrev cX6_swap : ByteArray := prog_8_method_11_code
def yX6_swap : MethodName := ⟨RX6, "swap", "(II)V"⟩
def RX7 : String := "WakeOrder$State"
def TX7 : u_T := fun k => match k with
  | 0 => ("WakeOrder$State", "row", "LWakeOrder$Row;", true)
  | 1 => ("WakeOrder$State", "wakes", "[I", true)
  | 2 => ("WakeOrder$State", "doer", "[I", true)
  | 3 => ("WakeOrder$State", "shut", "I", false)
  | _ => ("WakeOrder$State", "mornings", "I", false)
def tyX7 : Nat → FieldType := fun k => match k with
  | 0 => .object "WakeOrder$Row"
  | 1 => .array .int
  | 2 => .array .int
  | 3 => .int
  | _ => .int
theorem nmX7 : ∀ a, a < 5 → ∀ b, b < 5 → a ≠ b → (TX7 a).2.1 ≠ (TX7 b).2.1 := by decide +kernel
theorem tyX7_ok : ∀ k, k < 5 → parseFieldDescriptor (TX7 k).2.2.1 = some (tyX7 k) := by decide +kernel
abbrev cX7_init : ByteArray := prog_9_method_1_code
def yX7_init : MethodName := ⟨RX7, "<init>", "()V"⟩
abbrev cX7_begin : ByteArray := prog_9_method_2_code
def yX7_begin : MethodName := ⟨RX7, "begin", "(LWakeOrder$City;)V"⟩
abbrev cX7_become : ByteArray := prog_9_method_3_code
def yX7_become : MethodName := ⟨RX7, "become", "(LWakeOrder$State;)V"⟩
def RX8 : String := "WakeOrder$Trials"
def TX8 : u_T := fun k => match k with
  | 0 => ("WakeOrder$Trials", "trial", "LWakeOrder$Row;", true)
  | 1 => ("WakeOrder$Trials", "best", "LWakeOrder$Row;", true)
  | 2 => ("WakeOrder$Trials", "fewestRaised", "I", false)
  | 3 => ("WakeOrder$Trials", "bestPlace", "I", false)
  | _ => ("WakeOrder$Trials", "harm", "I", false)
def tyX8 : Nat → FieldType := fun k => match k with
  | 0 => .object "WakeOrder$Row"
  | 1 => .object "WakeOrder$Row"
  | 2 => .int
  | 3 => .int
  | _ => .int
theorem nmX8 : ∀ a, a < 5 → ∀ b, b < 5 → a ≠ b → (TX8 a).2.1 ≠ (TX8 b).2.1 := by decide +kernel
theorem tyX8_ok : ∀ k, k < 5 → parseFieldDescriptor (TX8 k).2.2.1 = some (tyX8 k) := by decide +kernel
abbrev cX8_init : ByteArray := prog_10_method_1_code
def yX8_init : MethodName := ⟨RX8, "<init>", "()V"⟩
abbrev cX8_tryRaising : ByteArray := prog_10_method_2_code
def yX8_tryRaising : MethodName := ⟨RX8, "tryRaising", "(LWakeOrder$Capital;II)V"⟩
abbrev cX8_trialDoes : ByteArray := prog_10_method_3_code
def yX8_trialDoes : MethodName := ⟨RX8, "trialDoes", "(LWakeOrder$Capital;II)Z"⟩
abbrev cX8_tryPlaces : ByteArray := prog_10_method_4_code
def yX8_tryPlaces : MethodName := ⟨RX8, "tryPlaces", "(LWakeOrder$Capital;I)V"⟩
abbrev cX8_fewestToDismiss : ByteArray := prog_10_method_5_code
def yX8_fewestToDismiss : MethodName := ⟨RX8, "fewestToDismiss", "(LWakeOrder$Capital;)I"⟩
abbrev cX8_nobodyStuckWithout : ByteArray := prog_10_method_6_code
def yX8_nobodyStuckWithout : MethodName := ⟨RX8, "nobodyStuckWithout", "(LWakeOrder$Capital;I)Z"⟩
def RX9 : String := "WakeOrder$Windows"
def TX9 : u_T := fun k => match k with
  | 0 => ("WakeOrder$Windows", "earlier", "[I", true)
  | 1 => ("WakeOrder$Windows", "later", "[I", true)
  | 2 => ("WakeOrder$Windows", "count", "I", false)
  | 3 => ("WakeOrder$Windows", "trial", "LWakeOrder$Row;", true)
  | 4 => ("WakeOrder$Windows", "fitting", "I", false)
  | 5 => ("WakeOrder$Windows", "sure", "[I", true)
  | _ => ("WakeOrder$Windows", "parts", "[I", true)
def tyX9 : Nat → FieldType := fun k => match k with
  | 0 => .array .int
  | 1 => .array .int
  | 2 => .int
  | 3 => .object "WakeOrder$Row"
  | 4 => .int
  | 5 => .array .int
  | _ => .array .int
theorem nmX9 : ∀ a, a < 7 → ∀ b, b < 7 → a ≠ b → (TX9 a).2.1 ≠ (TX9 b).2.1 := by decide +kernel
theorem tyX9_ok : ∀ k, k < 7 → parseFieldDescriptor (TX9 k).2.2.1 = some (tyX9 k) := by decide +kernel
abbrev cX9_init : ByteArray := prog_11_method_1_code
def yX9_init : MethodName := ⟨RX9, "<init>", "()V"⟩
abbrev cX9_append : ByteArray := prog_11_method_2_code
def yX9_append : MethodName := ⟨RX9, "append", "(II)Z"⟩
abbrev cX9_survey : ByteArray := prog_11_method_3_code
def yX9_survey : MethodName := ⟨RX9, "survey", "(LWakeOrder$Capital;)V"⟩
abbrev cX9_fits : ByteArray := prog_11_method_4_code
def yX9_fits : MethodName := ⟨RX9, "fits", "(LWakeOrder$Capital;)Z"⟩
abbrev cX9_countTrial : ByteArray := prog_11_method_5_code
def yX9_countTrial : MethodName := ⟨RX9, "countTrial", "(LWakeOrder$Capital;)V"⟩
abbrev cX9_sureOf : ByteArray := prog_11_method_6_code
def yX9_sureOf : MethodName := ⟨RX9, "sureOf", "(I)I"⟩
abbrev cX9_bestPair : ByteArray := prog_11_method_7_code
def yX9_bestPair : MethodName := ⟨RX9, "bestPair", "(I)I"⟩
def RX10 : String := "WakeOrder"
def TX10 : u_T := fun k => match k with
  | 0 => ("WakeOrder", "reader", "LWakeOrder$Reader;", true)
  | 1 => ("WakeOrder", "capital", "LWakeOrder$Capital;", true)
  | 2 => ("WakeOrder", "city", "LWakeOrder$City;", true)
  | 3 => ("WakeOrder", "now", "LWakeOrder$State;", true)
  | 4 => ("WakeOrder", "history", "LWakeOrder$History;", true)
  | 5 => ("WakeOrder", "images", "LWakeOrder$Images;", true)
  | 6 => ("WakeOrder", "trials", "LWakeOrder$Trials;", true)
  | 7 => ("WakeOrder", "windows", "LWakeOrder$Windows;", true)
  | 8 => ("WakeOrder", "book", "LWakeOrder$Book;", true)
  | _ => ("WakeOrder", "seedNow", "I", false)
def tyX10 : Nat → FieldType := fun k => match k with
  | 0 => .object "WakeOrder$Reader"
  | 1 => .object "WakeOrder$Capital"
  | 2 => .object "WakeOrder$City"
  | 3 => .object "WakeOrder$State"
  | 4 => .object "WakeOrder$History"
  | 5 => .object "WakeOrder$Images"
  | 6 => .object "WakeOrder$Trials"
  | 7 => .object "WakeOrder$Windows"
  | 8 => .object "WakeOrder$Book"
  | _ => .int
theorem nmX10 : ∀ a, a < 10 → ∀ b, b < 10 → a ≠ b → (TX10 a).2.1 ≠ (TX10 b).2.1 := by decide +kernel
theorem tyX10_ok : ∀ k, k < 10 → parseFieldDescriptor (TX10 k).2.2.1 = some (tyX10 k) := by decide +kernel
abbrev cX10_init : ByteArray := prog_1_method_1_code
def yX10_init : MethodName := ⟨RX10, "<init>", "()V"⟩
abbrev cX10_feed : ByteArray := prog_1_method_2_code
def yX10_feed : MethodName := ⟨RX10, "feed", "(I)I"⟩
abbrev cX10_city : ByteArray := prog_1_method_3_code
def yX10_city : MethodName := ⟨RX10, "city", "()I"⟩
abbrev cX10_fault : ByteArray := prog_1_method_4_code
def yX10_fault : MethodName := ⟨RX10, "fault", "()I"⟩
abbrev cX10_told : ByteArray := prog_1_method_5_code
def yX10_told : MethodName := ⟨RX10, "told", "(I)I"⟩
abbrev cX10_person : ByteArray := prog_1_method_6_code
def yX10_person : MethodName := ⟨RX10, "person", "(II)I"⟩
abbrev cX10_job : ByteArray := prog_1_method_7_code
def yX10_job : MethodName := ⟨RX10, "job", "(II)I"⟩
abbrev cX10_order : ByteArray := prog_1_method_8_code
def yX10_order : MethodName := ⟨RX10, "order", "(I)I"⟩
abbrev cX10_rank : ByteArray := prog_1_method_9_code
def yX10_rank : MethodName := ⟨RX10, "rank", "(II)I"⟩
abbrev cX10_eyes : ByteArray := prog_1_method_10_code
def yX10_eyes : MethodName := ⟨RX10, "eyes", "(IZ)I"⟩
abbrev cX10_hand : ByteArray := prog_1_method_11_code
def yX10_hand : MethodName := ⟨RX10, "hand", "(II)I"⟩
abbrev cX10_dismiss : ByteArray := prog_1_method_12_code
def yX10_dismiss : MethodName := ⟨RX10, "dismiss", "(I)I"⟩
abbrev cX10_wake : ByteArray := prog_1_method_13_code
def yX10_wake : MethodName := ⟨RX10, "wake", "(II)I"⟩
abbrev cX10_drift : ByteArray := prog_1_method_14_code
def yX10_drift : MethodName := ⟨RX10, "drift", "(I)I"⟩
abbrev cX10_undo : ByteArray := prog_1_method_15_code
def yX10_undo : MethodName := ⟨RX10, "undo", "()I"⟩
abbrev cX10_raise : ByteArray := prog_1_method_16_code
def yX10_raise : MethodName := ⟨RX10, "raise", "(III)I"⟩
abbrev cX10_leastHarm : ByteArray := prog_1_method_17_code
def yX10_leastHarm : MethodName := ⟨RX10, "leastHarm", "(II)I"⟩
abbrev cX10_bread : ByteArray := prog_1_method_18_code
def yX10_bread : MethodName := ⟨RX10, "bread", "(I)I"⟩
abbrev cX10_free : ByteArray := prog_1_method_19_code
def yX10_free : MethodName := ⟨RX10, "free", "(I)I"⟩
abbrev cX10_sleeps : ByteArray := prog_1_method_20_code
def yX10_sleeps : MethodName := ⟨RX10, "sleeps", "(II)I"⟩
abbrev cX10_see : ByteArray := prog_1_method_21_code
def yX10_see : MethodName := ⟨RX10, "see", "(II)I"⟩
abbrev cX10_orders : ByteArray := prog_1_method_22_code
def yX10_orders : MethodName := ⟨RX10, "orders", "(I)I"⟩
abbrev cX10_lookNext : ByteArray := prog_1_method_23_code
def yX10_lookNext : MethodName := ⟨RX10, "lookNext", "()I"⟩
abbrev cX10_write : ByteArray := prog_1_method_24_code
def yX10_write : MethodName := ⟨RX10, "write", "(II)I"⟩
abbrev cX10_tear : ByteArray := prog_1_method_25_code
def yX10_tear : MethodName := ⟨RX10, "tear", "()I"⟩
abbrev cX10_judge : ByteArray := prog_1_method_26_code
def yX10_judge : MethodName := ⟨RX10, "judge", "()I"⟩
abbrev cX10_seed : ByteArray := prog_1_method_27_code
def yX10_seed : MethodName := ⟨RX10, "seed", "(I)I"⟩
abbrev cX10_keep : ByteArray := prog_1_method_28_code
def yX10_keep : MethodName := ⟨RX10, "keep", "(I)I"⟩
abbrev cX10_goBack : ByteArray := prog_1_method_29_code
def yX10_goBack : MethodName := ⟨RX10, "goBack", "(I)I"⟩
abbrev cX10_isPerson : ByteArray := prog_1_method_30_code
def yX10_isPerson : MethodName := ⟨RX10, "isPerson", "(I)Z"⟩
abbrev cX10_isJob : ByteArray := prog_1_method_31_code
def yX10_isJob : MethodName := ⟨RX10, "isJob", "(I)Z"⟩
abbrev cX10_setOfFirst : ByteArray := prog_1_method_32_code
def yX10_setOfFirst : MethodName := ⟨RX10, "setOfFirst", "(I)I"⟩
abbrev cX10_dismissedOnes : ByteArray := prog_1_method_33_code
def yX10_dismissedOnes : MethodName := ⟨RX10, "dismissedOnes", "()I"⟩
abbrev cX10_jobsOf : ByteArray := prog_1_method_34_code
def yX10_jobsOf : MethodName := ⟨RX10, "jobsOf", "(I)I"⟩
abbrev cX10_drawMorning : ByteArray := prog_1_method_35_code
def yX10_drawMorning : MethodName := ⟨RX10, "drawMorning", "()V"⟩
abbrev cX10_drawBelow : ByteArray := prog_1_method_36_code
def yX10_drawBelow : MethodName := ⟨RX10, "drawBelow", "(I)I"⟩
abbrev cX10_holds : ByteArray := prog_1_method_37_code
def yX10_holds : MethodName := ⟨RX10, "holds", "([II)Z"⟩
abbrev cX10_valueAt : ByteArray := prog_1_method_38_code
def yX10_valueAt : MethodName := ⟨RX10, "valueAt", "([II)I"⟩
abbrev cX10_laterOrNever : ByteArray := prog_1_method_39_code
def yX10_laterOrNever : MethodName := ⟨RX10, "laterOrNever", "(II)I"⟩
def RX11 : String := "WakeOrderModel"
def TX11 : u_T := fun k => match k with
  | 0 => ("WakeOrderModel", "morning", "I", false)
  | 1 => ("WakeOrderModel", "persons", "I", false)
  | 2 => ("WakeOrderModel", "jobs", "I", false)
  | 3 => ("WakeOrderModel", "takes", "[I", true)
  | 4 => ("WakeOrderModel", "behind", "[I", true)
  | 5 => ("WakeOrderModel", "waits", "[I", true)
  | 6 => ("WakeOrderModel", "now", "[I", true)
  | 7 => ("WakeOrderModel", "seed", "I", false)
  | 8 => ("WakeOrderModel", "text", "[I", true)
  | 9 => ("WakeOrderModel", "texted", "I", false)
  | 10 => ("WakeOrderModel", "faultPlace", "I", false)
  | 11 => ("WakeOrderModel", "at0", "I", false)
  | 12 => ("WakeOrderModel", "number", "I", false)
  | 13 => ("WakeOrderModel", "numberAt", "I", false)
  | 14 => ("WakeOrderModel", "readMorning", "[I", true)
  | 15 => ("WakeOrderModel", "readPersons", "I", false)
  | 16 => ("WakeOrderModel", "readWake", "[I", true)
  | 17 => ("WakeOrderModel", "readJobs", "I", false)
  | 18 => ("WakeOrderModel", "readBy", "[I", true)
  | 19 => ("WakeOrderModel", "readTakes", "[I", true)
  | 20 => ("WakeOrderModel", "readBehind", "[I", true)
  | 21 => ("WakeOrderModel", "readWaits", "[I", true)
  | 22 => ("WakeOrderModel", "up", "[I", true)
  | 23 => ("WakeOrderModel", "done", "[I", true)
  | 24 => ("WakeOrderModel", "undos", "I", false)
  | 25 => ("WakeOrderModel", "past", "[I", true)
  | 26 => ("WakeOrderModel", "was", "[I", true)
  | 27 => ("WakeOrderModel", "best", "[I", true)
  | 28 => ("WakeOrderModel", "fewest", "I", false)
  | 29 => ("WakeOrderModel", "seen", "I", false)
  | 30 => ("WakeOrderModel", "seenFirst", "[I", true)
  | 31 => ("WakeOrderModel", "seenThen", "[I", true)
  | 32 => ("WakeOrderModel", "fitting", "I", false)
  | 33 => ("WakeOrderModel", "surePlace", "[I", true)
  | 34 => ("WakeOrderModel", "earlier", "[I", true)
  | 35 => ("WakeOrderModel", "booked", "I", false)
  | 36 => ("WakeOrderModel", "bookJob", "[I", true)
  | 37 => ("WakeOrderModel", "bookAt", "[I", true)
  | 38 => ("WakeOrderModel", "images", "[I", true)
  | _ => ("WakeOrderModel", "isKept", "[Z", true)
def tyX11 : Nat → FieldType := fun k => match k with
  | 0 => .int
  | 1 => .int
  | 2 => .int
  | 3 => .array .int
  | 4 => .array .int
  | 5 => .array .int
  | 6 => .array .int
  | 7 => .int
  | 8 => .array .int
  | 9 => .int
  | 10 => .int
  | 11 => .int
  | 12 => .int
  | 13 => .int
  | 14 => .array .int
  | 15 => .int
  | 16 => .array .int
  | 17 => .int
  | 18 => .array .int
  | 19 => .array .int
  | 20 => .array .int
  | 21 => .array .int
  | 22 => .array .int
  | 23 => .array .int
  | 24 => .int
  | 25 => .array .int
  | 26 => .array .int
  | 27 => .array .int
  | 28 => .int
  | 29 => .int
  | 30 => .array .int
  | 31 => .array .int
  | 32 => .int
  | 33 => .array .int
  | 34 => .array .int
  | 35 => .int
  | 36 => .array .int
  | 37 => .array .int
  | 38 => .array .int
  | _ => .array .boolean
theorem nmX11 : ∀ a, a < 40 → ∀ b, b < 40 → a ≠ b → (TX11 a).2.1 ≠ (TX11 b).2.1 := by decide +kernel
theorem tyX11_ok : ∀ k, k < 40 → parseFieldDescriptor (TX11 k).2.2.1 = some (tyX11 k) := by decide +kernel
abbrev cX11_init : ByteArray := prog_13_method_1_code
def yX11_init : MethodName := ⟨RX11, "<init>", "()V"⟩
abbrev cX11_in : ByteArray := prog_13_method_3_code
def yX11_in : MethodName := ⟨RX11, "in", "(JJJ)Z"⟩
abbrev cX11_has : ByteArray := prog_13_method_4_code
def yX11_has : MethodName := ⟨RX11, "has", "(II)Z"⟩
abbrev cX11_bits : ByteArray := prog_13_method_5_code
def yX11_bits : MethodName := ⟨RX11, "bits", "(I)I"⟩
abbrev cX11_isPerson : ByteArray := prog_13_method_6_code
def yX11_isPerson : MethodName := ⟨RX11, "isPerson", "(I)Z"⟩
abbrev cX11_isJob : ByteArray := prog_13_method_7_code
def yX11_isJob : MethodName := ⟨RX11, "isJob", "(I)Z"⟩
abbrev cX11_feed : ByteArray := prog_13_method_8_code
def yX11_feed : MethodName := ⟨RX11, "feed", "(I)I"⟩
abbrev cX11_here : ByteArray := prog_13_method_9_code
def yX11_here : MethodName := ⟨RX11, "here", "()I"⟩
abbrev cX11_fails : ByteArray := prog_13_method_10_code
def yX11_fails : MethodName := ⟨RX11, "fails", "(II)I"⟩
abbrev cX11_takeNumber : ByteArray := prog_13_method_11_code
def yX11_takeNumber : MethodName := ⟨RX11, "takeNumber", "(II)I"⟩
abbrev cX11_into : ByteArray := prog_13_method_12_code
def yX11_into : MethodName := ⟨RX11, "into", "([IIII)I"⟩
abbrev cX11_takePerson : ByteArray := prog_13_method_13_code
def yX11_takePerson : MethodName := ⟨RX11, "takePerson", "()I"⟩
abbrev cX11_takeJob : ByteArray := prog_13_method_14_code
def yX11_takeJob : MethodName := ⟨RX11, "takeJob", "()I"⟩
abbrev cX11_takeWait : ByteArray := prog_13_method_15_code
def yX11_takeWait : MethodName := ⟨RX11, "takeWait", "()I"⟩
abbrev cX11_takeClause : ByteArray := prog_13_method_16_code
def yX11_takeClause : MethodName := ⟨RX11, "takeClause", "()I"⟩
abbrev cX11_takeRead : ByteArray := prog_13_method_17_code
def yX11_takeRead : MethodName := ⟨RX11, "takeRead", "()V"⟩
abbrev cX11_city : ByteArray := prog_13_method_18_code
def yX11_city : MethodName := ⟨RX11, "city", "()I"⟩
abbrev cX11_fault : ByteArray := prog_13_method_19_code
def yX11_fault : MethodName := ⟨RX11, "fault", "()I"⟩
abbrev cX11_inTime : ByteArray := prog_13_method_20_code
def yX11_inTime : MethodName := ⟨RX11, "inTime", "(I)I"⟩
abbrev cX11_later : ByteArray := prog_13_method_21_code
def yX11_later : MethodName := ⟨RX11, "later", "(II)I"⟩
abbrev cX11_settleUps : ByteArray := prog_13_method_22_code
def yX11_settleUps : MethodName := ⟨RX11, "settleUps", "()Z"⟩
abbrev cX11_settleJobs : ByteArray := prog_13_method_23_code
def yX11_settleJobs : MethodName := ⟨RX11, "settleJobs", "()Z"⟩
abbrev cX11_settle : ByteArray := prog_13_method_24_code
def yX11_settle : MethodName := ⟨RX11, "settle", "()V"⟩
abbrev cX11_stuckSet : ByteArray := prog_13_method_25_code
def yX11_stuckSet : MethodName := ⟨RX11, "stuckSet", "()I"⟩
abbrev cX11_undoneSet : ByteArray := prog_13_method_26_code
def yX11_undoneSet : MethodName := ⟨RX11, "undoneSet", "()I"⟩
abbrev cX11_told : ByteArray := prog_13_method_27_code
def yX11_told : MethodName := ⟨RX11, "told", "(I)I"⟩
abbrev cX11_placeOf : ByteArray := prog_13_method_28_code
def yX11_placeOf : MethodName := ⟨RX11, "placeOf", "(I)I"⟩
abbrev cX11_manyOf : ByteArray := prog_13_method_29_code
def yX11_manyOf : MethodName := ⟨RX11, "manyOf", "(I)I"⟩
abbrev cX11_person : ByteArray := prog_13_method_30_code
def yX11_person : MethodName := ⟨RX11, "person", "(II)I"⟩
abbrev cX11_job : ByteArray := prog_13_method_31_code
def yX11_job : MethodName := ⟨RX11, "job", "(II)I"⟩
abbrev cX11_order : ByteArray := prog_13_method_32_code
def yX11_order : MethodName := ⟨RX11, "order", "(I)I"⟩
abbrev cX11_remember : ByteArray := prog_13_method_33_code
def yX11_remember : MethodName := ⟨RX11, "remember", "()V"⟩
abbrev cX11_takeOut : ByteArray := prog_13_method_34_code
def yX11_takeOut : MethodName := ⟨RX11, "takeOut", "(I)V"⟩
abbrev cX11_putIn : ByteArray := prog_13_method_35_code
def yX11_putIn : MethodName := ⟨RX11, "putIn", "(II)V"⟩
abbrev cX11_rank : ByteArray := prog_13_method_36_code
def yX11_rank : MethodName := ⟨RX11, "rank", "(II)I"⟩
abbrev cX11_eyes : ByteArray := prog_13_method_37_code
def yX11_eyes : MethodName := ⟨RX11, "eyes", "(IZ)I"⟩
abbrev cX11_hand : ByteArray := prog_13_method_38_code
def yX11_hand : MethodName := ⟨RX11, "hand", "(II)I"⟩
abbrev cX11_dismissNow : ByteArray := prog_13_method_39_code
def yX11_dismissNow : MethodName := ⟨RX11, "dismissNow", "(I)V"⟩
abbrev cX11_dismiss : ByteArray := prog_13_method_40_code
def yX11_dismiss : MethodName := ⟨RX11, "dismiss", "(I)I"⟩
abbrev cX11_wake : ByteArray := prog_13_method_41_code
def yX11_wake : MethodName := ⟨RX11, "wake", "(II)I"⟩
abbrev cX11_draw : ByteArray := prog_13_method_42_code
def yX11_draw : MethodName := ⟨RX11, "draw", "(I)I"⟩
abbrev cX11_drift : ByteArray := prog_13_method_43_code
def yX11_drift : MethodName := ⟨RX11, "drift", "(I)I"⟩
abbrev cX11_undo : ByteArray := prog_13_method_44_code
def yX11_undo : MethodName := ⟨RX11, "undo", "()I"⟩
abbrev cX11_save : ByteArray := prog_13_method_45_code
def yX11_save : MethodName := ⟨RX11, "save", "()V"⟩
abbrev cX11_putBack : ByteArray := prog_13_method_46_code
def yX11_putBack : MethodName := ⟨RX11, "putBack", "()V"⟩
abbrev cX11_firstOrder : ByteArray := prog_13_method_47_code
def yX11_firstOrder : MethodName := ⟨RX11, "firstOrder", "()V"⟩
abbrev cX11_swap : ByteArray := prog_13_method_48_code
def yX11_swap : MethodName := ⟨RX11, "swap", "(II)V"⟩
abbrev cX11_nextOrder : ByteArray := prog_13_method_49_code
def yX11_nextOrder : MethodName := ⟨RX11, "nextOrder", "()Z"⟩
abbrev cX11_wasPlace : ByteArray := prog_13_method_50_code
def yX11_wasPlace : MethodName := ⟨RX11, "wasPlace", "(I)I"⟩
abbrev cX11_nearer : ByteArray := prog_13_method_51_code
def yX11_nearer : MethodName := ⟨RX11, "nearer", "()I"⟩
abbrev cX11_areDone : ByteArray := prog_13_method_52_code
def yX11_areDone : MethodName := ⟨RX11, "areDone", "(II)Z"⟩
abbrev cX11_findRaise : ByteArray := prog_13_method_53_code
def yX11_findRaise : MethodName := ⟨RX11, "findRaise", "(II)V"⟩
abbrev cX11_raise : ByteArray := prog_13_method_54_code
def yX11_raise : MethodName := ⟨RX11, "raise", "(III)I"⟩
abbrev cX11_allUpsBut : ByteArray := prog_13_method_55_code
def yX11_allUpsBut : MethodName := ⟨RX11, "allUpsBut", "(I)I"⟩
abbrev cX11_leastHarm : ByteArray := prog_13_method_56_code
def yX11_leastHarm : MethodName := ⟨RX11, "leastHarm", "(II)I"⟩
abbrev cX11_doneOrLast : ByteArray := prog_13_method_57_code
def yX11_doneOrLast : MethodName := ⟨RX11, "doneOrLast", "(I)I"⟩
abbrev cX11_bread : ByteArray := prog_13_method_58_code
def yX11_bread : MethodName := ⟨RX11, "bread", "(I)I"⟩
abbrev cX11_free : ByteArray := prog_13_method_59_code
def yX11_free : MethodName := ⟨RX11, "free", "(I)I"⟩
abbrev cX11_sleeps : ByteArray := prog_13_method_60_code
def yX11_sleeps : MethodName := ⟨RX11, "sleeps", "(II)I"⟩
abbrev cX11_see : ByteArray := prog_13_method_61_code
def yX11_see : MethodName := ⟨RX11, "see", "(II)I"⟩
abbrev cX11_allSeen : ByteArray := prog_13_method_62_code
def yX11_allSeen : MethodName := ⟨RX11, "allSeen", "()Z"⟩
abbrev cX11_countOrder : ByteArray := prog_13_method_63_code
def yX11_countOrder : MethodName := ⟨RX11, "countOrder", "()V"⟩
abbrev cX11_findOrders : ByteArray := prog_13_method_64_code
def yX11_findOrders : MethodName := ⟨RX11, "findOrders", "()V"⟩
abbrev cX11_orders : ByteArray := prog_13_method_65_code
def yX11_orders : MethodName := ⟨RX11, "orders", "(I)I"⟩
abbrev cX11_lookNext : ByteArray := prog_13_method_66_code
def yX11_lookNext : MethodName := ⟨RX11, "lookNext", "()I"⟩
abbrev cX11_write : ByteArray := prog_13_method_67_code
def yX11_write : MethodName := ⟨RX11, "write", "(II)I"⟩
abbrev cX11_tear : ByteArray := prog_13_method_68_code
def yX11_tear : MethodName := ⟨RX11, "tear", "()I"⟩
abbrev cX11_judge : ByteArray := prog_13_method_69_code
def yX11_judge : MethodName := ⟨RX11, "judge", "()I"⟩
abbrev cX11_seed : ByteArray := prog_13_method_70_code
def yX11_seed : MethodName := ⟨RX11, "seed", "(I)I"⟩
abbrev cX11_keep : ByteArray := prog_13_method_71_code
def yX11_keep : MethodName := ⟨RX11, "keep", "(I)I"⟩
abbrev cX11_goBack : ByteArray := prog_13_method_72_code
def yX11_goBack : MethodName := ⟨RX11, "goBack", "(I)I"⟩
def RJ6 : String := "java/lang/Integer"
abbrev cJ6_bitCount_0f7a4 : ByteArray := prog_14_method_49_code
def yJ6_bitCount_0f7a4 : MethodName := ⟨RJ6, "bitCount", "(I)I"⟩
def RJ9 : String := "java/lang/Math"
abbrev cJ9_max_7cf53 : ByteArray := prog_15_method_65_code
def yJ9_max_7cf53 : MethodName := ⟨RJ9, "max", "(II)I"⟩
abbrev cJ9_min_7cf53 : ByteArray := prog_15_method_69_code
def yJ9_min_7cf53 : MethodName := ⟨RJ9, "min", "(II)I"⟩
def RJ10 : String := "java/lang/System"
def RJ7 : String := "java/util/Arrays"
abbrev cJ7_fill_53178 : ByteArray := prog_17_method_103_code
def yJ7_fill_53178 : MethodName := ⟨RJ7, "fill", "([II)V"⟩
def RL : String := "WakeOrderLaw"
abbrev cL_law : ByteArray := code
def yL_law : MethodName := ⟨RL, "law", "([I)Z"⟩
abbrev vwCl : List vw_C := [(RX0, TX0, 3), (RX1, TX1, 5), (RX2, TX2, 8), (RX3, TX3, 3), (RX4, TX4, 3), (RX5, TX5, 7), (RX6, TX6, 2), (RX7, TX7, 5), (RX8, TX8, 5), (RX9, TX9, 7), (RX10, TX10, 10), (RX11, TX11, 40)]
