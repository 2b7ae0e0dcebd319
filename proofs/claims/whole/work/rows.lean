section
-- ===== PART A: goes FIRST, ahead of the names: the tables' words, and 'selects' of the private methods out of them =====
/-- a private method of a class that the tables say can be made, by its rows of tables_1 -/
def lw_okq (q : MethodName × Nat) : Prop := (q.1.cls ≠ "java/lang/invoke/MethodHandle" ∧ q.1.cls ≠ "java/lang/invoke/VarHandle") ∧ Cond.instantiable q.1.cls q.2 ∈ tables_1 ∧ Cond.privateMethod q.1 ∈ tables_1 ∧ Cond.instanceMethod q.1 ∈ tables_1
theorem lw_p0 : lw_okq (⟨"WakeOrder$Reader", "skipBlanks", "()V"⟩, 7) := ⟨⟨by decide +kernel, by decide +kernel⟩, List.mem_of_getElem? (i := 26) (by decide +kernel), List.mem_of_getElem? (i := 361) (by decide +kernel), List.mem_of_getElem? (i := 362) (by decide +kernel)⟩
theorem lw_p1 : lw_okq (⟨"WakeOrder$Reader", "letter", "()I"⟩, 7) := ⟨⟨by decide +kernel, by decide +kernel⟩, List.mem_of_getElem? (i := 26) (by decide +kernel), List.mem_of_getElem? (i := 365) (by decide +kernel), List.mem_of_getElem? (i := 366) (by decide +kernel)⟩
theorem lw_p2 : lw_okq (⟨"WakeOrder$Reader", "readClause", "()V"⟩, 7) := ⟨⟨by decide +kernel, by decide +kernel⟩, List.mem_of_getElem? (i := 26) (by decide +kernel), List.mem_of_getElem? (i := 369) (by decide +kernel), List.mem_of_getElem? (i := 370) (by decide +kernel)⟩
theorem lw_p3 : lw_okq (⟨"WakeOrder$Reader", "blame", "(II)V"⟩, 7) := ⟨⟨by decide +kernel, by decide +kernel⟩, List.mem_of_getElem? (i := 26) (by decide +kernel), List.mem_of_getElem? (i := 373) (by decide +kernel), List.mem_of_getElem? (i := 374) (by decide +kernel)⟩
theorem lw_p4 : lw_okq (⟨"WakeOrder$Reader", "readMorning", "(I)V"⟩, 7) := ⟨⟨by decide +kernel, by decide +kernel⟩, List.mem_of_getElem? (i := 26) (by decide +kernel), List.mem_of_getElem? (i := 377) (by decide +kernel), List.mem_of_getElem? (i := 378) (by decide +kernel)⟩
theorem lw_p5 : lw_okq (⟨"WakeOrder$Reader", "number", "(II)I"⟩, 7) := ⟨⟨by decide +kernel, by decide +kernel⟩, List.mem_of_getElem? (i := 26) (by decide +kernel), List.mem_of_getElem? (i := 381) (by decide +kernel), List.mem_of_getElem? (i := 382) (by decide +kernel)⟩
theorem lw_p6 : lw_okq (⟨"WakeOrder$Reader", "atFigure", "()Z"⟩, 7) := ⟨⟨by decide +kernel, by decide +kernel⟩, List.mem_of_getElem? (i := 26) (by decide +kernel), List.mem_of_getElem? (i := 385) (by decide +kernel), List.mem_of_getElem? (i := 386) (by decide +kernel)⟩
theorem lw_p7 : lw_okq (⟨"WakeOrder$Reader", "endClause", "()V"⟩, 7) := ⟨⟨by decide +kernel, by decide +kernel⟩, List.mem_of_getElem? (i := 26) (by decide +kernel), List.mem_of_getElem? (i := 389) (by decide +kernel), List.mem_of_getElem? (i := 390) (by decide +kernel)⟩
theorem lw_p8 : lw_okq (⟨"WakeOrder$Reader", "readPerson", "(I)V"⟩, 7) := ⟨⟨by decide +kernel, by decide +kernel⟩, List.mem_of_getElem? (i := 26) (by decide +kernel), List.mem_of_getElem? (i := 393) (by decide +kernel), List.mem_of_getElem? (i := 394) (by decide +kernel)⟩
theorem lw_p9 : lw_okq (⟨"WakeOrder$Reader", "readJob", "(I)V"⟩, 7) := ⟨⟨by decide +kernel, by decide +kernel⟩, List.mem_of_getElem? (i := 26) (by decide +kernel), List.mem_of_getElem? (i := 401) (by decide +kernel), List.mem_of_getElem? (i := 402) (by decide +kernel)⟩
theorem lw_p10 : lw_okq (⟨"WakeOrder$Reader", "readWaiting", "()V"⟩, 7) := ⟨⟨by decide +kernel, by decide +kernel⟩, List.mem_of_getElem? (i := 26) (by decide +kernel), List.mem_of_getElem? (i := 409) (by decide +kernel), List.mem_of_getElem? (i := 410) (by decide +kernel)⟩
theorem lw_p11 : lw_okq (⟨"WakeOrder$Capital", "rouse", "(LWakeOrder$Row;I)I"⟩, 5) := ⟨⟨by decide +kernel, by decide +kernel⟩, List.mem_of_getElem? (i := 108) (by decide +kernel), List.mem_of_getElem? (i := 469) (by decide +kernel), List.mem_of_getElem? (i := 470) (by decide +kernel)⟩
theorem lw_p12 : lw_okq (⟨"WakeOrder$Capital", "wakesAt", "(I)I"⟩, 5) := ⟨⟨by decide +kernel, by decide +kernel⟩, List.mem_of_getElem? (i := 108) (by decide +kernel), List.mem_of_getElem? (i := 479) (by decide +kernel), List.mem_of_getElem? (i := 480) (by decide +kernel)⟩
theorem lw_p13 : lw_okq (⟨"WakeOrder$Capital", "inMorning", "(I)I"⟩, 5) := ⟨⟨by decide +kernel, by decide +kernel⟩, List.mem_of_getElem? (i := 108) (by decide +kernel), List.mem_of_getElem? (i := 490) (by decide +kernel), List.mem_of_getElem? (i := 491) (by decide +kernel)⟩
theorem lw_p14 : lw_okq (⟨"WakeOrder$Capital", "work", "()I"⟩, 5) := ⟨⟨by decide +kernel, by decide +kernel⟩, List.mem_of_getElem? (i := 108) (by decide +kernel), List.mem_of_getElem? (i := 494) (by decide +kernel), List.mem_of_getElem? (i := 495) (by decide +kernel)⟩
theorem lw_p15 : lw_okq (⟨"WakeOrder", "dismissedOnes", "()I"⟩, 10) := ⟨⟨by decide +kernel, by decide +kernel⟩, List.mem_of_getElem? (i := 18) (by decide +kernel), List.mem_of_getElem? (i := 499) (by decide +kernel), List.mem_of_getElem? (i := 500) (by decide +kernel)⟩
def lw_privs_1 : List (MethodName × Nat) := [(⟨"WakeOrder$Reader", "skipBlanks", "()V"⟩, 7), (⟨"WakeOrder$Reader", "letter", "()I"⟩, 7), (⟨"WakeOrder$Reader", "readClause", "()V"⟩, 7), (⟨"WakeOrder$Reader", "blame", "(II)V"⟩, 7), (⟨"WakeOrder$Reader", "readMorning", "(I)V"⟩, 7), (⟨"WakeOrder$Reader", "number", "(II)I"⟩, 7), (⟨"WakeOrder$Reader", "atFigure", "()Z"⟩, 7), (⟨"WakeOrder$Reader", "endClause", "()V"⟩, 7), (⟨"WakeOrder$Reader", "readPerson", "(I)V"⟩, 7), (⟨"WakeOrder$Reader", "readJob", "(I)V"⟩, 7), (⟨"WakeOrder$Reader", "readWaiting", "()V"⟩, 7), (⟨"WakeOrder$Capital", "rouse", "(LWakeOrder$Row;I)I"⟩, 5), (⟨"WakeOrder$Capital", "wakesAt", "(I)I"⟩, 5), (⟨"WakeOrder$Capital", "inMorning", "(I)I"⟩, 5), (⟨"WakeOrder$Capital", "work", "()I"⟩, 5), (⟨"WakeOrder", "dismissedOnes", "()I"⟩, 10)]
theorem lw_r1 : ∀ q ∈ lw_privs_1, lw_okq q := List.forall_mem_cons.mpr ⟨lw_p0, List.forall_mem_cons.mpr ⟨lw_p1, List.forall_mem_cons.mpr ⟨lw_p2, List.forall_mem_cons.mpr ⟨lw_p3, List.forall_mem_cons.mpr ⟨lw_p4, List.forall_mem_cons.mpr ⟨lw_p5, List.forall_mem_cons.mpr ⟨lw_p6, List.forall_mem_cons.mpr ⟨lw_p7, List.forall_mem_cons.mpr ⟨lw_p8, List.forall_mem_cons.mpr ⟨lw_p9, List.forall_mem_cons.mpr ⟨lw_p10, List.forall_mem_cons.mpr ⟨lw_p11, List.forall_mem_cons.mpr ⟨lw_p12, List.forall_mem_cons.mpr ⟨lw_p13, List.forall_mem_cons.mpr ⟨lw_p14, List.forall_mem_cons.mpr ⟨lw_p15, fun _ h => absurd h List.not_mem_nil⟩⟩⟩⟩⟩⟩⟩⟩⟩⟩⟩⟩⟩⟩⟩⟩
theorem lw_p16 : lw_okq (⟨"WakeOrder", "isPerson", "(I)Z"⟩, 10) := ⟨⟨by decide +kernel, by decide +kernel⟩, List.mem_of_getElem? (i := 18) (by decide +kernel), List.mem_of_getElem? (i := 520) (by decide +kernel), List.mem_of_getElem? (i := 521) (by decide +kernel)⟩
theorem lw_p17 : lw_okq (⟨"WakeOrder", "jobsOf", "(I)I"⟩, 10) := ⟨⟨by decide +kernel, by decide +kernel⟩, List.mem_of_getElem? (i := 18) (by decide +kernel), List.mem_of_getElem? (i := 529) (by decide +kernel), List.mem_of_getElem? (i := 530) (by decide +kernel)⟩
theorem lw_p18 : lw_okq (⟨"WakeOrder", "isJob", "(I)Z"⟩, 10) := ⟨⟨by decide +kernel, by decide +kernel⟩, List.mem_of_getElem? (i := 18) (by decide +kernel), List.mem_of_getElem? (i := 537) (by decide +kernel), List.mem_of_getElem? (i := 538) (by decide +kernel)⟩
theorem lw_p19 : lw_okq (⟨"WakeOrder", "drawMorning", "()V"⟩, 10) := ⟨⟨by decide +kernel, by decide +kernel⟩, List.mem_of_getElem? (i := 18) (by decide +kernel), List.mem_of_getElem? (i := 593) (by decide +kernel), List.mem_of_getElem? (i := 594) (by decide +kernel)⟩
theorem lw_p20 : lw_okq (⟨"WakeOrder", "drawBelow", "(I)I"⟩, 10) := ⟨⟨by decide +kernel, by decide +kernel⟩, List.mem_of_getElem? (i := 18) (by decide +kernel), List.mem_of_getElem? (i := 597) (by decide +kernel), List.mem_of_getElem? (i := 598) (by decide +kernel)⟩
theorem lw_p21 : lw_okq (⟨"WakeOrder$Trials", "trialDoes", "(LWakeOrder$Capital;II)Z"⟩, 5) := ⟨⟨by decide +kernel, by decide +kernel⟩, List.mem_of_getElem? (i := 231) (by decide +kernel), List.mem_of_getElem? (i := 628) (by decide +kernel), List.mem_of_getElem? (i := 629) (by decide +kernel)⟩
theorem lw_p22 : lw_okq (⟨"WakeOrder$Row", "swap", "(II)V"⟩, 2) := ⟨⟨by decide +kernel, by decide +kernel⟩, List.mem_of_getElem? (i := 122) (by decide +kernel), List.mem_of_getElem? (i := 642) (by decide +kernel), List.mem_of_getElem? (i := 643) (by decide +kernel)⟩
theorem lw_p23 : lw_okq (⟨"WakeOrder$Trials", "nobodyStuckWithout", "(LWakeOrder$Capital;I)Z"⟩, 5) := ⟨⟨by decide +kernel, by decide +kernel⟩, List.mem_of_getElem? (i := 231) (by decide +kernel), List.mem_of_getElem? (i := 686) (by decide +kernel), List.mem_of_getElem? (i := 687) (by decide +kernel)⟩
theorem lw_p24 : lw_okq (⟨"WakeOrder$Windows", "fits", "(LWakeOrder$Capital;)Z"⟩, 7) := ⟨⟨by decide +kernel, by decide +kernel⟩, List.mem_of_getElem? (i := 259) (by decide +kernel), List.mem_of_getElem? (i := 718) (by decide +kernel), List.mem_of_getElem? (i := 719) (by decide +kernel)⟩
theorem lw_p25 : lw_okq (⟨"WakeOrder$Windows", "countTrial", "(LWakeOrder$Capital;)V"⟩, 7) := ⟨⟨by decide +kernel, by decide +kernel⟩, List.mem_of_getElem? (i := 259) (by decide +kernel), List.mem_of_getElem? (i := 726) (by decide +kernel), List.mem_of_getElem? (i := 727) (by decide +kernel)⟩
theorem lw_p26 : lw_okq (⟨"WakeOrderModel", "here", "()I"⟩, 40) := ⟨⟨by decide +kernel, by decide +kernel⟩, List.mem_of_getElem? (i := 788) (by decide +kernel), List.mem_of_getElem? (i := 929) (by decide +kernel), List.mem_of_getElem? (i := 930) (by decide +kernel)⟩
theorem lw_p27 : lw_okq (⟨"WakeOrderModel", "takeClause", "()I"⟩, 40) := ⟨⟨by decide +kernel, by decide +kernel⟩, List.mem_of_getElem? (i := 788) (by decide +kernel), List.mem_of_getElem? (i := 933) (by decide +kernel), List.mem_of_getElem? (i := 934) (by decide +kernel)⟩
theorem lw_p28 : lw_okq (⟨"WakeOrderModel", "fails", "(II)I"⟩, 40) := ⟨⟨by decide +kernel, by decide +kernel⟩, List.mem_of_getElem? (i := 788) (by decide +kernel), List.mem_of_getElem? (i := 937) (by decide +kernel), List.mem_of_getElem? (i := 938) (by decide +kernel)⟩
theorem lw_p29 : lw_okq (⟨"WakeOrderModel", "into", "([IIII)I"⟩, 40) := ⟨⟨by decide +kernel, by decide +kernel⟩, List.mem_of_getElem? (i := 788) (by decide +kernel), List.mem_of_getElem? (i := 941) (by decide +kernel), List.mem_of_getElem? (i := 942) (by decide +kernel)⟩
theorem lw_p30 : lw_okq (⟨"WakeOrderModel", "takeNumber", "(II)I"⟩, 40) := ⟨⟨by decide +kernel, by decide +kernel⟩, List.mem_of_getElem? (i := 788) (by decide +kernel), List.mem_of_getElem? (i := 945) (by decide +kernel), List.mem_of_getElem? (i := 946) (by decide +kernel)⟩
theorem lw_p31 : lw_okq (⟨"WakeOrderModel", "takePerson", "()I"⟩, 40) := ⟨⟨by decide +kernel, by decide +kernel⟩, List.mem_of_getElem? (i := 788) (by decide +kernel), List.mem_of_getElem? (i := 951) (by decide +kernel), List.mem_of_getElem? (i := 952) (by decide +kernel)⟩
def lw_privs_2 : List (MethodName × Nat) := [(⟨"WakeOrder", "isPerson", "(I)Z"⟩, 10), (⟨"WakeOrder", "jobsOf", "(I)I"⟩, 10), (⟨"WakeOrder", "isJob", "(I)Z"⟩, 10), (⟨"WakeOrder", "drawMorning", "()V"⟩, 10), (⟨"WakeOrder", "drawBelow", "(I)I"⟩, 10), (⟨"WakeOrder$Trials", "trialDoes", "(LWakeOrder$Capital;II)Z"⟩, 5), (⟨"WakeOrder$Row", "swap", "(II)V"⟩, 2), (⟨"WakeOrder$Trials", "nobodyStuckWithout", "(LWakeOrder$Capital;I)Z"⟩, 5), (⟨"WakeOrder$Windows", "fits", "(LWakeOrder$Capital;)Z"⟩, 7), (⟨"WakeOrder$Windows", "countTrial", "(LWakeOrder$Capital;)V"⟩, 7), (⟨"WakeOrderModel", "here", "()I"⟩, 40), (⟨"WakeOrderModel", "takeClause", "()I"⟩, 40), (⟨"WakeOrderModel", "fails", "(II)I"⟩, 40), (⟨"WakeOrderModel", "into", "([IIII)I"⟩, 40), (⟨"WakeOrderModel", "takeNumber", "(II)I"⟩, 40), (⟨"WakeOrderModel", "takePerson", "()I"⟩, 40)]
theorem lw_r2 : ∀ q ∈ lw_privs_2, lw_okq q := List.forall_mem_cons.mpr ⟨lw_p16, List.forall_mem_cons.mpr ⟨lw_p17, List.forall_mem_cons.mpr ⟨lw_p18, List.forall_mem_cons.mpr ⟨lw_p19, List.forall_mem_cons.mpr ⟨lw_p20, List.forall_mem_cons.mpr ⟨lw_p21, List.forall_mem_cons.mpr ⟨lw_p22, List.forall_mem_cons.mpr ⟨lw_p23, List.forall_mem_cons.mpr ⟨lw_p24, List.forall_mem_cons.mpr ⟨lw_p25, List.forall_mem_cons.mpr ⟨lw_p26, List.forall_mem_cons.mpr ⟨lw_p27, List.forall_mem_cons.mpr ⟨lw_p28, List.forall_mem_cons.mpr ⟨lw_p29, List.forall_mem_cons.mpr ⟨lw_p30, List.forall_mem_cons.mpr ⟨lw_p31, fun _ h => absurd h List.not_mem_nil⟩⟩⟩⟩⟩⟩⟩⟩⟩⟩⟩⟩⟩⟩⟩⟩
theorem lw_p32 : lw_okq (⟨"WakeOrderModel", "takeJob", "()I"⟩, 40) := ⟨⟨by decide +kernel, by decide +kernel⟩, List.mem_of_getElem? (i := 788) (by decide +kernel), List.mem_of_getElem? (i := 955) (by decide +kernel), List.mem_of_getElem? (i := 956) (by decide +kernel)⟩
theorem lw_p33 : lw_okq (⟨"WakeOrderModel", "takeWait", "()I"⟩, 40) := ⟨⟨by decide +kernel, by decide +kernel⟩, List.mem_of_getElem? (i := 788) (by decide +kernel), List.mem_of_getElem? (i := 959) (by decide +kernel), List.mem_of_getElem? (i := 960) (by decide +kernel)⟩
theorem lw_p34 : lw_okq (⟨"WakeOrderModel", "takeRead", "()V"⟩, 40) := ⟨⟨by decide +kernel, by decide +kernel⟩, List.mem_of_getElem? (i := 788) (by decide +kernel), List.mem_of_getElem? (i := 963) (by decide +kernel), List.mem_of_getElem? (i := 964) (by decide +kernel)⟩
theorem lw_p35 : lw_okq (⟨"WakeOrderModel", "settle", "()V"⟩, 40) := ⟨⟨by decide +kernel, by decide +kernel⟩, List.mem_of_getElem? (i := 788) (by decide +kernel), List.mem_of_getElem? (i := 975) (by decide +kernel), List.mem_of_getElem? (i := 976) (by decide +kernel)⟩
theorem lw_p36 : lw_okq (⟨"WakeOrderModel", "settleUps", "()Z"⟩, 40) := ⟨⟨by decide +kernel, by decide +kernel⟩, List.mem_of_getElem? (i := 788) (by decide +kernel), List.mem_of_getElem? (i := 980) (by decide +kernel), List.mem_of_getElem? (i := 981) (by decide +kernel)⟩
theorem lw_p37 : lw_okq (⟨"WakeOrderModel", "inTime", "(I)I"⟩, 40) := ⟨⟨by decide +kernel, by decide +kernel⟩, List.mem_of_getElem? (i := 788) (by decide +kernel), List.mem_of_getElem? (i := 990) (by decide +kernel), List.mem_of_getElem? (i := 991) (by decide +kernel)⟩
theorem lw_p38 : lw_okq (⟨"WakeOrderModel", "settleJobs", "()Z"⟩, 40) := ⟨⟨by decide +kernel, by decide +kernel⟩, List.mem_of_getElem? (i := 788) (by decide +kernel), List.mem_of_getElem? (i := 994) (by decide +kernel), List.mem_of_getElem? (i := 995) (by decide +kernel)⟩
theorem lw_p39 : lw_okq (⟨"WakeOrderModel", "stuckSet", "()I"⟩, 40) := ⟨⟨by decide +kernel, by decide +kernel⟩, List.mem_of_getElem? (i := 788) (by decide +kernel), List.mem_of_getElem? (i := 998) (by decide +kernel), List.mem_of_getElem? (i := 999) (by decide +kernel)⟩
theorem lw_p40 : lw_okq (⟨"WakeOrderModel", "undoneSet", "()I"⟩, 40) := ⟨⟨by decide +kernel, by decide +kernel⟩, List.mem_of_getElem? (i := 788) (by decide +kernel), List.mem_of_getElem? (i := 1002) (by decide +kernel), List.mem_of_getElem? (i := 1003) (by decide +kernel)⟩
theorem lw_p41 : lw_okq (⟨"WakeOrderModel", "isPerson", "(I)Z"⟩, 40) := ⟨⟨by decide +kernel, by decide +kernel⟩, List.mem_of_getElem? (i := 788) (by decide +kernel), List.mem_of_getElem? (i := 1010) (by decide +kernel), List.mem_of_getElem? (i := 1011) (by decide +kernel)⟩
theorem lw_p42 : lw_okq (⟨"WakeOrderModel", "placeOf", "(I)I"⟩, 40) := ⟨⟨by decide +kernel, by decide +kernel⟩, List.mem_of_getElem? (i := 788) (by decide +kernel), List.mem_of_getElem? (i := 1015) (by decide +kernel), List.mem_of_getElem? (i := 1016) (by decide +kernel)⟩
theorem lw_p43 : lw_okq (⟨"WakeOrderModel", "manyOf", "(I)I"⟩, 40) := ⟨⟨by decide +kernel, by decide +kernel⟩, List.mem_of_getElem? (i := 788) (by decide +kernel), List.mem_of_getElem? (i := 1019) (by decide +kernel), List.mem_of_getElem? (i := 1020) (by decide +kernel)⟩
theorem lw_p44 : lw_okq (⟨"WakeOrderModel", "isJob", "(I)Z"⟩, 40) := ⟨⟨by decide +kernel, by decide +kernel⟩, List.mem_of_getElem? (i := 788) (by decide +kernel), List.mem_of_getElem? (i := 1027) (by decide +kernel), List.mem_of_getElem? (i := 1028) (by decide +kernel)⟩
theorem lw_p45 : lw_okq (⟨"WakeOrderModel", "remember", "()V"⟩, 40) := ⟨⟨by decide +kernel, by decide +kernel⟩, List.mem_of_getElem? (i := 788) (by decide +kernel), List.mem_of_getElem? (i := 1040) (by decide +kernel), List.mem_of_getElem? (i := 1041) (by decide +kernel)⟩
theorem lw_p46 : lw_okq (⟨"WakeOrderModel", "takeOut", "(I)V"⟩, 40) := ⟨⟨by decide +kernel, by decide +kernel⟩, List.mem_of_getElem? (i := 788) (by decide +kernel), List.mem_of_getElem? (i := 1044) (by decide +kernel), List.mem_of_getElem? (i := 1045) (by decide +kernel)⟩
theorem lw_p47 : lw_okq (⟨"WakeOrderModel", "putIn", "(II)V"⟩, 40) := ⟨⟨by decide +kernel, by decide +kernel⟩, List.mem_of_getElem? (i := 788) (by decide +kernel), List.mem_of_getElem? (i := 1048) (by decide +kernel), List.mem_of_getElem? (i := 1049) (by decide +kernel)⟩
def lw_privs_3 : List (MethodName × Nat) := [(⟨"WakeOrderModel", "takeJob", "()I"⟩, 40), (⟨"WakeOrderModel", "takeWait", "()I"⟩, 40), (⟨"WakeOrderModel", "takeRead", "()V"⟩, 40), (⟨"WakeOrderModel", "settle", "()V"⟩, 40), (⟨"WakeOrderModel", "settleUps", "()Z"⟩, 40), (⟨"WakeOrderModel", "inTime", "(I)I"⟩, 40), (⟨"WakeOrderModel", "settleJobs", "()Z"⟩, 40), (⟨"WakeOrderModel", "stuckSet", "()I"⟩, 40), (⟨"WakeOrderModel", "undoneSet", "()I"⟩, 40), (⟨"WakeOrderModel", "isPerson", "(I)Z"⟩, 40), (⟨"WakeOrderModel", "placeOf", "(I)I"⟩, 40), (⟨"WakeOrderModel", "manyOf", "(I)I"⟩, 40), (⟨"WakeOrderModel", "isJob", "(I)Z"⟩, 40), (⟨"WakeOrderModel", "remember", "()V"⟩, 40), (⟨"WakeOrderModel", "takeOut", "(I)V"⟩, 40), (⟨"WakeOrderModel", "putIn", "(II)V"⟩, 40)]
theorem lw_r3 : ∀ q ∈ lw_privs_3, lw_okq q := List.forall_mem_cons.mpr ⟨lw_p32, List.forall_mem_cons.mpr ⟨lw_p33, List.forall_mem_cons.mpr ⟨lw_p34, List.forall_mem_cons.mpr ⟨lw_p35, List.forall_mem_cons.mpr ⟨lw_p36, List.forall_mem_cons.mpr ⟨lw_p37, List.forall_mem_cons.mpr ⟨lw_p38, List.forall_mem_cons.mpr ⟨lw_p39, List.forall_mem_cons.mpr ⟨lw_p40, List.forall_mem_cons.mpr ⟨lw_p41, List.forall_mem_cons.mpr ⟨lw_p42, List.forall_mem_cons.mpr ⟨lw_p43, List.forall_mem_cons.mpr ⟨lw_p44, List.forall_mem_cons.mpr ⟨lw_p45, List.forall_mem_cons.mpr ⟨lw_p46, List.forall_mem_cons.mpr ⟨lw_p47, fun _ h => absurd h List.not_mem_nil⟩⟩⟩⟩⟩⟩⟩⟩⟩⟩⟩⟩⟩⟩⟩⟩
theorem lw_p48 : lw_okq (⟨"WakeOrderModel", "dismissNow", "(I)V"⟩, 40) := ⟨⟨by decide +kernel, by decide +kernel⟩, List.mem_of_getElem? (i := 788) (by decide +kernel), List.mem_of_getElem? (i := 1064) (by decide +kernel), List.mem_of_getElem? (i := 1065) (by decide +kernel)⟩
theorem lw_p49 : lw_okq (⟨"WakeOrderModel", "draw", "(I)I"⟩, 40) := ⟨⟨by decide +kernel, by decide +kernel⟩, List.mem_of_getElem? (i := 788) (by decide +kernel), List.mem_of_getElem? (i := 1078) (by decide +kernel), List.mem_of_getElem? (i := 1079) (by decide +kernel)⟩
theorem lw_p50 : lw_okq (⟨"WakeOrderModel", "findRaise", "(II)V"⟩, 40) := ⟨⟨by decide +kernel, by decide +kernel⟩, List.mem_of_getElem? (i := 788) (by decide +kernel), List.mem_of_getElem? (i := 1094) (by decide +kernel), List.mem_of_getElem? (i := 1095) (by decide +kernel)⟩
theorem lw_p51 : lw_okq (⟨"WakeOrderModel", "save", "()V"⟩, 40) := ⟨⟨by decide +kernel, by decide +kernel⟩, List.mem_of_getElem? (i := 788) (by decide +kernel), List.mem_of_getElem? (i := 1098) (by decide +kernel), List.mem_of_getElem? (i := 1099) (by decide +kernel)⟩
theorem lw_p52 : lw_okq (⟨"WakeOrderModel", "firstOrder", "()V"⟩, 40) := ⟨⟨by decide +kernel, by decide +kernel⟩, List.mem_of_getElem? (i := 788) (by decide +kernel), List.mem_of_getElem? (i := 1102) (by decide +kernel), List.mem_of_getElem? (i := 1103) (by decide +kernel)⟩
theorem lw_p53 : lw_okq (⟨"WakeOrderModel", "nearer", "()I"⟩, 40) := ⟨⟨by decide +kernel, by decide +kernel⟩, List.mem_of_getElem? (i := 788) (by decide +kernel), List.mem_of_getElem? (i := 1106) (by decide +kernel), List.mem_of_getElem? (i := 1107) (by decide +kernel)⟩
theorem lw_p54 : lw_okq (⟨"WakeOrderModel", "wasPlace", "(I)I"⟩, 40) := ⟨⟨by decide +kernel, by decide +kernel⟩, List.mem_of_getElem? (i := 788) (by decide +kernel), List.mem_of_getElem? (i := 1110) (by decide +kernel), List.mem_of_getElem? (i := 1111) (by decide +kernel)⟩
theorem lw_p55 : lw_okq (⟨"WakeOrderModel", "areDone", "(II)Z"⟩, 40) := ⟨⟨by decide +kernel, by decide +kernel⟩, List.mem_of_getElem? (i := 788) (by decide +kernel), List.mem_of_getElem? (i := 1114) (by decide +kernel), List.mem_of_getElem? (i := 1115) (by decide +kernel)⟩
theorem lw_p56 : lw_okq (⟨"WakeOrderModel", "nextOrder", "()Z"⟩, 40) := ⟨⟨by decide +kernel, by decide +kernel⟩, List.mem_of_getElem? (i := 788) (by decide +kernel), List.mem_of_getElem? (i := 1118) (by decide +kernel), List.mem_of_getElem? (i := 1119) (by decide +kernel)⟩
theorem lw_p57 : lw_okq (⟨"WakeOrderModel", "swap", "(II)V"⟩, 40) := ⟨⟨by decide +kernel, by decide +kernel⟩, List.mem_of_getElem? (i := 788) (by decide +kernel), List.mem_of_getElem? (i := 1122) (by decide +kernel), List.mem_of_getElem? (i := 1123) (by decide +kernel)⟩
theorem lw_p58 : lw_okq (⟨"WakeOrderModel", "putBack", "()V"⟩, 40) := ⟨⟨by decide +kernel, by decide +kernel⟩, List.mem_of_getElem? (i := 788) (by decide +kernel), List.mem_of_getElem? (i := 1126) (by decide +kernel), List.mem_of_getElem? (i := 1127) (by decide +kernel)⟩
theorem lw_p59 : lw_okq (⟨"WakeOrderModel", "allUpsBut", "(I)I"⟩, 40) := ⟨⟨by decide +kernel, by decide +kernel⟩, List.mem_of_getElem? (i := 788) (by decide +kernel), List.mem_of_getElem? (i := 1134) (by decide +kernel), List.mem_of_getElem? (i := 1135) (by decide +kernel)⟩
theorem lw_p60 : lw_okq (⟨"WakeOrderModel", "doneOrLast", "(I)I"⟩, 40) := ⟨⟨by decide +kernel, by decide +kernel⟩, List.mem_of_getElem? (i := 788) (by decide +kernel), List.mem_of_getElem? (i := 1142) (by decide +kernel), List.mem_of_getElem? (i := 1143) (by decide +kernel)⟩
theorem lw_p61 : lw_okq (⟨"WakeOrderModel", "findOrders", "()V"⟩, 40) := ⟨⟨by decide +kernel, by decide +kernel⟩, List.mem_of_getElem? (i := 788) (by decide +kernel), List.mem_of_getElem? (i := 1168) (by decide +kernel), List.mem_of_getElem? (i := 1169) (by decide +kernel)⟩
theorem lw_p62 : lw_okq (⟨"WakeOrderModel", "allSeen", "()Z"⟩, 40) := ⟨⟨by decide +kernel, by decide +kernel⟩, List.mem_of_getElem? (i := 788) (by decide +kernel), List.mem_of_getElem? (i := 1172) (by decide +kernel), List.mem_of_getElem? (i := 1173) (by decide +kernel)⟩
theorem lw_p63 : lw_okq (⟨"WakeOrderModel", "countOrder", "()V"⟩, 40) := ⟨⟨by decide +kernel, by decide +kernel⟩, List.mem_of_getElem? (i := 788) (by decide +kernel), List.mem_of_getElem? (i := 1176) (by decide +kernel), List.mem_of_getElem? (i := 1177) (by decide +kernel)⟩
def lw_privs_4 : List (MethodName × Nat) := [(⟨"WakeOrderModel", "dismissNow", "(I)V"⟩, 40), (⟨"WakeOrderModel", "draw", "(I)I"⟩, 40), (⟨"WakeOrderModel", "findRaise", "(II)V"⟩, 40), (⟨"WakeOrderModel", "save", "()V"⟩, 40), (⟨"WakeOrderModel", "firstOrder", "()V"⟩, 40), (⟨"WakeOrderModel", "nearer", "()I"⟩, 40), (⟨"WakeOrderModel", "wasPlace", "(I)I"⟩, 40), (⟨"WakeOrderModel", "areDone", "(II)Z"⟩, 40), (⟨"WakeOrderModel", "nextOrder", "()Z"⟩, 40), (⟨"WakeOrderModel", "swap", "(II)V"⟩, 40), (⟨"WakeOrderModel", "putBack", "()V"⟩, 40), (⟨"WakeOrderModel", "allUpsBut", "(I)I"⟩, 40), (⟨"WakeOrderModel", "doneOrLast", "(I)I"⟩, 40), (⟨"WakeOrderModel", "findOrders", "()V"⟩, 40), (⟨"WakeOrderModel", "allSeen", "()Z"⟩, 40), (⟨"WakeOrderModel", "countOrder", "()V"⟩, 40)]
theorem lw_r4 : ∀ q ∈ lw_privs_4, lw_okq q := List.forall_mem_cons.mpr ⟨lw_p48, List.forall_mem_cons.mpr ⟨lw_p49, List.forall_mem_cons.mpr ⟨lw_p50, List.forall_mem_cons.mpr ⟨lw_p51, List.forall_mem_cons.mpr ⟨lw_p52, List.forall_mem_cons.mpr ⟨lw_p53, List.forall_mem_cons.mpr ⟨lw_p54, List.forall_mem_cons.mpr ⟨lw_p55, List.forall_mem_cons.mpr ⟨lw_p56, List.forall_mem_cons.mpr ⟨lw_p57, List.forall_mem_cons.mpr ⟨lw_p58, List.forall_mem_cons.mpr ⟨lw_p59, List.forall_mem_cons.mpr ⟨lw_p60, List.forall_mem_cons.mpr ⟨lw_p61, List.forall_mem_cons.mpr ⟨lw_p62, List.forall_mem_cons.mpr ⟨lw_p63, fun _ h => absurd h List.not_mem_nil⟩⟩⟩⟩⟩⟩⟩⟩⟩⟩⟩⟩⟩⟩⟩⟩
def lw_privs : List (MethodName × Nat) := lw_privs_1 ++ (lw_privs_2 ++ (lw_privs_3 ++ (lw_privs_4)))
def lw_tbl : List Cond := k2_sels lw_privs ++ tables_1
theorem lw_privs_ok : ∀ q ∈ lw_privs, lw_okq q := by
  show ∀ q ∈ lw_privs_1 ++ (lw_privs_2 ++ (lw_privs_3 ++ (lw_privs_4))), lw_okq q
  exact List.forall_mem_append.mpr ⟨lw_r1, List.forall_mem_append.mpr ⟨lw_r2, List.forall_mem_append.mpr ⟨lw_r3, lw_r4⟩⟩⟩
def RX0 : String := "WakeOrder$Book"
def TX0 : u_T := fun k => match k with
  | 0 => ("WakeOrder$Book", "jobs", "[I", true)
  | 1 => ("WakeOrder$Book", "minutes", "[I", true)
  | _ => ("WakeOrder$Book", "count", "I", false)
def tyX0 : Nat → FieldType := fun k => match k with
  | 0 => .array .int
  | 1 => .array .int
  | _ => .int
theorem nmX0 : ∀ a, a < 3 → ∀ b, b < 3 → a ≠ b → (TX0 a).2.1 ≠ (TX0 b).2.1 := by decide +kernel
theorem tyX0_ok : ∀ k, k < 3 → parseFieldDescriptor (TX0 k).2.2.1 = some (tyX0 k) := by decide +kernel
abbrev cX0_init : ByteArray := prog_2_method_1_code
def yX0_init : MethodName := ⟨RX0, "<init>", "()V"⟩
abbrev cX0_append : ByteArray := prog_2_method_2_code
def yX0_append : MethodName := ⟨RX0, "append", "(II)Z"⟩
abbrev cX0_firstWrong : ByteArray := prog_2_method_3_code
def yX0_firstWrong : MethodName := ⟨RX0, "firstWrong", "(LWakeOrder$Capital;)I"⟩
def RX1 : String := "WakeOrder$Capital"
def TX1 : u_T := fun k => match k with
  | 0 => ("WakeOrder$Capital", "city", "LWakeOrder$City;", true)
  | 1 => ("WakeOrder$Capital", "now", "LWakeOrder$State;", true)
  | 2 => ("WakeOrder$Capital", "up", "[I", true)
  | 3 => ("WakeOrder$Capital", "done", "[I", true)
  | _ => ("WakeOrder$Capital", "idleFrom", "[I", true)
def tyX1 : Nat → FieldType := fun k => match k with
  | 0 => .object "WakeOrder$City"
  | 1 => .object "WakeOrder$State"
  | 2 => .array .int
  | 3 => .array .int
  | _ => .array .int
theorem nmX1 : ∀ a, a < 5 → ∀ b, b < 5 → a ≠ b → (TX1 a).2.1 ≠ (TX1 b).2.1 := by decide +kernel
theorem tyX1_ok : ∀ k, k < 5 → parseFieldDescriptor (TX1 k).2.2.1 = some (tyX1 k) := by decide +kernel
abbrev cX1_init : ByteArray := prog_3_method_1_code
def yX1_init : MethodName := ⟨RX1, "<init>", "()V"⟩
abbrev cX1_reckonNow : ByteArray := prog_3_method_2_code
def yX1_reckonNow : MethodName := ⟨RX1, "reckonNow", "()V"⟩
abbrev cX1_reckon : ByteArray := prog_3_method_3_code
def yX1_reckon : MethodName := ⟨RX1, "reckon", "(LWakeOrder$Row;I)V"⟩
abbrev cX1_rouse : ByteArray := prog_3_method_4_code
def yX1_rouse : MethodName := ⟨RX1, "rouse", "(LWakeOrder$Row;I)I"⟩
abbrev cX1_wakesAt : ByteArray := prog_3_method_5_code
def yX1_wakesAt : MethodName := ⟨RX1, "wakesAt", "(I)I"⟩
abbrev cX1_work : ByteArray := prog_3_method_6_code
def yX1_work : MethodName := ⟨RX1, "work", "()I"⟩
abbrev cX1_inMorning : ByteArray := prog_3_method_7_code
def yX1_inMorning : MethodName := ⟨RX1, "inMorning", "(I)I"⟩
abbrev cX1_orMorningsEnd : ByteArray := prog_3_method_8_code
def yX1_orMorningsEnd : MethodName := ⟨RX1, "orMorningsEnd", "(I)I"⟩
abbrev cX1_stuckIn : ByteArray := prog_3_method_9_code
def yX1_stuckIn : MethodName := ⟨RX1, "stuckIn", "(LWakeOrder$Row;)I"⟩
abbrev cX1_undoneJobs : ByteArray := prog_3_method_10_code
def yX1_undoneJobs : MethodName := ⟨RX1, "undoneJobs", "()I"⟩
abbrev cX1_isEarlier : ByteArray := prog_3_method_11_code
def yX1_isEarlier : MethodName := ⟨RX1, "isEarlier", "(II)Z"⟩
abbrev cX1_allDoneBy : ByteArray := prog_3_method_12_code
def yX1_allDoneBy : MethodName := ⟨RX1, "allDoneBy", "(II)Z"⟩
abbrev cX1_upOfOthers : ByteArray := prog_3_method_13_code
def yX1_upOfOthers : MethodName := ⟨RX1, "upOfOthers", "(LWakeOrder$Row;I)I"⟩
def RX2 : String := "WakeOrder$City"
def TX2 : u_T := fun k => match k with
  | 0 => ("WakeOrder$City", "minutes", "I", false)
  | 1 => ("WakeOrder$City", "persons", "I", false)
  | 2 => ("WakeOrder$City", "jobs", "I", false)
  | 3 => ("WakeOrder$City", "wakes", "[I", true)
  | 4 => ("WakeOrder$City", "waitsFor", "[I", true)
  | 5 => ("WakeOrder$City", "doer", "[I", true)
  | 6 => ("WakeOrder$City", "takes", "[I", true)
  | _ => ("WakeOrder$City", "behind", "[I", true)
def tyX2 : Nat → FieldType := fun k => match k with
  | 0 => .int
  | 1 => .int
  | 2 => .int
  | 3 => .array .int
  | 4 => .array .int
  | 5 => .array .int
  | 6 => .array .int
  | _ => .array .int
theorem nmX2 : ∀ a, a < 8 → ∀ b, b < 8 → a ≠ b → (TX2 a).2.1 ≠ (TX2 b).2.1 := by decide +kernel
theorem tyX2_ok : ∀ k, k < 8 → parseFieldDescriptor (TX2 k).2.2.1 = some (tyX2 k) := by decide +kernel
abbrev cX2_init : ByteArray := prog_4_method_1_code
def yX2_init : MethodName := ⟨RX2, "<init>", "()V"⟩
abbrev cX2_clear : ByteArray := prog_4_method_2_code
def yX2_clear : MethodName := ⟨RX2, "clear", "()V"⟩
abbrev cX2_become : ByteArray := prog_4_method_3_code
def yX2_become : MethodName := ⟨RX2, "become", "(LWakeOrder$City;)V"⟩
abbrev cX2_addPerson : ByteArray := prog_4_method_4_code
def yX2_addPerson : MethodName := ⟨RX2, "addPerson", "(I)V"⟩
abbrev cX2_addJob : ByteArray := prog_4_method_5_code
def yX2_addJob : MethodName := ⟨RX2, "addJob", "(III)V"⟩
def RX3 : String := "WakeOrder$History"
def TX3 : u_T := fun k => match k with
  | 0 => ("WakeOrder$History", "past", "[LWakeOrder$State;", true)
  | 1 => ("WakeOrder$History", "next", "I", false)
  | _ => ("WakeOrder$History", "count", "I", false)
def tyX3 : Nat → FieldType := fun k => match k with
  | 0 => .array (.object "WakeOrder$State")
  | 1 => .int
  | _ => .int
theorem nmX3 : ∀ a, a < 3 → ∀ b, b < 3 → a ≠ b → (TX3 a).2.1 ≠ (TX3 b).2.1 := by decide +kernel
theorem tyX3_ok : ∀ k, k < 3 → parseFieldDescriptor (TX3 k).2.2.1 = some (tyX3 k) := by decide +kernel
abbrev cX3_init : ByteArray := prog_5_method_1_code
def yX3_init : MethodName := ⟨RX3, "<init>", "()V"⟩
abbrev cX3_remember : ByteArray := prog_5_method_2_code
def yX3_remember : MethodName := ⟨RX3, "remember", "(LWakeOrder$State;)V"⟩
abbrev cX3_takeBack : ByteArray := prog_5_method_3_code
def yX3_takeBack : MethodName := ⟨RX3, "takeBack", "(LWakeOrder$State;)Z"⟩
abbrev cX3_forget : ByteArray := prog_5_method_4_code
def yX3_forget : MethodName := ⟨RX3, "forget", "()V"⟩
def RX4 : String := "WakeOrder$Images"
def TX4 : u_T := fun k => match k with
  | 0 => ("WakeOrder$Images", "states", "[LWakeOrder$State;", true)
  | 1 => ("WakeOrder$Images", "seeds", "[I", true)
  | _ => ("WakeOrder$Images", "kept", "[Z", true)
def tyX4 : Nat → FieldType := fun k => match k with
  | 0 => .array (.object "WakeOrder$State")
  | 1 => .array .int
  | _ => .array .boolean
theorem nmX4 : ∀ a, a < 3 → ∀ b, b < 3 → a ≠ b → (TX4 a).2.1 ≠ (TX4 b).2.1 := by decide +kernel
theorem tyX4_ok : ∀ k, k < 3 → parseFieldDescriptor (TX4 k).2.2.1 = some (tyX4 k) := by decide +kernel
abbrev cX4_init : ByteArray := prog_6_method_1_code
def yX4_init : MethodName := ⟨RX4, "<init>", "()V"⟩
abbrev cX4_store : ByteArray := prog_6_method_2_code
def yX4_store : MethodName := ⟨RX4, "store", "(ILWakeOrder$State;I)V"⟩
abbrev cX4_restore : ByteArray := prog_6_method_3_code
def yX4_restore : MethodName := ⟨RX4, "restore", "(ILWakeOrder$State;)V"⟩
abbrev cX4_forget : ByteArray := prog_6_method_4_code
def yX4_forget : MethodName := ⟨RX4, "forget", "()V"⟩
def RX5 : String := "WakeOrder$Reader"
def TX5 : u_T := fun k => match k with
  | 0 => ("WakeOrder$Reader", "text", "[I", true)
  | 1 => ("WakeOrder$Reader", "draft", "LWakeOrder$City;", true)
  | 2 => ("WakeOrder$Reader", "length", "I", false)
  | 3 => ("WakeOrder$Reader", "trouble", "I", false)
  | 4 => ("WakeOrder$Reader", "place", "I", false)
  | 5 => ("WakeOrder$Reader", "at", "I", false)
  | _ => ("WakeOrder$Reader", "numberAt", "I", false)
def tyX5 : Nat → FieldType := fun k => match k with
  | 0 => .array .int
  | 1 => .object "WakeOrder$City"
  | 2 => .int
  | 3 => .int
  | 4 => .int
  | 5 => .int
  | _ => .int
theorem nmX5 : ∀ a, a < 7 → ∀ b, b < 7 → a ≠ b → (TX5 a).2.1 ≠ (TX5 b).2.1 := by decide +kernel
theorem tyX5_ok : ∀ k, k < 7 → parseFieldDescriptor (TX5 k).2.2.1 = some (tyX5 k) := by decide +kernel
abbrev cX5_init : ByteArray := prog_7_method_1_code
def yX5_init : MethodName := ⟨RX5, "<init>", "()V"⟩
abbrev cX5_append : ByteArray := prog_7_method_2_code
def yX5_append : MethodName := ⟨RX5, "append", "(I)Z"⟩
abbrev cX5_readText : ByteArray := prog_7_method_3_code
def yX5_readText : MethodName := ⟨RX5, "readText", "()V"⟩
abbrev cX5_readClause : ByteArray := prog_7_method_4_code
def yX5_readClause : MethodName := ⟨RX5, "readClause", "()V"⟩
abbrev cX5_readMorning : ByteArray := prog_7_method_5_code
def yX5_readMorning : MethodName := ⟨RX5, "readMorning", "(I)V"⟩
abbrev cX5_readPerson : ByteArray := prog_7_method_6_code
def yX5_readPerson : MethodName := ⟨RX5, "readPerson", "(I)V"⟩
abbrev cX5_readJob : ByteArray := prog_7_method_7_code
def yX5_readJob : MethodName := ⟨RX5, "readJob", "(I)V"⟩
abbrev cX5_readWaiting : ByteArray := prog_7_method_8_code
def yX5_readWaiting : MethodName := ⟨RX5, "readWaiting", "()V"⟩
abbrev cX5_skipBlanks : ByteArray := prog_7_method_9_code
def yX5_skipBlanks : MethodName := ⟨RX5, "skipBlanks", "()V"⟩
abbrev cX5_letter : ByteArray := prog_7_method_10_code
def yX5_letter : MethodName := ⟨RX5, "letter", "()I"⟩
abbrev cX5_atFigure : ByteArray := prog_7_method_11_code
def yX5_atFigure : MethodName := ⟨RX5, "atFigure", "()Z"⟩
abbrev cX5_number : ByteArray := prog_7_method_12_code
def yX5_number : MethodName := ⟨RX5, "number", "(II)I"⟩
abbrev cX5_endClause : ByteArray := prog_7_method_13_code
def yX5_endClause : MethodName := ⟨RX5, "endClause", "()V"⟩
abbrev cX5_blame : ByteArray := prog_7_method_14_code
def yX5_blame : MethodName := ⟨RX5, "blame", "(II)V"⟩
def RX6 : String := "WakeOrder$Row"
def TX6 : u_T := fun k => match k with
  | 0 => ("WakeOrder$Row", "cells", "[I", true)
  | _ => ("WakeOrder$Row", "size", "I", false)
def tyX6 : Nat → FieldType := fun k => match k with
  | 0 => .array .int
  | _ => .int
theorem nmX6 : ∀ a, a < 2 → ∀ b, b < 2 → a ≠ b → (TX6 a).2.1 ≠ (TX6 b).2.1 := by decide +kernel
theorem tyX6_ok : ∀ k, k < 2 → parseFieldDescriptor (TX6 k).2.2.1 = some (tyX6 k) := by decide +kernel
abbrev cX6_init : ByteArray := prog_8_method_1_code
def yX6_init : MethodName := ⟨RX6, "<init>", "()V"⟩
abbrev cX6_at : ByteArray := prog_8_method_2_code
def yX6_at : MethodName := ⟨RX6, "at", "(I)I"⟩
abbrev cX6_placeOf : ByteArray := prog_8_method_3_code
def yX6_placeOf : MethodName := ⟨RX6, "placeOf", "(I)I"⟩
abbrev cX6_members : ByteArray := prog_8_method_4_code
def yX6_members : MethodName := ⟨RX6, "members", "()I"⟩
abbrev cX6_become : ByteArray := prog_8_method_5_code
def yX6_become : MethodName := ⟨RX6, "become", "(LWakeOrder$Row;)V"⟩
abbrev cX6_line : ByteArray := prog_8_method_6_code
def yX6_line : MethodName := ⟨RX6, "line", "(I)V"⟩
abbrev cX6_takeOut : ByteArray := prog_8_method_7_code
def yX6_takeOut : MethodName := ⟨RX6, "takeOut", "(I)V"⟩
abbrev cX6_putIn : ByteArray := prog_8_method_8_code
def yX6_putIn : MethodName := ⟨RX6, "putIn", "(II)V"⟩
abbrev cX6_raisedAgainst : ByteArray := prog_8_method_9_code
def yX6_raisedAgainst : MethodName := ⟨RX6, "raisedAgainst", "(LWakeOrder$Row;)I"⟩
abbrev cX6_advance : ByteArray := prog_8_method_10_code
def yX6_advance : MethodName := ⟨RX6, "advance", "()Z"⟩
abbrev cX6_swap : ByteArray := prog_8_method_11_code
def yX6_swap : MethodName := ⟨RX6, "swap", "(II)V"⟩
def RX7 : String := "WakeOrder$State"
def TX7 : u_T := fun k => match k with
  | 0 => ("WakeOrder$State", "row", "LWakeOrder$Row;", true)
  | 1 => ("WakeOrder$State", "wakes", "[I", true)
  | 2 => ("WakeOrder$State", "doer", "[I", true)
  | 3 => ("WakeOrder$State", "shut", "I", false)
  | _ => ("WakeOrder$State", "mornings", "I", false)
def tyX7 : Nat → FieldType := fun k => match k with
  | 0 => .object "WakeOrder$Row"
  | 1 => .array .int
  | 2 => .array .int
  | 3 => .int
  | _ => .int
theorem nmX7 : ∀ a, a < 5 → ∀ b, b < 5 → a ≠ b → (TX7 a).2.1 ≠ (TX7 b).2.1 := by decide +kernel
theorem tyX7_ok : ∀ k, k < 5 → parseFieldDescriptor (TX7 k).2.2.1 = some (tyX7 k) := by decide +kernel
abbrev cX7_init : ByteArray := prog_9_method_1_code
def yX7_init : MethodName := ⟨RX7, "<init>", "()V"⟩
abbrev cX7_begin : ByteArray := prog_9_method_2_code
def yX7_begin : MethodName := ⟨RX7, "begin", "(LWakeOrder$City;)V"⟩
abbrev cX7_become : ByteArray := prog_9_method_3_code
def yX7_become : MethodName := ⟨RX7, "become", "(LWakeOrder$State;)V"⟩
def RX8 : String := "WakeOrder$Trials"
def TX8 : u_T := fun k => match k with
  | 0 => ("WakeOrder$Trials", "trial", "LWakeOrder$Row;", true)
  | 1 => ("WakeOrder$Trials", "best", "LWakeOrder$Row;", true)
  | 2 => ("WakeOrder$Trials", "fewest", "I", false)
  | 3 => ("WakeOrder$Trials", "bestPlace", "I", false)
  | _ => ("WakeOrder$Trials", "harm", "I", false)
def tyX8 : Nat → FieldType := fun k => match k with
  | 0 => .object "WakeOrder$Row"
  | 1 => .object "WakeOrder$Row"
  | 2 => .int
  | 3 => .int
  | _ => .int
theorem nmX8 : ∀ a, a < 5 → ∀ b, b < 5 → a ≠ b → (TX8 a).2.1 ≠ (TX8 b).2.1 := by decide +kernel
theorem tyX8_ok : ∀ k, k < 5 → parseFieldDescriptor (TX8 k).2.2.1 = some (tyX8 k) := by decide +kernel
abbrev cX8_init : ByteArray := prog_10_method_1_code
def yX8_init : MethodName := ⟨RX8, "<init>", "()V"⟩
abbrev cX8_tryRaising : ByteArray := prog_10_method_2_code
def yX8_tryRaising : MethodName := ⟨RX8, "tryRaising", "(LWakeOrder$Capital;II)V"⟩
abbrev cX8_trialDoes : ByteArray := prog_10_method_3_code
def yX8_trialDoes : MethodName := ⟨RX8, "trialDoes", "(LWakeOrder$Capital;II)Z"⟩
abbrev cX8_tryPlaces : ByteArray := prog_10_method_4_code
def yX8_tryPlaces : MethodName := ⟨RX8, "tryPlaces", "(LWakeOrder$Capital;I)V"⟩
abbrev cX8_fewestToDismiss : ByteArray := prog_10_method_5_code
def yX8_fewestToDismiss : MethodName := ⟨RX8, "fewestToDismiss", "(LWakeOrder$Capital;)I"⟩
abbrev cX8_nobodyStuckWithout : ByteArray := prog_10_method_6_code
def yX8_nobodyStuckWithout : MethodName := ⟨RX8, "nobodyStuckWithout", "(LWakeOrder$Capital;I)Z"⟩
def RX9 : String := "WakeOrder$Windows"
def TX9 : u_T := fun k => match k with
  | 0 => ("WakeOrder$Windows", "earlier", "[I", true)
  | 1 => ("WakeOrder$Windows", "later", "[I", true)
  | 2 => ("WakeOrder$Windows", "count", "I", false)
  | 3 => ("WakeOrder$Windows", "trial", "LWakeOrder$Row;", true)
  | 4 => ("WakeOrder$Windows", "total", "I", false)
  | 5 => ("WakeOrder$Windows", "sure", "[I", true)
  | _ => ("WakeOrder$Windows", "parts", "[I", true)
def tyX9 : Nat → FieldType := fun k => match k with
  | 0 => .array .int
  | 1 => .array .int
  | 2 => .int
  | 3 => .object "WakeOrder$Row"
  | 4 => .int
  | 5 => .array .int
  | _ => .array .int
theorem nmX9 : ∀ a, a < 7 → ∀ b, b < 7 → a ≠ b → (TX9 a).2.1 ≠ (TX9 b).2.1 := by decide +kernel
theorem tyX9_ok : ∀ k, k < 7 → parseFieldDescriptor (TX9 k).2.2.1 = some (tyX9 k) := by decide +kernel
abbrev cX9_init : ByteArray := prog_11_method_1_code
def yX9_init : MethodName := ⟨RX9, "<init>", "()V"⟩
abbrev cX9_append : ByteArray := prog_11_method_2_code
def yX9_append : MethodName := ⟨RX9, "append", "(II)Z"⟩
abbrev cX9_survey : ByteArray := prog_11_method_3_code
def yX9_survey : MethodName := ⟨RX9, "survey", "(LWakeOrder$Capital;)V"⟩
abbrev cX9_fits : ByteArray := prog_11_method_4_code
def yX9_fits : MethodName := ⟨RX9, "fits", "(LWakeOrder$Capital;)Z"⟩
abbrev cX9_countTrial : ByteArray := prog_11_method_5_code
def yX9_countTrial : MethodName := ⟨RX9, "countTrial", "(LWakeOrder$Capital;)V"⟩
abbrev cX9_sureOf : ByteArray := prog_11_method_6_code
def yX9_sureOf : MethodName := ⟨RX9, "sureOf", "(I)I"⟩
abbrev cX9_bestPair : ByteArray := prog_11_method_7_code
def yX9_bestPair : MethodName := ⟨RX9, "bestPair", "(I)I"⟩
def RX10 : String := "WakeOrder"
def TX10 : u_T := fun k => match k with
  | 0 => ("WakeOrder", "reader", "LWakeOrder$Reader;", true)
  | 1 => ("WakeOrder", "capital", "LWakeOrder$Capital;", true)
  | 2 => ("WakeOrder", "city", "LWakeOrder$City;", true)
  | 3 => ("WakeOrder", "now", "LWakeOrder$State;", true)
  | 4 => ("WakeOrder", "history", "LWakeOrder$History;", true)
  | 5 => ("WakeOrder", "images", "LWakeOrder$Images;", true)
  | 6 => ("WakeOrder", "trials", "LWakeOrder$Trials;", true)
  | 7 => ("WakeOrder", "windows", "LWakeOrder$Windows;", true)
  | 8 => ("WakeOrder", "book", "LWakeOrder$Book;", true)
  | _ => ("WakeOrder", "seedNow", "I", false)
def tyX10 : Nat → FieldType := fun k => match k with
  | 0 => .object "WakeOrder$Reader"
  | 1 => .object "WakeOrder$Capital"
  | 2 => .object "WakeOrder$City"
  | 3 => .object "WakeOrder$State"
  | 4 => .object "WakeOrder$History"
  | 5 => .object "WakeOrder$Images"
  | 6 => .object "WakeOrder$Trials"
  | 7 => .object "WakeOrder$Windows"
  | 8 => .object "WakeOrder$Book"
  | _ => .int
theorem nmX10 : ∀ a, a < 10 → ∀ b, b < 10 → a ≠ b → (TX10 a).2.1 ≠ (TX10 b).2.1 := by decide +kernel
theorem tyX10_ok : ∀ k, k < 10 → parseFieldDescriptor (TX10 k).2.2.1 = some (tyX10 k) := by decide +kernel
abbrev cX10_init : ByteArray := prog_1_method_1_code
def yX10_init : MethodName := ⟨RX10, "<init>", "()V"⟩
abbrev cX10_feed : ByteArray := prog_1_method_2_code
def yX10_feed : MethodName := ⟨RX10, "feed", "(I)I"⟩
abbrev cX10_city : ByteArray := prog_1_method_3_code
def yX10_city : MethodName := ⟨RX10, "city", "()I"⟩
abbrev cX10_fault : ByteArray := prog_1_method_4_code
def yX10_fault : MethodName := ⟨RX10, "fault", "()I"⟩
abbrev cX10_told : ByteArray := prog_1_method_5_code
def yX10_told : MethodName := ⟨RX10, "told", "(I)I"⟩
abbrev cX10_person : ByteArray := prog_1_method_6_code
def yX10_person : MethodName := ⟨RX10, "person", "(II)I"⟩
abbrev cX10_job : ByteArray := prog_1_method_7_code
def yX10_job : MethodName := ⟨RX10, "job", "(II)I"⟩
abbrev cX10_order : ByteArray := prog_1_method_8_code
def yX10_order : MethodName := ⟨RX10, "order", "(I)I"⟩
abbrev cX10_rank : ByteArray := prog_1_method_9_code
def yX10_rank : MethodName := ⟨RX10, "rank", "(II)I"⟩
abbrev cX10_eyes : ByteArray := prog_1_method_10_code
def yX10_eyes : MethodName := ⟨RX10, "eyes", "(IZ)I"⟩
abbrev cX10_hand : ByteArray := prog_1_method_11_code
def yX10_hand : MethodName := ⟨RX10, "hand", "(II)I"⟩
abbrev cX10_dismiss : ByteArray := prog_1_method_12_code
def yX10_dismiss : MethodName := ⟨RX10, "dismiss", "(I)I"⟩
abbrev cX10_wake : ByteArray := prog_1_method_13_code
def yX10_wake : MethodName := ⟨RX10, "wake", "(II)I"⟩
abbrev cX10_drift : ByteArray := prog_1_method_14_code
def yX10_drift : MethodName := ⟨RX10, "drift", "(I)I"⟩
abbrev cX10_undo : ByteArray := prog_1_method_15_code
def yX10_undo : MethodName := ⟨RX10, "undo", "()I"⟩
abbrev cX10_raise : ByteArray := prog_1_method_16_code
def yX10_raise : MethodName := ⟨RX10, "raise", "(III)I"⟩
abbrev cX10_leastHarm : ByteArray := prog_1_method_17_code
def yX10_leastHarm : MethodName := ⟨RX10, "leastHarm", "(II)I"⟩
abbrev cX10_bread : ByteArray := prog_1_method_18_code
def yX10_bread : MethodName := ⟨RX10, "bread", "(I)I"⟩
abbrev cX10_free : ByteArray := prog_1_method_19_code
def yX10_free : MethodName := ⟨RX10, "free", "(I)I"⟩
abbrev cX10_sleeps : ByteArray := prog_1_method_20_code
def yX10_sleeps : MethodName := ⟨RX10, "sleeps", "(II)I"⟩
abbrev cX10_see : ByteArray := prog_1_method_21_code
def yX10_see : MethodName := ⟨RX10, "see", "(II)I"⟩
abbrev cX10_orders : ByteArray := prog_1_method_22_code
def yX10_orders : MethodName := ⟨RX10, "orders", "(I)I"⟩
abbrev cX10_lookNext : ByteArray := prog_1_method_23_code
def yX10_lookNext : MethodName := ⟨RX10, "lookNext", "()I"⟩
abbrev cX10_write : ByteArray := prog_1_method_24_code
def yX10_write : MethodName := ⟨RX10, "write", "(II)I"⟩
abbrev cX10_tear : ByteArray := prog_1_method_25_code
def yX10_tear : MethodName := ⟨RX10, "tear", "()I"⟩
abbrev cX10_judge : ByteArray := prog_1_method_26_code
def yX10_judge : MethodName := ⟨RX10, "judge", "()I"⟩
abbrev cX10_seed : ByteArray := prog_1_method_27_code
def yX10_seed : MethodName := ⟨RX10, "seed", "(I)I"⟩
abbrev cX10_keep : ByteArray := prog_1_method_28_code
def yX10_keep : MethodName := ⟨RX10, "keep", "(I)I"⟩
abbrev cX10_goBack : ByteArray := prog_1_method_29_code
def yX10_goBack : MethodName := ⟨RX10, "goBack", "(I)I"⟩
abbrev cX10_isPerson : ByteArray := prog_1_method_30_code
def yX10_isPerson : MethodName := ⟨RX10, "isPerson", "(I)Z"⟩
abbrev cX10_isJob : ByteArray := prog_1_method_31_code
def yX10_isJob : MethodName := ⟨RX10, "isJob", "(I)Z"⟩
abbrev cX10_lowBits : ByteArray := prog_1_method_32_code
def yX10_lowBits : MethodName := ⟨RX10, "lowBits", "(I)I"⟩
abbrev cX10_dismissedOnes : ByteArray := prog_1_method_33_code
def yX10_dismissedOnes : MethodName := ⟨RX10, "dismissedOnes", "()I"⟩
abbrev cX10_jobsOf : ByteArray := prog_1_method_34_code
def yX10_jobsOf : MethodName := ⟨RX10, "jobsOf", "(I)I"⟩
abbrev cX10_drawMorning : ByteArray := prog_1_method_35_code
def yX10_drawMorning : MethodName := ⟨RX10, "drawMorning", "()V"⟩
abbrev cX10_drawBelow : ByteArray := prog_1_method_36_code
def yX10_drawBelow : MethodName := ⟨RX10, "drawBelow", "(I)I"⟩
abbrev cX10_holds : ByteArray := prog_1_method_37_code
def yX10_holds : MethodName := ⟨RX10, "holds", "([II)Z"⟩
abbrev cX10_valueAt : ByteArray := prog_1_method_38_code
def yX10_valueAt : MethodName := ⟨RX10, "valueAt", "([II)I"⟩
abbrev cX10_laterOf : ByteArray := prog_1_method_39_code
def yX10_laterOf : MethodName := ⟨RX10, "laterOf", "(II)I"⟩
def RX11 : String := "WakeOrderModel"
def TX11 : u_T := fun k => match k with
  | 0 => ("WakeOrderModel", "morning", "I", false)
  | 1 => ("WakeOrderModel", "persons", "I", false)
  | 2 => ("WakeOrderModel", "jobs", "I", false)
  | 3 => ("WakeOrderModel", "takes", "[I", true)
  | 4 => ("WakeOrderModel", "behind", "[I", true)
  | 5 => ("WakeOrderModel", "waits", "[I", true)
  | 6 => ("WakeOrderModel", "now", "[I", true)
  | 7 => ("WakeOrderModel", "seed", "I", false)
  | 8 => ("WakeOrderModel", "text", "[I", true)
  | 9 => ("WakeOrderModel", "texted", "I", false)
  | 10 => ("WakeOrderModel", "faultPlace", "I", false)
  | 11 => ("WakeOrderModel", "at0", "I", false)
  | 12 => ("WakeOrderModel", "number", "I", false)
  | 13 => ("WakeOrderModel", "numberAt", "I", false)
  | 14 => ("WakeOrderModel", "readMorning", "[I", true)
  | 15 => ("WakeOrderModel", "readPersons", "I", false)
  | 16 => ("WakeOrderModel", "readWake", "[I", true)
  | 17 => ("WakeOrderModel", "readJobs", "I", false)
  | 18 => ("WakeOrderModel", "readBy", "[I", true)
  | 19 => ("WakeOrderModel", "readTakes", "[I", true)
  | 20 => ("WakeOrderModel", "readBehind", "[I", true)
  | 21 => ("WakeOrderModel", "readWaits", "[I", true)
  | 22 => ("WakeOrderModel", "up", "[I", true)
  | 23 => ("WakeOrderModel", "done", "[I", true)
  | 24 => ("WakeOrderModel", "undos", "I", false)
  | 25 => ("WakeOrderModel", "past", "[I", true)
  | 26 => ("WakeOrderModel", "was", "[I", true)
  | 27 => ("WakeOrderModel", "best", "[I", true)
  | 28 => ("WakeOrderModel", "fewest", "I", false)
  | 29 => ("WakeOrderModel", "seen", "I", false)
  | 30 => ("WakeOrderModel", "seenFirst", "[I", true)
  | 31 => ("WakeOrderModel", "seenThen", "[I", true)
  | 32 => ("WakeOrderModel", "fitting", "I", false)
  | 33 => ("WakeOrderModel", "surePlace", "[I", true)
  | 34 => ("WakeOrderModel", "earlier", "[I", true)
  | 35 => ("WakeOrderModel", "booked", "I", false)
  | 36 => ("WakeOrderModel", "bookJob", "[I", true)
  | 37 => ("WakeOrderModel", "bookAt", "[I", true)
  | 38 => ("WakeOrderModel", "images", "[I", true)
  | _ => ("WakeOrderModel", "isKept", "[Z", true)
def tyX11 : Nat → FieldType := fun k => match k with
  | 0 => .int
  | 1 => .int
  | 2 => .int
  | 3 => .array .int
  | 4 => .array .int
  | 5 => .array .int
  | 6 => .array .int
  | 7 => .int
  | 8 => .array .int
  | 9 => .int
  | 10 => .int
  | 11 => .int
  | 12 => .int
  | 13 => .int
  | 14 => .array .int
  | 15 => .int
  | 16 => .array .int
  | 17 => .int
  | 18 => .array .int
  | 19 => .array .int
  | 20 => .array .int
  | 21 => .array .int
  | 22 => .array .int
  | 23 => .array .int
  | 24 => .int
  | 25 => .array .int
  | 26 => .array .int
  | 27 => .array .int
  | 28 => .int
  | 29 => .int
  | 30 => .array .int
  | 31 => .array .int
  | 32 => .int
  | 33 => .array .int
  | 34 => .array .int
  | 35 => .int
  | 36 => .array .int
  | 37 => .array .int
  | 38 => .array .int
  | _ => .array .boolean
theorem nmX11 : ∀ a, a < 40 → ∀ b, b < 40 → a ≠ b → (TX11 a).2.1 ≠ (TX11 b).2.1 := by decide +kernel
theorem tyX11_ok : ∀ k, k < 40 → parseFieldDescriptor (TX11 k).2.2.1 = some (tyX11 k) := by decide +kernel
abbrev cX11_init : ByteArray := prog_13_method_1_code
def yX11_init : MethodName := ⟨RX11, "<init>", "()V"⟩
abbrev cX11_in : ByteArray := prog_13_method_3_code
def yX11_in : MethodName := ⟨RX11, "in", "(JJJ)Z"⟩
abbrev cX11_has : ByteArray := prog_13_method_4_code
def yX11_has : MethodName := ⟨RX11, "has", "(II)Z"⟩
abbrev cX11_bits : ByteArray := prog_13_method_5_code
def yX11_bits : MethodName := ⟨RX11, "bits", "(I)I"⟩
abbrev cX11_isPerson : ByteArray := prog_13_method_6_code
def yX11_isPerson : MethodName := ⟨RX11, "isPerson", "(I)Z"⟩
abbrev cX11_isJob : ByteArray := prog_13_method_7_code
def yX11_isJob : MethodName := ⟨RX11, "isJob", "(I)Z"⟩
abbrev cX11_feed : ByteArray := prog_13_method_8_code
def yX11_feed : MethodName := ⟨RX11, "feed", "(I)I"⟩
abbrev cX11_here : ByteArray := prog_13_method_9_code
def yX11_here : MethodName := ⟨RX11, "here", "()I"⟩
abbrev cX11_fails : ByteArray := prog_13_method_10_code
def yX11_fails : MethodName := ⟨RX11, "fails", "(II)I"⟩
abbrev cX11_takeNumber : ByteArray := prog_13_method_11_code
def yX11_takeNumber : MethodName := ⟨RX11, "takeNumber", "(II)I"⟩
abbrev cX11_into : ByteArray := prog_13_method_12_code
def yX11_into : MethodName := ⟨RX11, "into", "([IIII)I"⟩
abbrev cX11_takePerson : ByteArray := prog_13_method_13_code
def yX11_takePerson : MethodName := ⟨RX11, "takePerson", "()I"⟩
abbrev cX11_takeJob : ByteArray := prog_13_method_14_code
def yX11_takeJob : MethodName := ⟨RX11, "takeJob", "()I"⟩
abbrev cX11_takeWait : ByteArray := prog_13_method_15_code
def yX11_takeWait : MethodName := ⟨RX11, "takeWait", "()I"⟩
abbrev cX11_takeClause : ByteArray := prog_13_method_16_code
def yX11_takeClause : MethodName := ⟨RX11, "takeClause", "()I"⟩
abbrev cX11_takeRead : ByteArray := prog_13_method_17_code
def yX11_takeRead : MethodName := ⟨RX11, "takeRead", "()V"⟩
abbrev cX11_city : ByteArray := prog_13_method_18_code
def yX11_city : MethodName := ⟨RX11, "city", "()I"⟩
abbrev cX11_fault : ByteArray := prog_13_method_19_code
def yX11_fault : MethodName := ⟨RX11, "fault", "()I"⟩
abbrev cX11_inTime : ByteArray := prog_13_method_20_code
def yX11_inTime : MethodName := ⟨RX11, "inTime", "(I)I"⟩
abbrev cX11_later : ByteArray := prog_13_method_21_code
def yX11_later : MethodName := ⟨RX11, "later", "(II)I"⟩
abbrev cX11_settleUps : ByteArray := prog_13_method_22_code
def yX11_settleUps : MethodName := ⟨RX11, "settleUps", "()Z"⟩
abbrev cX11_settleJobs : ByteArray := prog_13_method_23_code
def yX11_settleJobs : MethodName := ⟨RX11, "settleJobs", "()Z"⟩
abbrev cX11_settle : ByteArray := prog_13_method_24_code
def yX11_settle : MethodName := ⟨RX11, "settle", "()V"⟩
abbrev cX11_stuckSet : ByteArray := prog_13_method_25_code
def yX11_stuckSet : MethodName := ⟨RX11, "stuckSet", "()I"⟩
abbrev cX11_undoneSet : ByteArray := prog_13_method_26_code
def yX11_undoneSet : MethodName := ⟨RX11, "undoneSet", "()I"⟩
abbrev cX11_told : ByteArray := prog_13_method_27_code
def yX11_told : MethodName := ⟨RX11, "told", "(I)I"⟩
abbrev cX11_placeOf : ByteArray := prog_13_method_28_code
def yX11_placeOf : MethodName := ⟨RX11, "placeOf", "(I)I"⟩
abbrev cX11_manyOf : ByteArray := prog_13_method_29_code
def yX11_manyOf : MethodName := ⟨RX11, "manyOf", "(I)I"⟩
abbrev cX11_person : ByteArray := prog_13_method_30_code
def yX11_person : MethodName := ⟨RX11, "person", "(II)I"⟩
abbrev cX11_job : ByteArray := prog_13_method_31_code
def yX11_job : MethodName := ⟨RX11, "job", "(II)I"⟩
abbrev cX11_order : ByteArray := prog_13_method_32_code
def yX11_order : MethodName := ⟨RX11, "order", "(I)I"⟩
abbrev cX11_remember : ByteArray := prog_13_method_33_code
def yX11_remember : MethodName := ⟨RX11, "remember", "()V"⟩
abbrev cX11_takeOut : ByteArray := prog_13_method_34_code
def yX11_takeOut : MethodName := ⟨RX11, "takeOut", "(I)V"⟩
abbrev cX11_putIn : ByteArray := prog_13_method_35_code
def yX11_putIn : MethodName := ⟨RX11, "putIn", "(II)V"⟩
abbrev cX11_rank : ByteArray := prog_13_method_36_code
def yX11_rank : MethodName := ⟨RX11, "rank", "(II)I"⟩
abbrev cX11_eyes : ByteArray := prog_13_method_37_code
def yX11_eyes : MethodName := ⟨RX11, "eyes", "(IZ)I"⟩
abbrev cX11_hand : ByteArray := prog_13_method_38_code
def yX11_hand : MethodName := ⟨RX11, "hand", "(II)I"⟩
abbrev cX11_dismissNow : ByteArray := prog_13_method_39_code
def yX11_dismissNow : MethodName := ⟨RX11, "dismissNow", "(I)V"⟩
abbrev cX11_dismiss : ByteArray := prog_13_method_40_code
def yX11_dismiss : MethodName := ⟨RX11, "dismiss", "(I)I"⟩
abbrev cX11_wake : ByteArray := prog_13_method_41_code
def yX11_wake : MethodName := ⟨RX11, "wake", "(II)I"⟩
abbrev cX11_draw : ByteArray := prog_13_method_42_code
def yX11_draw : MethodName := ⟨RX11, "draw", "(I)I"⟩
abbrev cX11_drift : ByteArray := prog_13_method_43_code
def yX11_drift : MethodName := ⟨RX11, "drift", "(I)I"⟩
abbrev cX11_undo : ByteArray := prog_13_method_44_code
def yX11_undo : MethodName := ⟨RX11, "undo", "()I"⟩
abbrev cX11_save : ByteArray := prog_13_method_45_code
def yX11_save : MethodName := ⟨RX11, "save", "()V"⟩
abbrev cX11_putBack : ByteArray := prog_13_method_46_code
def yX11_putBack : MethodName := ⟨RX11, "putBack", "()V"⟩
abbrev cX11_firstOrder : ByteArray := prog_13_method_47_code
def yX11_firstOrder : MethodName := ⟨RX11, "firstOrder", "()V"⟩
abbrev cX11_swap : ByteArray := prog_13_method_48_code
def yX11_swap : MethodName := ⟨RX11, "swap", "(II)V"⟩
abbrev cX11_nextOrder : ByteArray := prog_13_method_49_code
def yX11_nextOrder : MethodName := ⟨RX11, "nextOrder", "()Z"⟩
abbrev cX11_wasPlace : ByteArray := prog_13_method_50_code
def yX11_wasPlace : MethodName := ⟨RX11, "wasPlace", "(I)I"⟩
abbrev cX11_nearer : ByteArray := prog_13_method_51_code
def yX11_nearer : MethodName := ⟨RX11, "nearer", "()I"⟩
abbrev cX11_areDone : ByteArray := prog_13_method_52_code
def yX11_areDone : MethodName := ⟨RX11, "areDone", "(II)Z"⟩
abbrev cX11_findRaise : ByteArray := prog_13_method_53_code
def yX11_findRaise : MethodName := ⟨RX11, "findRaise", "(II)V"⟩
abbrev cX11_raise : ByteArray := prog_13_method_54_code
def yX11_raise : MethodName := ⟨RX11, "raise", "(III)I"⟩
abbrev cX11_allUpsBut : ByteArray := prog_13_method_55_code
def yX11_allUpsBut : MethodName := ⟨RX11, "allUpsBut", "(I)I"⟩
abbrev cX11_leastHarm : ByteArray := prog_13_method_56_code
def yX11_leastHarm : MethodName := ⟨RX11, "leastHarm", "(II)I"⟩
abbrev cX11_doneOrLast : ByteArray := prog_13_method_57_code
def yX11_doneOrLast : MethodName := ⟨RX11, "doneOrLast", "(I)I"⟩
abbrev cX11_bread : ByteArray := prog_13_method_58_code
def yX11_bread : MethodName := ⟨RX11, "bread", "(I)I"⟩
abbrev cX11_free : ByteArray := prog_13_method_59_code
def yX11_free : MethodName := ⟨RX11, "free", "(I)I"⟩
abbrev cX11_sleeps : ByteArray := prog_13_method_60_code
def yX11_sleeps : MethodName := ⟨RX11, "sleeps", "(II)I"⟩
abbrev cX11_see : ByteArray := prog_13_method_61_code
def yX11_see : MethodName := ⟨RX11, "see", "(II)I"⟩
abbrev cX11_allSeen : ByteArray := prog_13_method_62_code
def yX11_allSeen : MethodName := ⟨RX11, "allSeen", "()Z"⟩
abbrev cX11_countOrder : ByteArray := prog_13_method_63_code
def yX11_countOrder : MethodName := ⟨RX11, "countOrder", "()V"⟩
abbrev cX11_findOrders : ByteArray := prog_13_method_64_code
def yX11_findOrders : MethodName := ⟨RX11, "findOrders", "()V"⟩
abbrev cX11_orders : ByteArray := prog_13_method_65_code
def yX11_orders : MethodName := ⟨RX11, "orders", "(I)I"⟩
abbrev cX11_lookNext : ByteArray := prog_13_method_66_code
def yX11_lookNext : MethodName := ⟨RX11, "lookNext", "()I"⟩
abbrev cX11_write : ByteArray := prog_13_method_67_code
def yX11_write : MethodName := ⟨RX11, "write", "(II)I"⟩
abbrev cX11_tear : ByteArray := prog_13_method_68_code
def yX11_tear : MethodName := ⟨RX11, "tear", "()I"⟩
abbrev cX11_judge : ByteArray := prog_13_method_69_code
def yX11_judge : MethodName := ⟨RX11, "judge", "()I"⟩
abbrev cX11_seed : ByteArray := prog_13_method_70_code
def yX11_seed : MethodName := ⟨RX11, "seed", "(I)I"⟩
abbrev cX11_keep : ByteArray := prog_13_method_71_code
def yX11_keep : MethodName := ⟨RX11, "keep", "(I)I"⟩
abbrev cX11_goBack : ByteArray := prog_13_method_72_code
def yX11_goBack : MethodName := ⟨RX11, "goBack", "(I)I"⟩
def RJ6 : String := "java/lang/Integer"
abbrev cJ6_bitCount_0f7a4 : ByteArray := prog_14_method_49_code
def yJ6_bitCount_0f7a4 : MethodName := ⟨RJ6, "bitCount", "(I)I"⟩
def RJ9 : String := "java/lang/Math"
abbrev cJ9_max_7cf53 : ByteArray := prog_15_method_65_code
def yJ9_max_7cf53 : MethodName := ⟨RJ9, "max", "(II)I"⟩
abbrev cJ9_min_7cf53 : ByteArray := prog_15_method_69_code
def yJ9_min_7cf53 : MethodName := ⟨RJ9, "min", "(II)I"⟩
def RJ10 : String := "java/lang/System"
def RJ7 : String := "java/util/Arrays"
abbrev cJ7_fill_53178 : ByteArray := prog_17_method_103_code
def yJ7_fill_53178 : MethodName := ⟨RJ7, "fill", "([II)V"⟩
def RL : String := "WakeOrderLaw"
abbrev cL_law : ByteArray := code
def yL_law : MethodName := ⟨RL, "law", "([I)Z"⟩
abbrev vwCl : List vw_C := [(RX0, TX0, 3), (RX1, TX1, 5), (RX2, TX2, 8), (RX3, TX3, 3), (RX4, TX4, 3), (RX5, TX5, 7), (RX6, TX6, 2), (RX7, TX7, 5), (RX8, TX8, 5), (RX9, TX9, 7), (RX10, TX10, 10), (RX11, TX11, 40)]
end
section
-- the little machine's table: by program (wip/whole/gen.py) out of the claim's tables
abbrev LRow : Type := Instr × Nat × Instr × Nat × Nat
/-- 0: WakeOrder$Book.<init>()V -/
def lr0 : List LRow := [(.aload 0, 0, .aload_n 0, 1, 0),
  (.pop, 1, .invokespecial 3, 3, 359),
  (.aload 0, 4, .aload_n 0, 1, 0),
  (.iconst 15, 5, .bipush 15, 2, 0),
  (.newarray .int, 7, .newarray .int, 2, 0),
  (.putstatic 0, 9, .putfield 9, 3, 360),
  (.aload 0, 12, .aload_n 0, 1, 0),
  (.iconst 15, 13, .bipush 15, 2, 0),
  (.newarray .int, 15, .newarray .int, 2, 0),
  (.putstatic 1, 17, .putfield 15, 3, 361),
  (.return_, 20, .return_, 1, 0)]
/-- 1: WakeOrder$Book.append(II)Z -/
def lr1 : List LRow := [(.aload 0, 0, .aload_n 0, 1, 0),
  (.getfield 2, 1, .getfield 18, 3, 362),
  (.ifCond .lt 7, 4, .ifCond .lt 12, 3, 0),
  (.aload 0, 7, .aload_n 0, 1, 0),
  (.getfield 2, 8, .getfield 18, 3, 362),
  (.iconst 15, 11, .bipush 15, 2, 0),
  (.if_icmp .lt 9, 13, .if_icmp .lt 5, 3, 0),
  (.iconst 0, 16, .iconst 0, 1, 0),
  (.areturn, 17, .ireturn, 1, 0),
  (.aload 0, 18, .aload_n 0, 1, 0),
  (.getfield 0, 19, .getfield 9, 3, 360),
  (.aload 0, 22, .aload_n 0, 1, 0),
  (.getfield 2, 23, .getfield 18, 3, 362),
  (.iload 1, 26, .iload_n 1, 1, 0),
  (.iastore, 27, .iastore, 1, 0),
  (.aload 0, 28, .aload_n 0, 1, 0),
  (.getfield 1, 29, .getfield 15, 3, 361),
  (.aload 0, 32, .aload_n 0, 1, 0),
  (.getfield 2, 33, .getfield 18, 3, 362),
  (.iload 2, 36, .iload_n 2, 1, 0),
  (.iastore, 37, .iastore, 1, 0),
  (.aload 0, 38, .aload_n 0, 1, 0),
  (.dup, 39, .dup, 1, 0),
  (.getfield 2, 40, .getfield 18, 3, 362),
  (.iconst 1, 43, .iconst 1, 1, 0),
  (.iadd, 44, .iadd, 1, 0),
  (.putfield 2, 45, .putfield 18, 3, 362),
  (.iconst 1, 48, .iconst 1, 1, 0),
  (.areturn, 49, .ireturn, 1, 0)]
/-- 2: WakeOrder$Book.firstWrong(LWakeOrder$Capital;)I -/
def lr2 : List LRow := [(.iconst 0, 0, .iconst 0, 1, 0),
  (.istore 2, 1, .istore_n 2, 1, 0),
  (.nop, 2, .iload_n 2, 0, 0),
  (.iload 2, 2, .iload_n 2, 1, 0),
  (.aload 0, 3, .aload_n 0, 1, 0),
  (.getfield 2, 4, .getfield 18, 3, 362),
  (.if_icmp .ge 26, 7, .if_icmp .ge 39, 3, 0),
  (.iload 2, 10, .iload_n 2, 1, 0),
  (.iconst 15, 11, .bipush 15, 2, 0),
  (.if_icmp .ge 26, 13, .if_icmp .ge 33, 3, 0),
  (.aload 1, 16, .aload_n 1, 1, 0),
  (.getfield 67, 17, .getfield 22, 3, 239),
  (.aload 0, 20, .aload_n 0, 1, 0),
  (.getfield 0, 21, .getfield 9, 3, 360),
  (.iload 2, 24, .iload_n 2, 1, 0),
  (.iaload, 25, .iaload, 1, 0),
  (.invokestatic 107, 26, .invokestatic 27, 3, 829),
  (.aload 0, 29, .aload_n 0, 1, 0),
  (.getfield 1, 30, .getfield 15, 3, 361),
  (.iload 2, 33, .iload_n 2, 1, 0),
  (.iaload, 34, .iaload, 1, 0),
  (.if_icmp .eq 24, 35, .if_icmp .eq 5, 3, 0),
  (.iload 2, 38, .iload_n 2, 1, 0),
  (.ireturn, 39, .ireturn, 1, 0),
  (.iinc 2 1, 40, .iinc 2 1, 3, 0),
  (.goto 2, 43, .goto (-41), 3, 0),
  (.iconst (-1), 46, .iconst (-1), 1, 0),
  (.ireturn, 47, .ireturn, 1, 0)]
/-- 3: WakeOrder$Capital.<init>()V -/
def lr3 : List LRow := [(.aload 0, 0, .aload_n 0, 1, 0),
  (.pop, 1, .invokespecial 3, 3, 176),
  (.aload 0, 4, .aload_n 0, 1, 0),
  (.new 2, 5, .new 9, 3, 177),
  (.dup, 8, .dup, 1, 0),
  (.invokestatic 16, 9, .invokespecial 11, 3, 178),
  (.putstatic 64, 12, .putfield 12, 3, 230),
  (.aload 0, 15, .aload_n 0, 1, 0),
  (.new 7, 16, .new 18, 3, 179),
  (.dup, 19, .dup, 1, 0),
  (.invokestatic 54, 20, .invokespecial 20, 3, 181),
  (.putstatic 65, 23, .putfield 21, 3, 232),
  (.aload 0, 26, .aload_n 0, 1, 0),
  (.iconst 6, 27, .bipush 6, 2, 0),
  (.newarray .int, 29, .newarray .int, 2, 0),
  (.putstatic 66, 31, .putfield 25, 3, 236),
  (.aload 0, 34, .aload_n 0, 1, 0),
  (.iconst 8, 35, .bipush 8, 2, 0),
  (.newarray .int, 37, .newarray .int, 2, 0),
  (.putstatic 67, 39, .putfield 29, 3, 238),
  (.aload 0, 42, .aload_n 0, 1, 0),
  (.iconst 6, 43, .bipush 6, 2, 0),
  (.newarray .int, 45, .newarray .int, 2, 0),
  (.putstatic 68, 47, .putfield 32, 3, 241),
  (.return_, 50, .return_, 1, 0)]
/-- 4: WakeOrder$Capital.reckonNow()V -/
def lr4 : List LRow := [(.aload 0, 0, .aload_n 0, 1, 0),
  (.aload 0, 1, .aload_n 0, 1, 0),
  (.getfield 65, 2, .getfield 21, 3, 232),
  (.getfield 448, 5, .getfield 35, 3, 203),
  (.aload 0, 8, .aload_n 0, 1, 0),
  (.getfield 65, 9, .getfield 21, 3, 232),
  (.getfield 451, 12, .getfield 39, 3, 212),
  (.invokestatic 5, 15, .invokevirtual 43, 3, 525),
  (.return_, 18, .return_, 1, 0)]
/-- 5: WakeOrder$Capital.reckon(LWakeOrder$Row;I)V -/
def lr5 : List LRow := [(.aload 0, 0, .aload_n 0, 1, 0),
  (.getfield 66, 1, .getfield 25, 3, 236),
  (.iconst (-1), 4, .iconst (-1), 1, 0),
  (.invokestatic 183, 5, .invokestatic 47, 3, 529),
  (.aload 0, 8, .aload_n 0, 1, 0),
  (.getfield 67, 9, .getfield 29, 3, 238),
  (.iconst (-1), 12, .iconst (-1), 1, 0),
  (.invokestatic 183, 13, .invokestatic 47, 3, 529),
  (.iconst 0, 16, .iconst 0, 1, 0),
  (.istore 3, 17, .istore_n 3, 1, 0),
  (.iconst 0, 18, .iconst 0, 1, 0),
  (.istore 4, 19, .istore 4, 2, 0),
  (.nop, 21, .iload 4, 0, 0),
  (.iload 4, 21, .iload 4, 2, 0),
  (.iconst 14, 23, .bipush 14, 2, 0),
  (.if_icmp .gt 40, 25, .if_icmp .gt 49, 3, 0),
  (.iload 3, 28, .iload_n 3, 1, 0),
  (.istore 5, 29, .istore 5, 2, 0),
  (.aload 0, 31, .aload_n 0, 1, 0),
  (.aload 1, 32, .aload_n 1, 1, 0),
  (.iload 2, 33, .iload_n 2, 1, 0),
  (.invokestatic 6, 34, .invokevirtual 53, 3, 532),
  (.aload 0, 37, .aload_n 0, 1, 0),
  (.invokestatic 8, 38, .invokevirtual 57, 3, 557),
  (.iadd, 41, .iadd, 1, 0),
  (.istore 3, 42, .istore_n 3, 1, 0),
  (.iload 3, 43, .iload_n 3, 1, 0),
  (.iload 5, 44, .iload 5, 2, 0),
  (.if_icmp .eq 40, 46, .if_icmp .eq 28, 3, 0),
  (.iload 3, 49, .iload_n 3, 1, 0),
  (.aload 1, 50, .aload_n 1, 1, 0),
  (.getfield 385, 51, .getfield 61, 3, 193),
  (.aload 0, 54, .aload_n 0, 1, 0),
  (.getfield 64, 55, .getfield 12, 3, 230),
  (.getfield 130, 58, .getfield 66, 3, 110),
  (.iadd, 61, .iadd, 1, 0),
  (.if_icmp .ne 38, 62, .if_icmp .ne 6, 3, 0),
  (.goto 40, 65, .goto 9, 3, 0),
  (.iinc 4 1, 68, .iinc 4 1, 3, 0),
  (.goto 12, 71, .goto (-50), 3, 0),
  (.return_, 74, .return_, 1, 0)]
/-- 6: WakeOrder$Capital.rouse(LWakeOrder$Row;I)I -/
def lr6 : List LRow := [(.iconst 0, 0, .iconst 0, 1, 0),
  (.istore 3, 1, .istore_n 3, 1, 0),
  (.iconst 0, 2, .iconst 0, 1, 0),
  (.istore 4, 3, .istore 4, 2, 0),
  (.iconst 0, 5, .iconst 0, 1, 0),
  (.istore 5, 6, .istore 5, 2, 0),
  (.nop, 8, .iload 5, 0, 0),
  (.iload 5, 8, .iload 5, 2, 0),
  (.aload 1, 10, .aload_n 1, 1, 0),
  (.getfield 385, 11, .getfield 61, 3, 193),
  (.if_icmp .ge 64, 14, .if_icmp .ge 112, 3, 0),
  (.aload 1, 17, .aload_n 1, 1, 0),
  (.iload 5, 18, .iload 5, 2, 0),
  (.invokestatic 44, 20, .invokevirtual 69, 3, 536),
  (.istore 6, 23, .istore 6, 2, 0),
  (.aload 0, 25, .aload_n 0, 1, 0),
  (.getfield 66, 26, .getfield 25, 3, 236),
  (.iload 6, 29, .iload 6, 2, 0),
  (.invokestatic 106, 31, .invokestatic 73, 3, 541),
  (.ifCond .ne 21, 34, .ifCond .ne 6, 3, 0),
  (.goto 62, 37, .goto 83, 3, 0),
  (.iload 2, 40, .iload_n 2, 1, 0),
  (.iload 6, 41, .iload 6, 2, 0),
  (.ishr, 43, .ishr, 1, 0),
  (.iconst 1, 44, .iconst 1, 1, 0),
  (.iand, 45, .iand, 1, 0),
  (.ifCond .ne 29, 46, .ifCond .ne 7, 3, 0),
  (.iconst 1, 49, .iconst 1, 1, 0),
  (.goto 30, 50, .goto 4, 3, 0),
  (.iconst 0, 53, .iconst 0, 1, 0),
  (.istore 7, 54, .istore 7, 2, 0),
  (.aload 0, 56, .aload_n 0, 1, 0),
  (.getfield 66, 57, .getfield 25, 3, 236),
  (.iload 6, 60, .iload 6, 2, 0),
  (.aload 0, 62, .aload_n 0, 1, 0),
  (.iload 7, 63, .iload 7, 2, 0),
  (.ifCond .eq 43, 65, .ifCond .eq 17, 3, 0),
  (.aload 0, 68, .aload_n 0, 1, 0),
  (.iload 6, 69, .iload 6, 2, 0),
  (.invokestatic 7, 71, .invokevirtual 77, 3, 542),
  (.iload 4, 74, .iload 4, 2, 0),
  (.invokestatic 108, 76, .invokestatic 80, 3, 547),
  (.goto 46, 79, .goto 9, 3, 0),
  (.aload 0, 82, .aload_n 0, 1, 0),
  (.iload 6, 83, .iload 6, 2, 0),
  (.invokestatic 7, 85, .invokevirtual 77, 3, 542),
  (.invokestatic 9, 88, .invokevirtual 84, 3, 553),
  (.iastore, 91, .iastore, 1, 0),
  (.iload 7, 92, .iload 7, 2, 0),
  (.ifCond .eq 55, 94, .ifCond .eq 12, 3, 0),
  (.aload 0, 97, .aload_n 0, 1, 0),
  (.getfield 66, 98, .getfield 25, 3, 236),
  (.iload 6, 101, .iload 6, 2, 0),
  (.iaload, 103, .iaload, 1, 0),
  (.istore 4, 104, .istore 4, 2, 0),
  (.aload 0, 106, .aload_n 0, 1, 0),
  (.getfield 66, 107, .getfield 25, 3, 236),
  (.iload 6, 110, .iload 6, 2, 0),
  (.iaload, 112, .iaload, 1, 0),
  (.iconst (-1), 113, .iconst (-1), 1, 0),
  (.if_icmp .eq 62, 114, .if_icmp .eq 6, 3, 0),
  (.iinc 3 1, 117, .iinc 3 1, 3, 0),
  (.iinc 5 1, 120, .iinc 5 1, 3, 0),
  (.goto 6, 123, .goto (-115), 3, 0),
  (.iload 3, 126, .iload_n 3, 1, 0),
  (.ireturn, 127, .ireturn, 1, 0)]
/-- 7: WakeOrder$Capital.wakesAt(I)I -/
def lr7 : List LRow := [(.aload 0, 0, .aload_n 0, 1, 0),
  (.getfield 65, 1, .getfield 21, 3, 232),
  (.getfield 449, 4, .getfield 87, 3, 207),
  (.iload 1, 7, .iload_n 1, 1, 0),
  (.invokestatic 107, 8, .invokestatic 90, 3, 546),
  (.istore 2, 11, .istore_n 2, 1, 0),
  (.aload 0, 12, .aload_n 0, 1, 0),
  (.getfield 64, 13, .getfield 12, 3, 230),
  (.getfield 132, 16, .getfield 94, 3, 116),
  (.iload 1, 19, .iload_n 1, 1, 0),
  (.invokestatic 107, 20, .invokestatic 90, 3, 546),
  (.istore 3, 23, .istore_n 3, 1, 0),
  (.iload 3, 24, .iload_n 3, 1, 0),
  (.iconst (-1), 25, .iconst (-1), 1, 0),
  (.if_icmp .ne 17, 26, .if_icmp .ne 7, 3, 0),
  (.iload 2, 29, .iload_n 2, 1, 0),
  (.goto 23, 30, .goto 15, 3, 0),
  (.iload 2, 33, .iload_n 2, 1, 0),
  (.aload 0, 34, .aload_n 0, 1, 0),
  (.getfield 67, 35, .getfield 29, 3, 238),
  (.iload 3, 38, .iload_n 3, 1, 0),
  (.invokestatic 107, 39, .invokestatic 90, 3, 546),
  (.invokestatic 108, 42, .invokestatic 80, 3, 547),
  (.ireturn, 45, .ireturn, 1, 0)]
/-- 8: WakeOrder$Capital.work()I -/
def lr8 : List LRow := [(.iconst 0, 0, .iconst 0, 1, 0),
  (.istore 1, 1, .istore_n 1, 1, 0),
  (.aload 0, 2, .aload_n 0, 1, 0),
  (.getfield 66, 3, .getfield 25, 3, 236),
  (.iconst 0, 6, .iconst 0, 1, 0),
  (.aload 0, 7, .aload_n 0, 1, 0),
  (.getfield 68, 8, .getfield 32, 3, 241),
  (.iconst 0, 11, .iconst 0, 1, 0),
  (.iconst 6, 12, .bipush 6, 2, 0),
  (.invokedynamic 0, 14, .invokestatic 97, 3, 561),
  (.iconst 0, 17, .iconst 0, 1, 0),
  (.istore 2, 18, .istore_n 2, 1, 0),
  (.nop, 19, .iload_n 2, 0, 0),
  (.iload 2, 19, .iload_n 2, 1, 0),
  (.iconst 8, 20, .bipush 8, 2, 0),
  (.if_icmp .ge 90, 22, .if_icmp .ge 144, 3, 0),
  (.iload 2, 25, .iload_n 2, 1, 0),
  (.aload 0, 26, .aload_n 0, 1, 0),
  (.getfield 64, 27, .getfield 12, 3, 230),
  (.getfield 130, 30, .getfield 66, 3, 110),
  (.if_icmp .ge 90, 33, .if_icmp .ge 133, 3, 0),
  (.aload 0, 36, .aload_n 0, 1, 0),
  (.getfield 65, 37, .getfield 21, 3, 232),
  (.getfield 450, 40, .getfield 103, 3, 210),
  (.iload 2, 43, .iload_n 2, 1, 0),
  (.iaload, 44, .iaload, 1, 0),
  (.istore 3, 45, .istore_n 3, 1, 0),
  (.aload 0, 46, .aload_n 0, 1, 0),
  (.getfield 68, 47, .getfield 32, 3, 241),
  (.iload 3, 50, .iload_n 3, 1, 0),
  (.invokestatic 107, 51, .invokestatic 90, 3, 546),
  (.istore 4, 54, .istore 4, 2, 0),
  (.aload 0, 56, .aload_n 0, 1, 0),
  (.getfield 64, 57, .getfield 12, 3, 230),
  (.getfield 135, 60, .getfield 106, 3, 125),
  (.iload 2, 63, .iload_n 2, 1, 0),
  (.iaload, 64, .iaload, 1, 0),
  (.iconst (-1), 65, .iconst (-1), 1, 0),
  (.if_icmp .eq 50, 66, .if_icmp .eq 26, 3, 0),
  (.iload 4, 69, .iload 4, 2, 0),
  (.aload 0, 71, .aload_n 0, 1, 0),
  (.getfield 67, 72, .getfield 29, 3, 238),
  (.aload 0, 75, .aload_n 0, 1, 0),
  (.getfield 64, 76, .getfield 12, 3, 230),
  (.getfield 135, 79, .getfield 106, 3, 125),
  (.iload 2, 82, .iload_n 2, 1, 0),
  (.iaload, 83, .iaload, 1, 0),
  (.invokestatic 107, 84, .invokestatic 90, 3, 546),
  (.invokestatic 108, 87, .invokestatic 80, 3, 547),
  (.istore 4, 90, .istore 4, 2, 0),
  (.aload 0, 92, .aload_n 0, 1, 0),
  (.getfield 67, 93, .getfield 29, 3, 238),
  (.iload 2, 96, .iload_n 2, 1, 0),
  (.iload 4, 97, .iload 4, 2, 0),
  (.iconst (-1), 99, .iconst (-1), 1, 0),
  (.if_icmp .ne 58, 100, .if_icmp .ne 7, 3, 0),
  (.iconst (-1), 103, .iconst (-1), 1, 0),
  (.goto 67, 104, .goto 19, 3, 0),
  (.aload 0, 107, .aload_n 0, 1, 0),
  (.iload 4, 108, .iload 4, 2, 0),
  (.aload 0, 110, .aload_n 0, 1, 0),
  (.getfield 64, 111, .getfield 12, 3, 230),
  (.getfield 134, 114, .getfield 109, 3, 122),
  (.iload 2, 117, .iload_n 2, 1, 0),
  (.iaload, 118, .iaload, 1, 0),
  (.iadd, 119, .iadd, 1, 0),
  (.invokestatic 9, 120, .invokevirtual 84, 3, 553),
  (.iastore, 123, .iastore, 1, 0),
  (.aload 0, 124, .aload_n 0, 1, 0),
  (.getfield 68, 125, .getfield 32, 3, 241),
  (.iload 3, 128, .iload_n 3, 1, 0),
  (.invokestatic 106, 129, .invokestatic 73, 3, 541),
  (.ifCond .eq 81, 132, .ifCond .eq 15, 3, 0),
  (.aload 0, 135, .aload_n 0, 1, 0),
  (.getfield 68, 136, .getfield 32, 3, 241),
  (.iload 3, 139, .iload_n 3, 1, 0),
  (.aload 0, 140, .aload_n 0, 1, 0),
  (.getfield 67, 141, .getfield 29, 3, 238),
  (.iload 2, 144, .iload_n 2, 1, 0),
  (.iaload, 145, .iaload, 1, 0),
  (.iastore, 146, .iastore, 1, 0),
  (.aload 0, 147, .aload_n 0, 1, 0),
  (.getfield 67, 148, .getfield 29, 3, 238),
  (.iload 2, 151, .iload_n 2, 1, 0),
  (.iaload, 152, .iaload, 1, 0),
  (.iconst (-1), 153, .iconst (-1), 1, 0),
  (.if_icmp .eq 88, 154, .if_icmp .eq 6, 3, 0),
  (.iinc 1 1, 157, .iinc 1 1, 3, 0),
  (.iinc 2 1, 160, .iinc 2 1, 3, 0),
  (.goto 12, 163, .goto (-144), 3, 0),
  (.iload 1, 166, .iload_n 1, 1, 0),
  (.ireturn, 167, .ireturn, 1, 0)]
/-- 9: WakeOrder$Capital.inMorning(I)I -/
def lr9 : List LRow := [(.iload 1, 0, .iload_n 1, 1, 0),
  (.aload 0, 1, .aload_n 0, 1, 0),
  (.getfield 64, 2, .getfield 12, 3, 230),
  (.getfield 128, 5, .getfield 112, 3, 104),
  (.if_icmp .ge 7, 8, .if_icmp .ge 7, 3, 0),
  (.iload 1, 11, .iload_n 1, 1, 0),
  (.goto 8, 12, .goto 4, 3, 0),
  (.iconst (-1), 15, .iconst (-1), 1, 0),
  (.ireturn, 16, .ireturn, 1, 0)]
/-- 10: WakeOrder$Capital.orMorningsEnd(I)I -/
def lr10 : List LRow := [(.iload 1, 0, .iload_n 1, 1, 0),
  (.iconst (-1), 1, .iconst (-1), 1, 0),
  (.if_icmp .ne 7, 2, .if_icmp .ne 13, 3, 0),
  (.aload 0, 5, .aload_n 0, 1, 0),
  (.getfield 64, 6, .getfield 12, 3, 230),
  (.getfield 128, 9, .getfield 112, 3, 104),
  (.goto 8, 12, .goto 4, 3, 0),
  (.iload 1, 15, .iload_n 1, 1, 0),
  (.ireturn, 16, .ireturn, 1, 0)]
/-- 11: WakeOrder$Capital.stuckIn(LWakeOrder$Row;)I -/
def lr11 : List LRow := [(.iconst 0, 0, .iconst 0, 1, 0),
  (.istore 2, 1, .istore_n 2, 1, 0),
  (.iconst 0, 2, .iconst 0, 1, 0),
  (.istore 3, 3, .istore_n 3, 1, 0),
  (.nop, 4, .iload_n 3, 0, 0),
  (.iload 3, 4, .iload_n 3, 1, 0),
  (.aload 1, 5, .aload_n 1, 1, 0),
  (.getfield 385, 6, .getfield 61, 3, 193),
  (.if_icmp .ge 27, 9, .if_icmp .ge 36, 3, 0),
  (.aload 1, 12, .aload_n 1, 1, 0),
  (.iload 3, 13, .iload_n 3, 1, 0),
  (.invokestatic 44, 14, .invokevirtual 69, 3, 536),
  (.istore 4, 17, .istore 4, 2, 0),
  (.aload 0, 19, .aload_n 0, 1, 0),
  (.getfield 66, 20, .getfield 25, 3, 236),
  (.iload 4, 23, .iload 4, 2, 0),
  (.invokestatic 107, 25, .invokestatic 90, 3, 546),
  (.iconst (-1), 28, .iconst (-1), 1, 0),
  (.if_icmp .ne 25, 29, .if_icmp .ne 10, 3, 0),
  (.iload 2, 32, .iload_n 2, 1, 0),
  (.iconst 1, 33, .iconst 1, 1, 0),
  (.iload 4, 34, .iload 4, 2, 0),
  (.ishl, 36, .ishl, 1, 0),
  (.ior, 37, .ior, 1, 0),
  (.istore 2, 38, .istore_n 2, 1, 0),
  (.iinc 3 1, 39, .iinc 3 1, 3, 0),
  (.goto 4, 42, .goto (-38), 3, 0),
  (.iload 2, 45, .iload_n 2, 1, 0),
  (.ireturn, 46, .ireturn, 1, 0)]
/-- 12: WakeOrder$Capital.undoneJobs()I -/
def lr12 : List LRow := [(.iconst 0, 0, .iconst 0, 1, 0),
  (.istore 1, 1, .istore_n 1, 1, 0),
  (.iconst 0, 2, .iconst 0, 1, 0),
  (.istore 2, 3, .istore_n 2, 1, 0),
  (.nop, 4, .iload_n 2, 0, 0),
  (.iload 2, 4, .iload_n 2, 1, 0),
  (.iconst 8, 5, .bipush 8, 2, 0),
  (.if_icmp .ge 27, 7, .if_icmp .ge 36, 3, 0),
  (.iload 2, 10, .iload_n 2, 1, 0),
  (.aload 0, 11, .aload_n 0, 1, 0),
  (.getfield 64, 12, .getfield 12, 3, 230),
  (.getfield 130, 15, .getfield 66, 3, 110),
  (.if_icmp .ge 27, 18, .if_icmp .ge 25, 3, 0),
  (.aload 0, 21, .aload_n 0, 1, 0),
  (.getfield 67, 22, .getfield 29, 3, 238),
  (.iload 2, 25, .iload_n 2, 1, 0),
  (.iaload, 26, .iaload, 1, 0),
  (.iconst (-1), 27, .iconst (-1), 1, 0),
  (.if_icmp .ne 25, 28, .if_icmp .ne 9, 3, 0),
  (.iload 1, 31, .iload_n 1, 1, 0),
  (.iconst 1, 32, .iconst 1, 1, 0),
  (.iload 2, 33, .iload_n 2, 1, 0),
  (.ishl, 34, .ishl, 1, 0),
  (.ior, 35, .ior, 1, 0),
  (.istore 1, 36, .istore_n 1, 1, 0),
  (.iinc 2 1, 37, .iinc 2 1, 3, 0),
  (.goto 4, 40, .goto (-36), 3, 0),
  (.iload 1, 43, .iload_n 1, 1, 0),
  (.ireturn, 44, .ireturn, 1, 0)]
/-- 13: WakeOrder$Capital.isEarlier(II)Z -/
def lr13 : List LRow := [(.aload 0, 0, .aload_n 0, 1, 0),
  (.getfield 66, 1, .getfield 25, 3, 236),
  (.iload 1, 4, .iload_n 1, 1, 0),
  (.invokestatic 107, 5, .invokestatic 90, 3, 546),
  (.istore 3, 8, .istore_n 3, 1, 0),
  (.aload 0, 9, .aload_n 0, 1, 0),
  (.getfield 66, 10, .getfield 25, 3, 236),
  (.iload 2, 13, .iload_n 2, 1, 0),
  (.invokestatic 107, 14, .invokestatic 90, 3, 546),
  (.istore 4, 17, .istore 4, 2, 0),
  (.iload 3, 19, .iload_n 3, 1, 0),
  (.iconst (-1), 20, .iconst (-1), 1, 0),
  (.if_icmp .eq 21, 21, .if_icmp .eq 19, 3, 0),
  (.iload 4, 24, .iload 4, 2, 0),
  (.iconst (-1), 26, .iconst (-1), 1, 0),
  (.if_icmp .eq 19, 27, .if_icmp .eq 9, 3, 0),
  (.iload 3, 30, .iload_n 3, 1, 0),
  (.iload 4, 31, .iload 4, 2, 0),
  (.if_icmp .ge 21, 33, .if_icmp .ge 7, 3, 0),
  (.iconst 1, 36, .iconst 1, 1, 0),
  (.goto 22, 37, .goto 4, 3, 0),
  (.iconst 0, 40, .iconst 0, 1, 0),
  (.areturn, 41, .ireturn, 1, 0)]
/-- 14: WakeOrder$Capital.allDoneBy(II)Z -/
def lr14 : List LRow := [(.iconst 0, 0, .iconst 0, 1, 0),
  (.istore 3, 1, .istore_n 3, 1, 0),
  (.nop, 2, .iload_n 3, 0, 0),
  (.iload 3, 2, .iload_n 3, 1, 0),
  (.aload 0, 3, .aload_n 0, 1, 0),
  (.getfield 67, 4, .getfield 29, 3, 238),
  (.arraylength, 7, .arraylength, 1, 0),
  (.if_icmp .ge 31, 8, .if_icmp .ge 40, 3, 0),
  (.iload 1, 11, .iload_n 1, 1, 0),
  (.iload 3, 12, .iload_n 3, 1, 0),
  (.ishr, 13, .ishr, 1, 0),
  (.iconst 1, 14, .iconst 1, 1, 0),
  (.iand, 15, .iand, 1, 0),
  (.iconst 1, 16, .iconst 1, 1, 0),
  (.if_icmp .ne 29, 17, .if_icmp .ne 25, 3, 0),
  (.aload 0, 20, .aload_n 0, 1, 0),
  (.getfield 67, 21, .getfield 29, 3, 238),
  (.iload 3, 24, .iload_n 3, 1, 0),
  (.iaload, 25, .iaload, 1, 0),
  (.iconst (-1), 26, .iconst (-1), 1, 0),
  (.if_icmp .eq 27, 27, .if_icmp .eq 13, 3, 0),
  (.aload 0, 30, .aload_n 0, 1, 0),
  (.getfield 67, 31, .getfield 29, 3, 238),
  (.iload 3, 34, .iload_n 3, 1, 0),
  (.iaload, 35, .iaload, 1, 0),
  (.iload 2, 36, .iload_n 2, 1, 0),
  (.if_icmp .le 29, 37, .if_icmp .le 5, 3, 0),
  (.iconst 0, 40, .iconst 0, 1, 0),
  (.areturn, 41, .ireturn, 1, 0),
  (.iinc 3 1, 42, .iinc 3 1, 3, 0),
  (.goto 2, 45, .goto (-43), 3, 0),
  (.iconst 1, 48, .iconst 1, 1, 0),
  (.areturn, 49, .ireturn, 1, 0)]
/-- 15: WakeOrder$Capital.upOfOthers(LWakeOrder$Row;I)I -/
def lr15 : List LRow := [(.iconst 0, 0, .iconst 0, 1, 0),
  (.istore 3, 1, .istore_n 3, 1, 0),
  (.iconst 0, 2, .iconst 0, 1, 0),
  (.istore 4, 3, .istore 4, 2, 0),
  (.nop, 5, .iload 4, 0, 0),
  (.iload 4, 5, .iload 4, 2, 0),
  (.aload 1, 7, .aload_n 1, 1, 0),
  (.getfield 385, 8, .getfield 61, 3, 193),
  (.if_icmp .ge 27, 11, .if_icmp .ge 39, 3, 0),
  (.aload 1, 14, .aload_n 1, 1, 0),
  (.iload 4, 15, .iload 4, 2, 0),
  (.invokestatic 44, 17, .invokevirtual 69, 3, 536),
  (.istore 5, 20, .istore 5, 2, 0),
  (.iload 5, 22, .iload 5, 2, 0),
  (.iload 2, 24, .iload_n 2, 1, 0),
  (.if_icmp .eq 25, 25, .if_icmp .eq 19, 3, 0),
  (.iload 3, 28, .iload_n 3, 1, 0),
  (.aload 0, 29, .aload_n 0, 1, 0),
  (.aload 0, 30, .aload_n 0, 1, 0),
  (.getfield 66, 31, .getfield 25, 3, 236),
  (.iload 5, 34, .iload 5, 2, 0),
  (.invokestatic 107, 36, .invokestatic 90, 3, 546),
  (.invokestatic 10, 39, .invokevirtual 115, 3, 725),
  (.iadd, 42, .iadd, 1, 0),
  (.istore 3, 43, .istore_n 3, 1, 0),
  (.iinc 4 1, 44, .iinc 4 1, 3, 0),
  (.goto 4, 47, .goto (-42), 3, 0),
  (.iload 3, 50, .iload_n 3, 1, 0),
  (.ireturn, 51, .ireturn, 1, 0)]
/-- 16: WakeOrder$City.<init>()V -/
def lr16 : List LRow := [(.aload 0, 0, .aload_n 0, 1, 0),
  (.pop, 1, .invokespecial 3, 3, 100),
  (.aload 0, 4, .aload_n 0, 1, 0),
  (.iconst 6, 5, .bipush 6, 2, 0),
  (.newarray .int, 7, .newarray .int, 2, 0),
  (.putstatic 131, 9, .putfield 9, 3, 113),
  (.aload 0, 12, .aload_n 0, 1, 0),
  (.iconst 6, 13, .bipush 6, 2, 0),
  (.newarray .int, 15, .newarray .int, 2, 0),
  (.putstatic 132, 17, .putfield 15, 3, 115),
  (.aload 0, 20, .aload_n 0, 1, 0),
  (.iconst 8, 21, .bipush 8, 2, 0),
  (.newarray .int, 23, .newarray .int, 2, 0),
  (.putstatic 133, 25, .putfield 18, 3, 119),
  (.aload 0, 28, .aload_n 0, 1, 0),
  (.iconst 8, 29, .bipush 8, 2, 0),
  (.newarray .int, 31, .newarray .int, 2, 0),
  (.putstatic 134, 33, .putfield 21, 3, 121),
  (.aload 0, 36, .aload_n 0, 1, 0),
  (.iconst 8, 37, .bipush 8, 2, 0),
  (.newarray .int, 39, .newarray .int, 2, 0),
  (.putstatic 135, 41, .putfield 24, 3, 124),
  (.return_, 44, .return_, 1, 0)]
/-- 17: WakeOrder$City.clear()V -/
def lr17 : List LRow := [(.aload 0, 0, .aload_n 0, 1, 0),
  (.iconst 0, 1, .iconst 0, 1, 0),
  (.putfield 128, 2, .putfield 27, 3, 101),
  (.aload 0, 5, .aload_n 0, 1, 0),
  (.iconst 0, 6, .iconst 0, 1, 0),
  (.putfield 129, 7, .putfield 31, 3, 106),
  (.aload 0, 10, .aload_n 0, 1, 0),
  (.iconst 0, 11, .iconst 0, 1, 0),
  (.putfield 130, 12, .putfield 34, 3, 109),
  (.return_, 15, .return_, 1, 0)]
/-- 18: WakeOrder$City.become(LWakeOrder$City;)V -/
def lr18 : List LRow := [(.aload 0, 0, .aload_n 0, 1, 0),
  (.aload 1, 1, .aload_n 1, 1, 0),
  (.getfield 128, 2, .getfield 27, 3, 101),
  (.putfield 128, 5, .putfield 27, 3, 101),
  (.aload 0, 8, .aload_n 0, 1, 0),
  (.aload 1, 9, .aload_n 1, 1, 0),
  (.getfield 129, 10, .getfield 31, 3, 106),
  (.putfield 129, 13, .putfield 31, 3, 106),
  (.aload 0, 16, .aload_n 0, 1, 0),
  (.aload 1, 17, .aload_n 1, 1, 0),
  (.getfield 130, 18, .getfield 34, 3, 109),
  (.putfield 130, 21, .putfield 34, 3, 109),
  (.aload 1, 24, .aload_n 1, 1, 0),
  (.getfield 131, 25, .getfield 9, 3, 113),
  (.iconst 0, 28, .iconst 0, 1, 0),
  (.aload 0, 29, .aload_n 0, 1, 0),
  (.getfield 131, 30, .getfield 9, 3, 113),
  (.iconst 0, 33, .iconst 0, 1, 0),
  (.iconst 6, 34, .bipush 6, 2, 0),
  (.invokedynamic 0, 36, .invokestatic 37, 3, 486),
  (.aload 1, 39, .aload_n 1, 1, 0),
  (.getfield 132, 40, .getfield 15, 3, 115),
  (.iconst 0, 43, .iconst 0, 1, 0),
  (.aload 0, 44, .aload_n 0, 1, 0),
  (.getfield 132, 45, .getfield 15, 3, 115),
  (.iconst 0, 48, .iconst 0, 1, 0),
  (.iconst 6, 49, .bipush 6, 2, 0),
  (.invokedynamic 0, 51, .invokestatic 37, 3, 486),
  (.aload 1, 54, .aload_n 1, 1, 0),
  (.getfield 133, 55, .getfield 18, 3, 119),
  (.iconst 0, 58, .iconst 0, 1, 0),
  (.aload 0, 59, .aload_n 0, 1, 0),
  (.getfield 133, 60, .getfield 18, 3, 119),
  (.iconst 0, 63, .iconst 0, 1, 0),
  (.iconst 8, 64, .bipush 8, 2, 0),
  (.invokedynamic 0, 66, .invokestatic 37, 3, 486),
  (.aload 1, 69, .aload_n 1, 1, 0),
  (.getfield 134, 70, .getfield 21, 3, 121),
  (.iconst 0, 73, .iconst 0, 1, 0),
  (.aload 0, 74, .aload_n 0, 1, 0),
  (.getfield 134, 75, .getfield 21, 3, 121),
  (.iconst 0, 78, .iconst 0, 1, 0),
  (.iconst 8, 79, .bipush 8, 2, 0),
  (.invokedynamic 0, 81, .invokestatic 37, 3, 486),
  (.aload 1, 84, .aload_n 1, 1, 0),
  (.getfield 135, 85, .getfield 24, 3, 124),
  (.iconst 0, 88, .iconst 0, 1, 0),
  (.aload 0, 89, .aload_n 0, 1, 0),
  (.getfield 135, 90, .getfield 24, 3, 124),
  (.iconst 0, 93, .iconst 0, 1, 0),
  (.iconst 8, 94, .bipush 8, 2, 0),
  (.invokedynamic 0, 96, .invokestatic 37, 3, 486),
  (.return_, 99, .return_, 1, 0)]
/-- 19: WakeOrder$City.addPerson(I)V -/
def lr19 : List LRow := [(.aload 0, 0, .aload_n 0, 1, 0),
  (.getfield 129, 1, .getfield 31, 3, 106),
  (.iconst 6, 4, .bipush 6, 2, 0),
  (.if_icmp .ge 22, 6, .if_icmp .ge 33, 3, 0),
  (.aload 0, 9, .aload_n 0, 1, 0),
  (.getfield 131, 10, .getfield 9, 3, 113),
  (.aload 0, 13, .aload_n 0, 1, 0),
  (.getfield 129, 14, .getfield 31, 3, 106),
  (.iload 1, 17, .iload_n 1, 1, 0),
  (.iastore, 18, .iastore, 1, 0),
  (.aload 0, 19, .aload_n 0, 1, 0),
  (.getfield 132, 20, .getfield 15, 3, 115),
  (.aload 0, 23, .aload_n 0, 1, 0),
  (.getfield 129, 24, .getfield 31, 3, 106),
  (.iconst (-1), 27, .iconst (-1), 1, 0),
  (.iastore, 28, .iastore, 1, 0),
  (.aload 0, 29, .aload_n 0, 1, 0),
  (.dup, 30, .dup, 1, 0),
  (.getfield 129, 31, .getfield 31, 3, 106),
  (.iconst 1, 34, .iconst 1, 1, 0),
  (.iadd, 35, .iadd, 1, 0),
  (.putfield 129, 36, .putfield 31, 3, 106),
  (.return_, 39, .return_, 1, 0)]
/-- 20: WakeOrder$City.addJob(III)V -/
def lr20 : List LRow := [(.aload 0, 0, .aload_n 0, 1, 0),
  (.getfield 130, 1, .getfield 34, 3, 109),
  (.iconst 8, 4, .bipush 8, 2, 0),
  (.if_icmp .ge 28, 6, .if_icmp .ge 43, 3, 0),
  (.aload 0, 9, .aload_n 0, 1, 0),
  (.getfield 133, 10, .getfield 18, 3, 119),
  (.aload 0, 13, .aload_n 0, 1, 0),
  (.getfield 130, 14, .getfield 34, 3, 109),
  (.iload 1, 17, .iload_n 1, 1, 0),
  (.iastore, 18, .iastore, 1, 0),
  (.aload 0, 19, .aload_n 0, 1, 0),
  (.getfield 134, 20, .getfield 21, 3, 121),
  (.aload 0, 23, .aload_n 0, 1, 0),
  (.getfield 130, 24, .getfield 34, 3, 109),
  (.iload 2, 27, .iload_n 2, 1, 0),
  (.iastore, 28, .iastore, 1, 0),
  (.aload 0, 29, .aload_n 0, 1, 0),
  (.getfield 135, 30, .getfield 24, 3, 124),
  (.aload 0, 33, .aload_n 0, 1, 0),
  (.getfield 130, 34, .getfield 34, 3, 109),
  (.iload 3, 37, .iload_n 3, 1, 0),
  (.iastore, 38, .iastore, 1, 0),
  (.aload 0, 39, .aload_n 0, 1, 0),
  (.dup, 40, .dup, 1, 0),
  (.getfield 130, 41, .getfield 34, 3, 109),
  (.iconst 1, 44, .iconst 1, 1, 0),
  (.iadd, 45, .iadd, 1, 0),
  (.putfield 130, 46, .putfield 34, 3, 109),
  (.return_, 49, .return_, 1, 0)]
/-- 21: WakeOrder$History.<init>()V -/
def lr21 : List LRow := [(.aload 0, 0, .aload_n 0, 1, 0),
  (.pop, 1, .invokespecial 3, 3, 258),
  (.aload 0, 4, .aload_n 0, 1, 0),
  (.iconst 20, 5, .bipush 20, 2, 0),
  (.anewarray 0, 7, .anewarray 9, 3, 259),
  (.putstatic 192, 10, .putfield 11, 3, 262),
  (.iconst 0, 13, .iconst 0, 1, 0),
  (.istore 1, 14, .istore_n 1, 1, 0),
  (.nop, 15, .iload_n 1, 0, 0),
  (.iload 1, 15, .iload_n 1, 1, 0),
  (.aload 0, 16, .aload_n 0, 1, 0),
  (.getfield 192, 17, .getfield 11, 3, 262),
  (.arraylength, 20, .arraylength, 1, 0),
  (.if_icmp .ge 23, 21, .if_icmp .ge 22, 3, 0),
  (.aload 0, 24, .aload_n 0, 1, 0),
  (.getfield 192, 25, .getfield 11, 3, 262),
  (.iload 1, 28, .iload_n 1, 1, 0),
  (.new 7, 29, .new 9, 3, 259),
  (.dup, 32, .dup, 1, 0),
  (.invokestatic 54, 33, .invokespecial 17, 3, 261),
  (.aastore, 36, .aastore, 1, 0),
  (.iinc 1 1, 37, .iinc 1 1, 3, 0),
  (.goto 8, 40, .goto (-25), 3, 0),
  (.return_, 43, .return_, 1, 0)]
/-- 22: WakeOrder$History.remember(LWakeOrder$State;)V -/
def lr22 : List LRow := [(.aload 0, 0, .aload_n 0, 1, 0),
  (.getfield 193, 1, .getfield 18, 3, 263),
  (.ifCond .lt 9, 4, .ifCond .lt 15, 3, 0),
  (.aload 0, 7, .aload_n 0, 1, 0),
  (.getfield 193, 8, .getfield 18, 3, 263),
  (.aload 0, 11, .aload_n 0, 1, 0),
  (.getfield 192, 12, .getfield 11, 3, 262),
  (.arraylength, 15, .arraylength, 1, 0),
  (.if_icmp .lt 12, 16, .if_icmp .lt 8, 3, 0),
  (.aload 0, 19, .aload_n 0, 1, 0),
  (.iconst 0, 20, .iconst 0, 1, 0),
  (.putfield 193, 21, .putfield 18, 3, 263),
  (.aload 0, 24, .aload_n 0, 1, 0),
  (.getfield 192, 25, .getfield 11, 3, 262),
  (.aload 0, 28, .aload_n 0, 1, 0),
  (.getfield 193, 29, .getfield 18, 3, 263),
  (.aaload, 32, .aaload, 1, 0),
  (.astore 2, 33, .astore_n 2, 1, 0),
  (.aload 2, 34, .aload_n 2, 1, 0),
  (.ifnull 23, 35, .ifnull 8, 3, 0),
  (.aload 2, 38, .aload_n 2, 1, 0),
  (.aload 1, 39, .aload_n 1, 1, 0),
  (.invokestatic 56, 40, .invokevirtual 22, 3, 618),
  (.aload 0, 43, .aload_n 0, 1, 0),
  (.dup, 44, .dup, 1, 0),
  (.getfield 193, 45, .getfield 18, 3, 263),
  (.iconst 1, 48, .iconst 1, 1, 0),
  (.iadd, 49, .iadd, 1, 0),
  (.putfield 193, 50, .putfield 18, 3, 263),
  (.aload 0, 53, .aload_n 0, 1, 0),
  (.aload 0, 54, .aload_n 0, 1, 0),
  (.getfield 194, 55, .getfield 26, 3, 264),
  (.iconst 1, 58, .iconst 1, 1, 0),
  (.iadd, 59, .iadd, 1, 0),
  (.iconst 20, 60, .bipush 20, 2, 0),
  (.invokeinterface 1 0, 62, .invokestatic 29, 3, 627),
  (.putfield 194, 65, .putfield 26, 3, 264),
  (.return_, 68, .return_, 1, 0)]
/-- 23: WakeOrder$History.takeBack(LWakeOrder$State;)Z -/
def lr23 : List LRow := [(.aload 0, 0, .aload_n 0, 1, 0),
  (.getfield 194, 1, .getfield 26, 3, 264),
  (.ifCond .ne 5, 4, .ifCond .ne 5, 3, 0),
  (.iconst 0, 7, .iconst 0, 1, 0),
  (.areturn, 8, .ireturn, 1, 0),
  (.aload 0, 9, .aload_n 0, 1, 0),
  (.aload 0, 10, .aload_n 0, 1, 0),
  (.getfield 193, 11, .getfield 18, 3, 263),
  (.ifCond .le 14, 14, .ifCond .le 12, 3, 0),
  (.aload 0, 17, .aload_n 0, 1, 0),
  (.getfield 193, 18, .getfield 18, 3, 263),
  (.iconst 1, 21, .iconst 1, 1, 0),
  (.isub, 22, .isub, 1, 0),
  (.goto 19, 23, .goto 10, 3, 0),
  (.aload 0, 26, .aload_n 0, 1, 0),
  (.getfield 192, 27, .getfield 11, 3, 262),
  (.arraylength, 30, .arraylength, 1, 0),
  (.iconst 1, 31, .iconst 1, 1, 0),
  (.isub, 32, .isub, 1, 0),
  (.putfield 193, 33, .putfield 18, 3, 263),
  (.aload 0, 36, .aload_n 0, 1, 0),
  (.getfield 193, 37, .getfield 18, 3, 263),
  (.aload 0, 40, .aload_n 0, 1, 0),
  (.getfield 192, 41, .getfield 11, 3, 262),
  (.arraylength, 44, .arraylength, 1, 0),
  (.if_icmp .ge 32, 45, .if_icmp .ge 15, 3, 0),
  (.aload 0, 48, .aload_n 0, 1, 0),
  (.getfield 192, 49, .getfield 11, 3, 262),
  (.aload 0, 52, .aload_n 0, 1, 0),
  (.getfield 193, 53, .getfield 18, 3, 263),
  (.aaload, 56, .aaload, 1, 0),
  (.goto 33, 57, .goto 4, 3, 0),
  (.aconst_null, 60, .aconst_null, 1, 0),
  (.astore 2, 61, .astore_n 2, 1, 0),
  (.aload 2, 62, .aload_n 2, 1, 0),
  (.ifnull 39, 63, .ifnull 8, 3, 0),
  (.aload 1, 66, .aload_n 1, 1, 0),
  (.aload 2, 67, .aload_n 2, 1, 0),
  (.invokestatic 56, 68, .invokevirtual 22, 3, 618),
  (.aload 0, 71, .aload_n 0, 1, 0),
  (.dup, 72, .dup, 1, 0),
  (.getfield 194, 73, .getfield 26, 3, 264),
  (.iconst 1, 76, .iconst 1, 1, 0),
  (.isub, 77, .isub, 1, 0),
  (.putfield 194, 78, .putfield 26, 3, 264),
  (.iconst 1, 81, .iconst 1, 1, 0),
  (.areturn, 82, .ireturn, 1, 0)]
/-- 24: WakeOrder$History.forget()V -/
def lr24 : List LRow := [(.aload 0, 0, .aload_n 0, 1, 0),
  (.iconst 0, 1, .iconst 0, 1, 0),
  (.putfield 194, 2, .putfield 26, 3, 264),
  (.return_, 5, .return_, 1, 0)]
/-- 25: WakeOrder$Images.<init>()V -/
def lr25 : List LRow := [(.aload 0, 0, .aload_n 0, 1, 0),
  (.pop, 1, .invokespecial 3, 3, 278),
  (.aload 0, 4, .aload_n 0, 1, 0),
  (.iconst 2, 5, .iconst 2, 1, 0),
  (.anewarray 0, 6, .anewarray 9, 3, 279),
  (.putstatic 256, 9, .putfield 11, 3, 281),
  (.aload 0, 12, .aload_n 0, 1, 0),
  (.iconst 2, 13, .iconst 2, 1, 0),
  (.newarray .int, 14, .newarray .int, 2, 0),
  (.putstatic 257, 16, .putfield 17, 3, 282),
  (.aload 0, 19, .aload_n 0, 1, 0),
  (.iconst 2, 20, .iconst 2, 1, 0),
  (.newarray .boolean, 21, .newarray .boolean, 2, 0),
  (.putstatic 258, 23, .putfield 21, 3, 284),
  (.iconst 0, 26, .iconst 0, 1, 0),
  (.istore 1, 27, .istore_n 1, 1, 0),
  (.nop, 28, .iload_n 1, 0, 0),
  (.iload 1, 28, .iload_n 1, 1, 0),
  (.aload 0, 29, .aload_n 0, 1, 0),
  (.getfield 256, 30, .getfield 11, 3, 281),
  (.arraylength, 33, .arraylength, 1, 0),
  (.if_icmp .ge 31, 34, .if_icmp .ge 22, 3, 0),
  (.aload 0, 37, .aload_n 0, 1, 0),
  (.getfield 256, 38, .getfield 11, 3, 281),
  (.iload 1, 41, .iload_n 1, 1, 0),
  (.new 7, 42, .new 9, 3, 279),
  (.dup, 45, .dup, 1, 0),
  (.invokestatic 54, 46, .invokespecial 25, 3, 280),
  (.aastore, 49, .aastore, 1, 0),
  (.iinc 1 1, 50, .iinc 1 1, 3, 0),
  (.goto 16, 53, .goto (-25), 3, 0),
  (.return_, 56, .return_, 1, 0)]
/-- 26: WakeOrder$Images.store(ILWakeOrder$State;I)V -/
def lr26 : List LRow := [(.iload 1, 0, .iload_n 1, 1, 0),
  (.ifCond .lt 12, 1, .ifCond .lt 21, 3, 0),
  (.iload 1, 4, .iload_n 1, 1, 0),
  (.aload 0, 5, .aload_n 0, 1, 0),
  (.getfield 256, 6, .getfield 11, 3, 281),
  (.arraylength, 9, .arraylength, 1, 0),
  (.if_icmp .ge 12, 10, .if_icmp .ge 12, 3, 0),
  (.aload 0, 13, .aload_n 0, 1, 0),
  (.getfield 256, 14, .getfield 11, 3, 281),
  (.iload 1, 17, .iload_n 1, 1, 0),
  (.aaload, 18, .aaload, 1, 0),
  (.goto 13, 19, .goto 4, 3, 0),
  (.aconst_null, 22, .aconst_null, 1, 0),
  (.astore 4, 23, .astore 4, 2, 0),
  (.aload 4, 25, .aload 4, 2, 0),
  (.ifnull 29, 27, .ifnull 23, 3, 0),
  (.aload 4, 30, .aload 4, 2, 0),
  (.aload 2, 32, .aload_n 2, 1, 0),
  (.invokestatic 56, 33, .invokevirtual 26, 3, 842),
  (.aload 0, 36, .aload_n 0, 1, 0),
  (.getfield 257, 37, .getfield 17, 3, 282),
  (.iload 1, 40, .iload_n 1, 1, 0),
  (.iload 3, 41, .iload_n 3, 1, 0),
  (.iastore, 42, .iastore, 1, 0),
  (.aload 0, 43, .aload_n 0, 1, 0),
  (.getfield 258, 44, .getfield 21, 3, 284),
  (.iload 1, 47, .iload_n 1, 1, 0),
  (.iconst 1, 48, .iconst 1, 1, 0),
  (.bastore, 49, .bastore, 1, 0),
  (.return_, 50, .return_, 1, 0)]
/-- 27: WakeOrder$Images.restore(ILWakeOrder$State;)V -/
def lr27 : List LRow := [(.iload 1, 0, .iload_n 1, 1, 0),
  (.ifCond .lt 12, 1, .ifCond .lt 21, 3, 0),
  (.iload 1, 4, .iload_n 1, 1, 0),
  (.aload 0, 5, .aload_n 0, 1, 0),
  (.getfield 256, 6, .getfield 11, 3, 281),
  (.arraylength, 9, .arraylength, 1, 0),
  (.if_icmp .ge 12, 10, .if_icmp .ge 12, 3, 0),
  (.aload 0, 13, .aload_n 0, 1, 0),
  (.getfield 256, 14, .getfield 11, 3, 281),
  (.iload 1, 17, .iload_n 1, 1, 0),
  (.aaload, 18, .aaload, 1, 0),
  (.goto 13, 19, .goto 4, 3, 0),
  (.aconst_null, 22, .aconst_null, 1, 0),
  (.astore 3, 23, .astore_n 3, 1, 0),
  (.aload 3, 24, .aload_n 3, 1, 0),
  (.ifnull 19, 25, .ifnull 8, 3, 0),
  (.aload 2, 28, .aload_n 2, 1, 0),
  (.aload 3, 29, .aload_n 3, 1, 0),
  (.invokestatic 56, 30, .invokevirtual 26, 3, 842),
  (.return_, 33, .return_, 1, 0)]
/-- 28: WakeOrder$Images.forget()V -/
def lr28 : List LRow := [(.iconst 0, 0, .iconst 0, 1, 0),
  (.istore 1, 1, .istore_n 1, 1, 0),
  (.nop, 2, .iload_n 1, 0, 0),
  (.iload 1, 2, .iload_n 1, 1, 0),
  (.aload 0, 3, .aload_n 0, 1, 0),
  (.getfield 258, 4, .getfield 21, 3, 284),
  (.arraylength, 7, .arraylength, 1, 0),
  (.if_icmp .ge 15, 8, .if_icmp .ge 16, 3, 0),
  (.aload 0, 11, .aload_n 0, 1, 0),
  (.getfield 258, 12, .getfield 21, 3, 284),
  (.iload 1, 15, .iload_n 1, 1, 0),
  (.iconst 0, 16, .iconst 0, 1, 0),
  (.bastore, 17, .bastore, 1, 0),
  (.iinc 1 1, 18, .iinc 1 1, 3, 0),
  (.goto 2, 21, .goto (-19), 3, 0),
  (.return_, 24, .return_, 1, 0)]
/-- 29: WakeOrder$Reader.<init>()V -/
def lr29 : List LRow := [(.aload 0, 0, .aload_n 0, 1, 0),
  (.pop, 1, .invokespecial 3, 3, 94),
  (.aload 0, 4, .aload_n 0, 1, 0),
  (.iconst 220, 5, .sipush 220, 3, 0),
  (.newarray .int, 8, .newarray .int, 2, 0),
  (.putstatic 320, 10, .putfield 9, 3, 145),
  (.aload 0, 13, .aload_n 0, 1, 0),
  (.new 2, 14, .new 15, 3, 95),
  (.dup, 17, .dup, 1, 0),
  (.invokestatic 16, 18, .invokespecial 17, 3, 97),
  (.putstatic 321, 21, .putfield 18, 3, 146),
  (.aload 0, 24, .aload_n 0, 1, 0),
  (.iconst (-1), 25, .iconst (-1), 1, 0),
  (.putfield 324, 26, .putfield 22, 3, 152),
  (.return_, 29, .return_, 1, 0)]
/-- 30: WakeOrder$Reader.append(I)Z -/
def lr30 : List LRow := [(.aload 0, 0, .aload_n 0, 1, 0),
  (.getfield 322, 1, .getfield 26, 3, 148),
  (.ifCond .lt 9, 4, .ifCond .lt 15, 3, 0),
  (.aload 0, 7, .aload_n 0, 1, 0),
  (.getfield 322, 8, .getfield 26, 3, 148),
  (.aload 0, 11, .aload_n 0, 1, 0),
  (.getfield 320, 12, .getfield 9, 3, 145),
  (.arraylength, 15, .arraylength, 1, 0),
  (.if_icmp .lt 11, 16, .if_icmp .lt 5, 3, 0),
  (.iconst 0, 19, .iconst 0, 1, 0),
  (.areturn, 20, .ireturn, 1, 0),
  (.aload 0, 21, .aload_n 0, 1, 0),
  (.getfield 320, 22, .getfield 9, 3, 145),
  (.aload 0, 25, .aload_n 0, 1, 0),
  (.getfield 322, 26, .getfield 26, 3, 148),
  (.iload 1, 29, .iload_n 1, 1, 0),
  (.iastore, 30, .iastore, 1, 0),
  (.aload 0, 31, .aload_n 0, 1, 0),
  (.dup, 32, .dup, 1, 0),
  (.getfield 322, 33, .getfield 26, 3, 148),
  (.iconst 1, 36, .iconst 1, 1, 0),
  (.iadd, 37, .iadd, 1, 0),
  (.putfield 322, 38, .putfield 26, 3, 148),
  (.iconst 1, 41, .iconst 1, 1, 0),
  (.areturn, 42, .ireturn, 1, 0)]
/-- 31: WakeOrder$Reader.readText()V -/
def lr31 : List LRow := [(.aload 0, 0, .aload_n 0, 1, 0),
  (.getfield 321, 1, .getfield 18, 3, 146),
  (.invokestatic 17, 4, .invokevirtual 29, 3, 420),
  (.aload 0, 7, .aload_n 0, 1, 0),
  (.iconst 0, 8, .iconst 0, 1, 0),
  (.putfield 325, 9, .putfield 32, 3, 154),
  (.aload 0, 12, .aload_n 0, 1, 0),
  (.iconst 0, 13, .iconst 0, 1, 0),
  (.putfield 323, 14, .putfield 35, 3, 151),
  (.aload 0, 17, .aload_n 0, 1, 0),
  (.iconst (-1), 18, .iconst (-1), 1, 0),
  (.putfield 324, 19, .putfield 22, 3, 152),
  (.iconst 0, 22, .iconst 0, 1, 0),
  (.istore 1, 23, .istore_n 1, 1, 0),
  (.nop, 24, .iload_n 1, 0, 0),
  (.iload 1, 24, .iload_n 1, 1, 0),
  (.iconst 220, 25, .sipush 220, 3, 0),
  (.if_icmp .gt 33, 28, .if_icmp .gt 38, 3, 0),
  (.aload 0, 31, .aload_n 0, 1, 0),
  (.invokestatic 37, 32, .invokevirtual 38, 3, 424),
  (.aload 0, 35, .aload_n 0, 1, 0),
  (.getfield 325, 36, .getfield 32, 3, 154),
  (.aload 0, 39, .aload_n 0, 1, 0),
  (.getfield 322, 40, .getfield 26, 3, 148),
  (.if_icmp .ge 33, 43, .if_icmp .ge 23, 3, 0),
  (.aload 0, 46, .aload_n 0, 1, 0),
  (.getfield 323, 47, .getfield 35, 3, 151),
  (.ifCond .eq 29, 50, .ifCond .eq 6, 3, 0),
  (.goto 33, 53, .goto 13, 3, 0),
  (.aload 0, 56, .aload_n 0, 1, 0),
  (.invokestatic 32, 57, .invokevirtual 41, 3, 432),
  (.iinc 1 1, 60, .iinc 1 1, 3, 0),
  (.goto 14, 63, .goto (-39), 3, 0),
  (.aload 0, 66, .aload_n 0, 1, 0),
  (.iconst 0, 67, .iconst 0, 1, 0),
  (.putfield 322, 68, .putfield 26, 3, 148),
  (.return_, 71, .return_, 1, 0)]
/-- 32: WakeOrder$Reader.readClause()V -/
def lr32 : List LRow := [(.aload 0, 0, .aload_n 0, 1, 0),
  (.invokestatic 38, 1, .invokevirtual 44, 3, 428),
  (.istore 1, 4, .istore_n 1, 1, 0),
  (.aload 0, 5, .aload_n 0, 1, 0),
  (.getfield 325, 6, .getfield 32, 3, 154),
  (.istore 2, 9, .istore_n 2, 1, 0),
  (.aload 0, 10, .aload_n 0, 1, 0),
  (.dup, 11, .dup, 1, 0),
  (.getfield 325, 12, .getfield 32, 3, 154),
  (.iconst 1, 15, .iconst 1, 1, 0),
  (.iadd, 16, .iadd, 1, 0),
  (.putfield 325, 17, .putfield 32, 3, 154),
  (.aload 0, 20, .aload_n 0, 1, 0),
  (.getfield 321, 21, .getfield 18, 3, 146),
  (.getfield 128, 24, .getfield 48, 3, 102),
  (.ifCond .ne 24, 27, .ifCond .ne 16, 3, 0),
  (.iload 1, 30, .iload_n 1, 1, 0),
  (.iconst 99, 31, .bipush 99, 2, 0),
  (.if_icmp .eq 24, 33, .if_icmp .eq 10, 3, 0),
  (.aload 0, 36, .aload_n 0, 1, 0),
  (.iconst 1, 37, .iconst 1, 1, 0),
  (.iload 2, 38, .iload_n 2, 1, 0),
  (.invokestatic 42, 39, .invokevirtual 51, 3, 436),
  (.return_, 42, .return_, 1, 0),
  (.iload 1, 43, .iload_n 1, 1, 0),
  (.lookupswitch 41 #[(99, 26), (106, 34), (112, 30), (119, 38)], 44, .lookupswitch 75 #[(99, 44), (106, 60), (112, 52), (119, 68)], 44, 0),
  (.aload 0, 88, .aload_n 0, 1, 0),
  (.iload 2, 89, .iload_n 2, 1, 0),
  (.invokestatic 33, 90, .invokevirtual 55, 3, 440),
  (.goto 45, 93, .goto 32, 3, 0),
  (.aload 0, 96, .aload_n 0, 1, 0),
  (.iload 2, 97, .iload_n 2, 1, 0),
  (.invokestatic 34, 98, .invokevirtual 59, 3, 456),
  (.goto 45, 101, .goto 24, 3, 0),
  (.aload 0, 104, .aload_n 0, 1, 0),
  (.iload 2, 105, .iload_n 2, 1, 0),
  (.invokestatic 35, 106, .invokevirtual 62, 3, 464),
  (.goto 45, 109, .goto 16, 3, 0),
  (.aload 0, 112, .aload_n 0, 1, 0),
  (.invokestatic 36, 113, .invokevirtual 65, 3, 472),
  (.goto 45, 116, .goto 9, 3, 0),
  (.aload 0, 119, .aload_n 0, 1, 0),
  (.iconst 1, 120, .iconst 1, 1, 0),
  (.iload 2, 121, .iload_n 2, 1, 0),
  (.invokestatic 42, 122, .invokevirtual 51, 3, 436),
  (.return_, 125, .return_, 1, 0)]
/-- 33: WakeOrder$Reader.readMorning(I)V -/
def lr33 : List LRow := [(.aload 0, 0, .aload_n 0, 1, 0),
  (.getfield 321, 1, .getfield 18, 3, 146),
  (.getfield 128, 4, .getfield 48, 3, 102),
  (.ifCond .eq 8, 7, .ifCond .eq 9, 3, 0),
  (.aload 0, 10, .aload_n 0, 1, 0),
  (.iconst 3, 11, .iconst 3, 1, 0),
  (.iload 1, 12, .iload_n 1, 1, 0),
  (.invokestatic 42, 13, .invokevirtual 51, 3, 436),
  (.aload 0, 16, .aload_n 0, 1, 0),
  (.iconst 10, 17, .bipush 10, 2, 0),
  (.iconst 999, 19, .sipush 999, 3, 0),
  (.invokestatic 40, 22, .invokevirtual 68, 3, 444),
  (.istore 2, 25, .istore_n 2, 1, 0),
  (.aload 0, 26, .aload_n 0, 1, 0),
  (.invokestatic 41, 27, .invokevirtual 72, 3, 452),
  (.aload 0, 30, .aload_n 0, 1, 0),
  (.getfield 323, 31, .getfield 35, 3, 151),
  (.ifCond .ne 22, 34, .ifCond .ne 11, 3, 0),
  (.aload 0, 37, .aload_n 0, 1, 0),
  (.getfield 321, 38, .getfield 18, 3, 146),
  (.iload 2, 41, .iload_n 2, 1, 0),
  (.putfield 128, 42, .putfield 48, 3, 102),
  (.return_, 45, .return_, 1, 0)]
/-- 34: WakeOrder$Reader.readPerson(I)V -/
def lr34 : List LRow := [(.aload 0, 0, .aload_n 0, 1, 0),
  (.getfield 321, 1, .getfield 18, 3, 146),
  (.getfield 129, 4, .getfield 75, 3, 108),
  (.iconst 6, 7, .bipush 6, 2, 0),
  (.if_icmp .lt 9, 9, .if_icmp .lt 9, 3, 0),
  (.aload 0, 12, .aload_n 0, 1, 0),
  (.iconst 3, 13, .iconst 3, 1, 0),
  (.iload 1, 14, .iload_n 1, 1, 0),
  (.invokestatic 42, 15, .invokevirtual 51, 3, 436),
  (.aload 0, 18, .aload_n 0, 1, 0),
  (.iconst 0, 19, .iconst 0, 1, 0),
  (.iconst 999, 20, .sipush 999, 3, 0),
  (.invokestatic 40, 23, .invokevirtual 68, 3, 444),
  (.istore 2, 26, .istore_n 2, 1, 0),
  (.aload 0, 27, .aload_n 0, 1, 0),
  (.invokestatic 41, 28, .invokevirtual 72, 3, 452),
  (.aload 0, 31, .aload_n 0, 1, 0),
  (.getfield 323, 32, .getfield 35, 3, 151),
  (.ifCond .ne 23, 35, .ifCond .ne 11, 3, 0),
  (.aload 0, 38, .aload_n 0, 1, 0),
  (.getfield 321, 39, .getfield 18, 3, 146),
  (.iload 2, 42, .iload_n 2, 1, 0),
  (.invokestatic 19, 43, .invokevirtual 78, 3, 460),
  (.return_, 46, .return_, 1, 0)]
/-- 35: WakeOrder$Reader.readJob(I)V -/
def lr35 : List LRow := [(.aload 0, 0, .aload_n 0, 1, 0),
  (.getfield 321, 1, .getfield 18, 3, 146),
  (.getfield 130, 4, .getfield 81, 3, 112),
  (.iconst 8, 7, .bipush 8, 2, 0),
  (.if_icmp .lt 9, 9, .if_icmp .lt 9, 3, 0),
  (.aload 0, 12, .aload_n 0, 1, 0),
  (.iconst 3, 13, .iconst 3, 1, 0),
  (.iload 1, 14, .iload_n 1, 1, 0),
  (.invokestatic 42, 15, .invokevirtual 51, 3, 436),
  (.aload 0, 18, .aload_n 0, 1, 0),
  (.iconst 0, 19, .iconst 0, 1, 0),
  (.aload 0, 20, .aload_n 0, 1, 0),
  (.getfield 321, 21, .getfield 18, 3, 146),
  (.getfield 129, 24, .getfield 75, 3, 108),
  (.iconst 1, 27, .iconst 1, 1, 0),
  (.isub, 28, .isub, 1, 0),
  (.invokestatic 40, 29, .invokevirtual 68, 3, 444),
  (.istore 2, 32, .istore_n 2, 1, 0),
  (.aload 0, 33, .aload_n 0, 1, 0),
  (.iconst 1, 34, .iconst 1, 1, 0),
  (.iconst 99, 35, .bipush 99, 2, 0),
  (.invokestatic 40, 37, .invokevirtual 68, 3, 444),
  (.istore 3, 40, .istore_n 3, 1, 0),
  (.aload 0, 41, .aload_n 0, 1, 0),
  (.iconst 0, 42, .iconst 0, 1, 0),
  (.iconst 999, 43, .sipush 999, 3, 0),
  (.invokestatic 40, 46, .invokevirtual 68, 3, 444),
  (.istore 4, 49, .istore 4, 2, 0),
  (.iload 4, 51, .iload 4, 2, 0),
  (.iconst 9, 53, .bipush 9, 2, 0),
  (.if_icmp .eq 41, 55, .if_icmp .eq 24, 3, 0),
  (.iload 4, 58, .iload 4, 2, 0),
  (.aload 0, 60, .aload_n 0, 1, 0),
  (.getfield 321, 61, .getfield 18, 3, 146),
  (.getfield 130, 64, .getfield 81, 3, 112),
  (.if_icmp .lt 41, 67, .if_icmp .lt 12, 3, 0),
  (.aload 0, 70, .aload_n 0, 1, 0),
  (.iconst 2, 71, .iconst 2, 1, 0),
  (.aload 0, 72, .aload_n 0, 1, 0),
  (.getfield 326, 73, .getfield 84, 3, 155),
  (.invokestatic 42, 76, .invokevirtual 51, 3, 436),
  (.aload 0, 79, .aload_n 0, 1, 0),
  (.invokestatic 41, 80, .invokevirtual 72, 3, 452),
  (.aload 0, 83, .aload_n 0, 1, 0),
  (.getfield 323, 84, .getfield 35, 3, 151),
  (.ifCond .ne 57, 87, .ifCond .ne 25, 3, 0),
  (.aload 0, 90, .aload_n 0, 1, 0),
  (.getfield 321, 91, .getfield 18, 3, 146),
  (.iload 2, 94, .iload_n 2, 1, 0),
  (.iload 3, 95, .iload_n 3, 1, 0),
  (.iload 4, 96, .iload 4, 2, 0),
  (.iconst 9, 98, .bipush 9, 2, 0),
  (.if_icmp .ne 55, 100, .if_icmp .ne 7, 3, 0),
  (.iconst (-1), 103, .iconst (-1), 1, 0),
  (.goto 56, 104, .goto 5, 3, 0),
  (.iload 4, 107, .iload 4, 2, 0),
  (.invokestatic 20, 109, .invokevirtual 87, 3, 468),
  (.return_, 112, .return_, 1, 0)]
/-- 36: WakeOrder$Reader.readWaiting()V -/
def lr36 : List LRow := [(.aload 0, 0, .aload_n 0, 1, 0),
  (.iconst 0, 1, .iconst 0, 1, 0),
  (.aload 0, 2, .aload_n 0, 1, 0),
  (.getfield 321, 3, .getfield 18, 3, 146),
  (.getfield 129, 6, .getfield 75, 3, 108),
  (.iconst 1, 9, .iconst 1, 1, 0),
  (.isub, 10, .isub, 1, 0),
  (.invokestatic 40, 11, .invokevirtual 68, 3, 444),
  (.istore 1, 14, .istore_n 1, 1, 0),
  (.aload 0, 15, .aload_n 0, 1, 0),
  (.getfield 321, 16, .getfield 18, 3, 146),
  (.getfield 132, 19, .getfield 91, 3, 118),
  (.iload 1, 22, .iload_n 1, 1, 0),
  (.invokestatic 107, 23, .invokestatic 94, 3, 476),
  (.iconst (-1), 26, .iconst (-1), 1, 0),
  (.if_icmp .eq 21, 27, .if_icmp .eq 12, 3, 0),
  (.aload 0, 30, .aload_n 0, 1, 0),
  (.iconst 4, 31, .iconst 4, 1, 0),
  (.aload 0, 32, .aload_n 0, 1, 0),
  (.getfield 326, 33, .getfield 84, 3, 155),
  (.invokestatic 42, 36, .invokevirtual 51, 3, 436),
  (.aload 0, 39, .aload_n 0, 1, 0),
  (.iconst 0, 40, .iconst 0, 1, 0),
  (.aload 0, 41, .aload_n 0, 1, 0),
  (.getfield 321, 42, .getfield 18, 3, 146),
  (.getfield 130, 45, .getfield 81, 3, 112),
  (.iconst 1, 48, .iconst 1, 1, 0),
  (.isub, 49, .isub, 1, 0),
  (.invokestatic 40, 50, .invokevirtual 68, 3, 444),
  (.istore 2, 53, .istore_n 2, 1, 0),
  (.aload 0, 54, .aload_n 0, 1, 0),
  (.invokestatic 41, 55, .invokevirtual 72, 3, 452),
  (.aload 0, 58, .aload_n 0, 1, 0),
  (.getfield 323, 59, .getfield 35, 3, 151),
  (.ifCond .ne 47, 62, .ifCond .ne 27, 3, 0),
  (.aload 0, 65, .aload_n 0, 1, 0),
  (.getfield 321, 66, .getfield 18, 3, 146),
  (.getfield 132, 69, .getfield 91, 3, 118),
  (.iload 1, 72, .iload_n 1, 1, 0),
  (.invokestatic 106, 73, .invokestatic 98, 3, 479),
  (.ifCond .eq 47, 76, .ifCond .eq 13, 3, 0),
  (.aload 0, 79, .aload_n 0, 1, 0),
  (.getfield 321, 80, .getfield 18, 3, 146),
  (.getfield 132, 83, .getfield 91, 3, 118),
  (.iload 1, 86, .iload_n 1, 1, 0),
  (.iload 2, 87, .iload_n 2, 1, 0),
  (.iastore, 88, .iastore, 1, 0),
  (.return_, 89, .return_, 1, 0)]
/-- 37: WakeOrder$Reader.skipBlanks()V -/
def lr37 : List LRow := [(.nop, 0, .aload_n 0, 0, 0),
  (.aload 0, 0, .aload_n 0, 1, 0),
  (.getfield 325, 1, .getfield 32, 3, 154),
  (.aload 0, 4, .aload_n 0, 1, 0),
  (.getfield 322, 5, .getfield 26, 3, 148),
  (.if_icmp .ge 17, 8, .if_icmp .ge 25, 3, 0),
  (.aload 0, 11, .aload_n 0, 1, 0),
  (.invokestatic 38, 12, .invokevirtual 44, 3, 428),
  (.iconst 32, 15, .bipush 32, 2, 0),
  (.if_icmp .ne 17, 17, .if_icmp .ne 16, 3, 0),
  (.aload 0, 20, .aload_n 0, 1, 0),
  (.dup, 21, .dup, 1, 0),
  (.getfield 325, 22, .getfield 32, 3, 154),
  (.iconst 1, 25, .iconst 1, 1, 0),
  (.iadd, 26, .iadd, 1, 0),
  (.putfield 325, 27, .putfield 32, 3, 154),
  (.goto 0, 30, .goto (-30), 3, 0),
  (.return_, 33, .return_, 1, 0)]
/-- 38: WakeOrder$Reader.letter()I -/
def lr38 : List LRow := [(.aload 0, 0, .aload_n 0, 1, 0),
  (.getfield 325, 1, .getfield 32, 3, 154),
  (.ifCond .lt 20, 4, .ifCond .lt 38, 3, 0),
  (.aload 0, 7, .aload_n 0, 1, 0),
  (.getfield 325, 8, .getfield 32, 3, 154),
  (.aload 0, 11, .aload_n 0, 1, 0),
  (.getfield 322, 12, .getfield 26, 3, 148),
  (.if_icmp .ge 20, 15, .if_icmp .ge 27, 3, 0),
  (.aload 0, 18, .aload_n 0, 1, 0),
  (.getfield 325, 19, .getfield 32, 3, 154),
  (.aload 0, 22, .aload_n 0, 1, 0),
  (.getfield 320, 23, .getfield 9, 3, 145),
  (.arraylength, 26, .arraylength, 1, 0),
  (.if_icmp .ge 20, 27, .if_icmp .ge 15, 3, 0),
  (.aload 0, 30, .aload_n 0, 1, 0),
  (.getfield 320, 31, .getfield 9, 3, 145),
  (.aload 0, 34, .aload_n 0, 1, 0),
  (.getfield 325, 35, .getfield 32, 3, 154),
  (.iaload, 38, .iaload, 1, 0),
  (.goto 21, 39, .goto 4, 3, 0),
  (.iconst (-1), 42, .iconst (-1), 1, 0),
  (.ireturn, 43, .ireturn, 1, 0)]
/-- 39: WakeOrder$Reader.atFigure()Z -/
def lr39 : List LRow := [(.aload 0, 0, .aload_n 0, 1, 0),
  (.invokestatic 38, 1, .invokevirtual 44, 3, 428),
  (.istore 1, 4, .istore_n 1, 1, 0),
  (.iload 1, 5, .iload_n 1, 1, 0),
  (.iconst 48, 6, .bipush 48, 2, 0),
  (.if_icmp .lt 11, 8, .if_icmp .lt 13, 3, 0),
  (.iload 1, 11, .iload_n 1, 1, 0),
  (.iconst 57, 12, .bipush 57, 2, 0),
  (.if_icmp .gt 11, 14, .if_icmp .gt 7, 3, 0),
  (.iconst 1, 17, .iconst 1, 1, 0),
  (.goto 12, 18, .goto 4, 3, 0),
  (.iconst 0, 21, .iconst 0, 1, 0),
  (.areturn, 22, .ireturn, 1, 0)]
/-- 40: WakeOrder$Reader.number(II)I -/
def lr40 : List LRow := [(.aload 0, 0, .aload_n 0, 1, 0),
  (.invokestatic 37, 1, .invokevirtual 38, 3, 424),
  (.aload 0, 4, .aload_n 0, 1, 0),
  (.getfield 323, 5, .getfield 35, 3, 151),
  (.ifCond .eq 7, 8, .ifCond .eq 5, 3, 0),
  (.iconst 0, 11, .iconst 0, 1, 0),
  (.ireturn, 12, .ireturn, 1, 0),
  (.aload 0, 13, .aload_n 0, 1, 0),
  (.aload 0, 14, .aload_n 0, 1, 0),
  (.getfield 325, 15, .getfield 32, 3, 154),
  (.putfield 326, 18, .putfield 84, 3, 155),
  (.iconst 0, 21, .iconst 0, 1, 0),
  (.istore 3, 22, .istore_n 3, 1, 0),
  (.nop, 23, .aload_n 0, 0, 0),
  (.aload 0, 23, .aload_n 0, 1, 0),
  (.getfield 325, 24, .getfield 32, 3, 154),
  (.aload 0, 27, .aload_n 0, 1, 0),
  (.getfield 322, 28, .getfield 26, 3, 148),
  (.if_icmp .ge 45, 31, .if_icmp .ge 49, 3, 0),
  (.aload 0, 34, .aload_n 0, 1, 0),
  (.invokestatic 39, 35, .invokevirtual 102, 3, 448),
  (.ifCond .eq 45, 38, .ifCond .eq 42, 3, 0),
  (.aload 0, 41, .aload_n 0, 1, 0),
  (.getfield 325, 42, .getfield 32, 3, 154),
  (.aload 0, 45, .aload_n 0, 1, 0),
  (.getfield 326, 46, .getfield 84, 3, 155),
  (.isub, 49, .isub, 1, 0),
  (.iconst 3, 50, .iconst 3, 1, 0),
  (.if_icmp .ge 38, 51, .if_icmp .ge 16, 3, 0),
  (.iload 3, 54, .iload_n 3, 1, 0),
  (.iconst 10, 55, .bipush 10, 2, 0),
  (.imul, 57, .imul, 1, 0),
  (.aload 0, 58, .aload_n 0, 1, 0),
  (.invokestatic 38, 59, .invokevirtual 44, 3, 428),
  (.iadd, 62, .iadd, 1, 0),
  (.iconst 48, 63, .bipush 48, 2, 0),
  (.isub, 65, .isub, 1, 0),
  (.istore 3, 66, .istore_n 3, 1, 0),
  (.aload 0, 67, .aload_n 0, 1, 0),
  (.dup, 68, .dup, 1, 0),
  (.getfield 325, 69, .getfield 32, 3, 154),
  (.iconst 1, 72, .iconst 1, 1, 0),
  (.iadd, 73, .iadd, 1, 0),
  (.putfield 325, 74, .putfield 32, 3, 154),
  (.goto 13, 77, .goto (-54), 3, 0),
  (.aload 0, 80, .aload_n 0, 1, 0),
  (.getfield 325, 81, .getfield 32, 3, 154),
  (.aload 0, 84, .aload_n 0, 1, 0),
  (.getfield 326, 85, .getfield 84, 3, 155),
  (.if_icmp .ne 56, 88, .if_icmp .ne 15, 3, 0),
  (.aload 0, 91, .aload_n 0, 1, 0),
  (.iconst 1, 92, .iconst 1, 1, 0),
  (.aload 0, 93, .aload_n 0, 1, 0),
  (.getfield 325, 94, .getfield 32, 3, 154),
  (.invokestatic 42, 97, .invokevirtual 51, 3, 436),
  (.goto 74, 100, .goto 35, 3, 0),
  (.aload 0, 103, .aload_n 0, 1, 0),
  (.getfield 325, 104, .getfield 32, 3, 154),
  (.aload 0, 107, .aload_n 0, 1, 0),
  (.getfield 326, 108, .getfield 84, 3, 155),
  (.isub, 111, .isub, 1, 0),
  (.iconst 3, 112, .iconst 3, 1, 0),
  (.if_icmp .gt 69, 113, .if_icmp .gt 13, 3, 0),
  (.iload 3, 116, .iload_n 3, 1, 0),
  (.iload 1, 117, .iload_n 1, 1, 0),
  (.if_icmp .lt 69, 118, .if_icmp .lt 8, 3, 0),
  (.iload 3, 121, .iload_n 3, 1, 0),
  (.iload 2, 122, .iload_n 2, 1, 0),
  (.if_icmp .le 74, 123, .if_icmp .le 12, 3, 0),
  (.aload 0, 126, .aload_n 0, 1, 0),
  (.iconst 2, 127, .iconst 2, 1, 0),
  (.aload 0, 128, .aload_n 0, 1, 0),
  (.getfield 326, 129, .getfield 84, 3, 155),
  (.invokestatic 42, 132, .invokevirtual 51, 3, 436),
  (.iload 3, 135, .iload_n 3, 1, 0),
  (.ireturn, 136, .ireturn, 1, 0)]
/-- 41: WakeOrder$Reader.endClause()V -/
def lr41 : List LRow := [(.aload 0, 0, .aload_n 0, 1, 0),
  (.invokestatic 37, 1, .invokevirtual 38, 3, 424),
  (.aload 0, 4, .aload_n 0, 1, 0),
  (.invokestatic 38, 5, .invokevirtual 44, 3, 428),
  (.iconst 59, 8, .bipush 59, 2, 0),
  (.if_icmp .ne 13, 10, .if_icmp .ne 16, 3, 0),
  (.aload 0, 13, .aload_n 0, 1, 0),
  (.dup, 14, .dup, 1, 0),
  (.getfield 325, 15, .getfield 32, 3, 154),
  (.iconst 1, 18, .iconst 1, 1, 0),
  (.iadd, 19, .iadd, 1, 0),
  (.putfield 325, 20, .putfield 32, 3, 154),
  (.goto 18, 23, .goto 12, 3, 0),
  (.aload 0, 26, .aload_n 0, 1, 0),
  (.iconst 1, 27, .iconst 1, 1, 0),
  (.aload 0, 28, .aload_n 0, 1, 0),
  (.getfield 325, 29, .getfield 32, 3, 154),
  (.invokestatic 42, 32, .invokevirtual 51, 3, 436),
  (.return_, 35, .return_, 1, 0)]
/-- 42: WakeOrder$Reader.blame(II)V -/
def lr42 : List LRow := [(.aload 0, 0, .aload_n 0, 1, 0),
  (.getfield 323, 1, .getfield 35, 3, 151),
  (.ifCond .ne 9, 4, .ifCond .ne 13, 3, 0),
  (.aload 0, 7, .aload_n 0, 1, 0),
  (.iload 1, 8, .iload_n 1, 1, 0),
  (.putfield 323, 9, .putfield 35, 3, 151),
  (.aload 0, 12, .aload_n 0, 1, 0),
  (.iload 2, 13, .iload_n 2, 1, 0),
  (.putfield 324, 14, .putfield 22, 3, 152),
  (.return_, 17, .return_, 1, 0)]
/-- 43: WakeOrder$Row.<init>()V -/
def lr43 : List LRow := [(.aload 0, 0, .aload_n 0, 1, 0),
  (.pop, 1, .invokespecial 3, 3, 190),
  (.aload 0, 4, .aload_n 0, 1, 0),
  (.iconst 6, 5, .bipush 6, 2, 0),
  (.newarray .int, 7, .newarray .int, 2, 0),
  (.putstatic 384, 9, .putfield 9, 3, 191),
  (.return_, 12, .return_, 1, 0)]
/-- 44: WakeOrder$Row.at(I)I -/
def lr44 : List LRow := [(.iload 1, 0, .iload_n 1, 1, 0),
  (.aload 0, 1, .aload_n 0, 1, 0),
  (.getfield 385, 2, .getfield 15, 3, 192),
  (.if_icmp .ge 9, 5, .if_icmp .ge 14, 3, 0),
  (.aload 0, 8, .aload_n 0, 1, 0),
  (.getfield 384, 9, .getfield 9, 3, 191),
  (.iload 1, 12, .iload_n 1, 1, 0),
  (.invokestatic 107, 13, .invokestatic 19, 3, 540),
  (.goto 10, 16, .goto 4, 3, 0),
  (.iconst (-1), 19, .iconst (-1), 1, 0),
  (.ireturn, 20, .ireturn, 1, 0)]
/-- 45: WakeOrder$Row.placeOf(I)I -/
def lr45 : List LRow := [(.iconst 0, 0, .iconst 0, 1, 0),
  (.istore 2, 1, .istore_n 2, 1, 0),
  (.nop, 2, .iload_n 2, 0, 0),
  (.iload 2, 2, .iload_n 2, 1, 0),
  (.aload 0, 3, .aload_n 0, 1, 0),
  (.getfield 385, 4, .getfield 15, 3, 192),
  (.if_icmp .ge 22, 7, .if_icmp .ge 30, 3, 0),
  (.iload 2, 10, .iload_n 2, 1, 0),
  (.aload 0, 11, .aload_n 0, 1, 0),
  (.getfield 384, 12, .getfield 9, 3, 191),
  (.arraylength, 15, .arraylength, 1, 0),
  (.if_icmp .ge 22, 16, .if_icmp .ge 21, 3, 0),
  (.aload 0, 19, .aload_n 0, 1, 0),
  (.getfield 384, 20, .getfield 9, 3, 191),
  (.iload 2, 23, .iload_n 2, 1, 0),
  (.iaload, 24, .iaload, 1, 0),
  (.iload 1, 25, .iload_n 1, 1, 0),
  (.if_icmp .ne 20, 26, .if_icmp .ne 5, 3, 0),
  (.iload 2, 29, .iload_n 2, 1, 0),
  (.ireturn, 30, .ireturn, 1, 0),
  (.iinc 2 1, 31, .iinc 2 1, 3, 0),
  (.goto 2, 34, .goto (-32), 3, 0),
  (.iconst (-1), 37, .iconst (-1), 1, 0),
  (.ireturn, 38, .ireturn, 1, 0)]
/-- 46: WakeOrder$Row.members()I -/
def lr46 : List LRow := [(.iconst 0, 0, .iconst 0, 1, 0),
  (.istore 1, 1, .istore_n 1, 1, 0),
  (.iconst 0, 2, .iconst 0, 1, 0),
  (.istore 2, 3, .istore_n 2, 1, 0),
  (.nop, 4, .iload_n 2, 0, 0),
  (.iload 2, 4, .iload_n 2, 1, 0),
  (.aload 0, 5, .aload_n 0, 1, 0),
  (.getfield 385, 6, .getfield 15, 3, 192),
  (.if_icmp .ge 25, 9, .if_icmp .ge 29, 3, 0),
  (.iload 2, 12, .iload_n 2, 1, 0),
  (.aload 0, 13, .aload_n 0, 1, 0),
  (.getfield 384, 14, .getfield 9, 3, 191),
  (.arraylength, 17, .arraylength, 1, 0),
  (.if_icmp .ge 25, 18, .if_icmp .ge 20, 3, 0),
  (.iload 1, 21, .iload_n 1, 1, 0),
  (.iconst 1, 22, .iconst 1, 1, 0),
  (.aload 0, 23, .aload_n 0, 1, 0),
  (.getfield 384, 24, .getfield 9, 3, 191),
  (.iload 2, 27, .iload_n 2, 1, 0),
  (.iaload, 28, .iaload, 1, 0),
  (.ishl, 29, .ishl, 1, 0),
  (.ior, 30, .ior, 1, 0),
  (.istore 1, 31, .istore_n 1, 1, 0),
  (.iinc 2 1, 32, .iinc 2 1, 3, 0),
  (.goto 4, 35, .goto (-31), 3, 0),
  (.iload 1, 38, .iload_n 1, 1, 0),
  (.ireturn, 39, .ireturn, 1, 0)]
/-- 47: WakeOrder$Row.become(LWakeOrder$Row;)V -/
def lr47 : List LRow := [(.aload 1, 0, .aload_n 1, 1, 0),
  (.getfield 384, 1, .getfield 9, 3, 191),
  (.iconst 0, 4, .iconst 0, 1, 0),
  (.aload 0, 5, .aload_n 0, 1, 0),
  (.getfield 384, 6, .getfield 9, 3, 191),
  (.iconst 0, 9, .iconst 0, 1, 0),
  (.iconst 6, 10, .bipush 6, 2, 0),
  (.invokedynamic 0, 12, .invokestatic 23, 3, 626),
  (.aload 0, 15, .aload_n 0, 1, 0),
  (.aload 1, 16, .aload_n 1, 1, 0),
  (.getfield 385, 17, .getfield 15, 3, 192),
  (.putfield 385, 20, .putfield 15, 3, 192),
  (.return_, 23, .return_, 1, 0)]
/-- 48: WakeOrder$Row.line(I)V -/
def lr48 : List LRow := [(.aload 0, 0, .aload_n 0, 1, 0),
  (.iconst 0, 1, .iconst 0, 1, 0),
  (.putfield 385, 2, .putfield 15, 3, 192),
  (.iconst 0, 5, .iconst 0, 1, 0),
  (.istore 2, 6, .istore_n 2, 1, 0),
  (.nop, 7, .iload_n 2, 0, 0),
  (.iload 2, 7, .iload_n 2, 1, 0),
  (.iconst 6, 8, .bipush 6, 2, 0),
  (.if_icmp .ge 23, 10, .if_icmp .ge 27, 3, 0),
  (.iload 1, 13, .iload_n 1, 1, 0),
  (.iload 2, 14, .iload_n 2, 1, 0),
  (.ishr, 15, .ishr, 1, 0),
  (.iconst 1, 16, .iconst 1, 1, 0),
  (.iand, 17, .iand, 1, 0),
  (.iconst 1, 18, .iconst 1, 1, 0),
  (.if_icmp .ne 21, 19, .if_icmp .ne 12, 3, 0),
  (.aload 0, 22, .aload_n 0, 1, 0),
  (.iload 2, 23, .iload_n 2, 1, 0),
  (.aload 0, 24, .aload_n 0, 1, 0),
  (.getfield 385, 25, .getfield 15, 3, 192),
  (.invokestatic 50, 28, .invokevirtual 29, 3, 500),
  (.iinc 2 1, 31, .iinc 2 1, 3, 0),
  (.goto 5, 34, .goto (-27), 3, 0),
  (.return_, 37, .return_, 1, 0)]
/-- 49: WakeOrder$Row.takeOut(I)V -/
def lr49 : List LRow := [(.aload 0, 0, .aload_n 0, 1, 0),
  (.iload 1, 1, .iload_n 1, 1, 0),
  (.invokestatic 45, 2, .invokevirtual 33, 3, 634),
  (.istore 2, 5, .istore_n 2, 1, 0),
  (.iload 2, 6, .iload_n 2, 1, 0),
  (.iconst (-1), 7, .iconst (-1), 1, 0),
  (.if_icmp .ne 8, 8, .if_icmp .ne 4, 3, 0),
  (.return_, 11, .return_, 1, 0),
  (.iload 2, 12, .iload_n 2, 1, 0),
  (.istore 3, 13, .istore_n 3, 1, 0),
  (.nop, 14, .iload_n 3, 0, 0),
  (.iload 3, 14, .iload_n 3, 1, 0),
  (.iconst 1, 15, .iconst 1, 1, 0),
  (.iadd, 16, .iadd, 1, 0),
  (.aload 0, 17, .aload_n 0, 1, 0),
  (.getfield 385, 18, .getfield 15, 3, 192),
  (.if_icmp .ge 36, 21, .if_icmp .ge 34, 3, 0),
  (.iload 3, 24, .iload_n 3, 1, 0),
  (.iconst 1, 25, .iconst 1, 1, 0),
  (.iadd, 26, .iadd, 1, 0),
  (.aload 0, 27, .aload_n 0, 1, 0),
  (.getfield 384, 28, .getfield 9, 3, 191),
  (.arraylength, 31, .arraylength, 1, 0),
  (.if_icmp .ge 36, 32, .if_icmp .ge 23, 3, 0),
  (.aload 0, 35, .aload_n 0, 1, 0),
  (.getfield 384, 36, .getfield 9, 3, 191),
  (.iload 3, 39, .iload_n 3, 1, 0),
  (.aload 0, 40, .aload_n 0, 1, 0),
  (.getfield 384, 41, .getfield 9, 3, 191),
  (.iload 3, 44, .iload_n 3, 1, 0),
  (.iconst 1, 45, .iconst 1, 1, 0),
  (.iadd, 46, .iadd, 1, 0),
  (.iaload, 47, .iaload, 1, 0),
  (.iastore, 48, .iastore, 1, 0),
  (.iinc 3 1, 49, .iinc 3 1, 3, 0),
  (.goto 10, 52, .goto (-38), 3, 0),
  (.aload 0, 55, .aload_n 0, 1, 0),
  (.dup, 56, .dup, 1, 0),
  (.getfield 385, 57, .getfield 15, 3, 192),
  (.iconst 1, 60, .iconst 1, 1, 0),
  (.isub, 61, .isub, 1, 0),
  (.putfield 385, 62, .putfield 15, 3, 192),
  (.return_, 65, .return_, 1, 0)]
/-- 50: WakeOrder$Row.putIn(II)V -/
def lr50 : List LRow := [(.aload 0, 0, .aload_n 0, 1, 0),
  (.getfield 385, 1, .getfield 15, 3, 192),
  (.aload 0, 4, .aload_n 0, 1, 0),
  (.getfield 384, 5, .getfield 9, 3, 191),
  (.arraylength, 8, .arraylength, 1, 0),
  (.if_icmp .ge 12, 9, .if_icmp .ge 15, 3, 0),
  (.iload 2, 12, .iload_n 2, 1, 0),
  (.ifCond .lt 12, 13, .ifCond .lt 11, 3, 0),
  (.iload 2, 16, .iload_n 2, 1, 0),
  (.aload 0, 17, .aload_n 0, 1, 0),
  (.getfield 385, 18, .getfield 15, 3, 192),
  (.if_icmp .le 13, 21, .if_icmp .le 4, 3, 0),
  (.return_, 24, .return_, 1, 0),
  (.aload 0, 25, .aload_n 0, 1, 0),
  (.getfield 385, 26, .getfield 15, 3, 192),
  (.istore 3, 29, .istore_n 3, 1, 0),
  (.nop, 30, .iload_n 3, 0, 0),
  (.iload 3, 30, .iload_n 3, 1, 0),
  (.iload 2, 31, .iload_n 2, 1, 0),
  (.if_icmp .le 32, 32, .if_icmp .le 23, 3, 0),
  (.aload 0, 35, .aload_n 0, 1, 0),
  (.getfield 384, 36, .getfield 9, 3, 191),
  (.iload 3, 39, .iload_n 3, 1, 0),
  (.aload 0, 40, .aload_n 0, 1, 0),
  (.getfield 384, 41, .getfield 9, 3, 191),
  (.iload 3, 44, .iload_n 3, 1, 0),
  (.iconst 1, 45, .iconst 1, 1, 0),
  (.isub, 46, .isub, 1, 0),
  (.iaload, 47, .iaload, 1, 0),
  (.iastore, 48, .iastore, 1, 0),
  (.iinc 3 (-1), 49, .iinc 3 (-1), 3, 0),
  (.goto 16, 52, .goto (-22), 3, 0),
  (.aload 0, 55, .aload_n 0, 1, 0),
  (.getfield 384, 56, .getfield 9, 3, 191),
  (.iload 2, 59, .iload_n 2, 1, 0),
  (.iload 1, 60, .iload_n 1, 1, 0),
  (.iastore, 61, .iastore, 1, 0),
  (.aload 0, 62, .aload_n 0, 1, 0),
  (.dup, 63, .dup, 1, 0),
  (.getfield 385, 64, .getfield 15, 3, 192),
  (.iconst 1, 67, .iconst 1, 1, 0),
  (.iadd, 68, .iadd, 1, 0),
  (.putfield 385, 69, .putfield 15, 3, 192),
  (.return_, 72, .return_, 1, 0)]
/-- 51: WakeOrder$Row.raisedAgainst(LWakeOrder$Row;)I -/
def lr51 : List LRow := [(.iconst 0, 0, .iconst 0, 1, 0),
  (.istore 2, 1, .istore_n 2, 1, 0),
  (.iconst 0, 2, .iconst 0, 1, 0),
  (.istore 3, 3, .istore_n 3, 1, 0),
  (.nop, 4, .iload_n 3, 0, 0),
  (.iload 3, 4, .iload_n 3, 1, 0),
  (.aload 0, 5, .aload_n 0, 1, 0),
  (.getfield 385, 6, .getfield 15, 3, 192),
  (.if_icmp .ge 19, 9, .if_icmp .ge 25, 3, 0),
  (.iload 3, 12, .iload_n 3, 1, 0),
  (.aload 1, 13, .aload_n 1, 1, 0),
  (.aload 0, 14, .aload_n 0, 1, 0),
  (.iload 3, 15, .iload_n 3, 1, 0),
  (.invokestatic 44, 16, .invokevirtual 37, 3, 690),
  (.invokestatic 45, 19, .invokevirtual 33, 3, 634),
  (.if_icmp .ge 17, 22, .if_icmp .ge 6, 3, 0),
  (.iinc 2 1, 25, .iinc 2 1, 3, 0),
  (.iinc 3 1, 28, .iinc 3 1, 3, 0),
  (.goto 4, 31, .goto (-27), 3, 0),
  (.iload 2, 34, .iload_n 2, 1, 0),
  (.ireturn, 35, .ireturn, 1, 0)]
/-- 52: WakeOrder$Row.advance()Z -/
def lr52 : List LRow := [(.aload 0, 0, .aload_n 0, 1, 0),
  (.getfield 385, 1, .getfield 15, 3, 192),
  (.iconst 2, 4, .iconst 2, 1, 0),
  (.isub, 5, .isub, 1, 0),
  (.istore 1, 6, .istore_n 1, 1, 0),
  (.nop, 7, .iload_n 1, 0, 0),
  (.iload 1, 7, .iload_n 1, 1, 0),
  (.ifCond .lt 19, 8, .ifCond .lt 24, 3, 0),
  (.aload 0, 11, .aload_n 0, 1, 0),
  (.iload 1, 12, .iload_n 1, 1, 0),
  (.invokestatic 44, 13, .invokevirtual 37, 3, 690),
  (.aload 0, 16, .aload_n 0, 1, 0),
  (.iload 1, 17, .iload_n 1, 1, 0),
  (.iconst 1, 18, .iconst 1, 1, 0),
  (.iadd, 19, .iadd, 1, 0),
  (.invokestatic 44, 20, .invokevirtual 37, 3, 690),
  (.if_icmp .le 19, 23, .if_icmp .le 9, 3, 0),
  (.iinc 1 (-1), 26, .iinc 1 (-1), 3, 0),
  (.goto 5, 29, .goto (-22), 3, 0),
  (.iload 1, 32, .iload_n 1, 1, 0),
  (.ifCond .ge 23, 33, .ifCond .ge 5, 3, 0),
  (.iconst 0, 36, .iconst 0, 1, 0),
  (.areturn, 37, .ireturn, 1, 0),
  (.aload 0, 38, .aload_n 0, 1, 0),
  (.getfield 385, 39, .getfield 15, 3, 192),
  (.iconst 1, 42, .iconst 1, 1, 0),
  (.isub, 43, .isub, 1, 0),
  (.istore 2, 44, .istore_n 2, 1, 0),
  (.nop, 45, .iload_n 2, 0, 0),
  (.iload 2, 45, .iload_n 2, 1, 0),
  (.iload 1, 46, .iload_n 1, 1, 0),
  (.if_icmp .le 41, 47, .if_icmp .le 22, 3, 0),
  (.aload 0, 50, .aload_n 0, 1, 0),
  (.iload 2, 51, .iload_n 2, 1, 0),
  (.invokestatic 44, 52, .invokevirtual 37, 3, 690),
  (.aload 0, 55, .aload_n 0, 1, 0),
  (.iload 1, 56, .iload_n 1, 1, 0),
  (.invokestatic 44, 57, .invokevirtual 37, 3, 690),
  (.if_icmp .ge 41, 60, .if_icmp .ge 9, 3, 0),
  (.iinc 2 (-1), 63, .iinc 2 (-1), 3, 0),
  (.goto 28, 66, .goto (-21), 3, 0),
  (.aload 0, 69, .aload_n 0, 1, 0),
  (.iload 1, 70, .iload_n 1, 1, 0),
  (.iload 2, 71, .iload_n 2, 1, 0),
  (.invokestatic 53, 72, .invokevirtual 40, 3, 705),
  (.iload 1, 75, .iload_n 1, 1, 0),
  (.iconst 1, 76, .iconst 1, 1, 0),
  (.iadd, 77, .iadd, 1, 0),
  (.istore 3, 78, .istore_n 3, 1, 0),
  (.aload 0, 79, .aload_n 0, 1, 0),
  (.getfield 385, 80, .getfield 15, 3, 192),
  (.iconst 1, 83, .iconst 1, 1, 0),
  (.isub, 84, .isub, 1, 0),
  (.istore 4, 85, .istore 4, 2, 0),
  (.nop, 87, .iload_n 3, 0, 0),
  (.iload 3, 87, .iload_n 3, 1, 0),
  (.iload 4, 88, .iload 4, 2, 0),
  (.if_icmp .ge 65, 90, .if_icmp .ge 19, 3, 0),
  (.aload 0, 93, .aload_n 0, 1, 0),
  (.iload 3, 94, .iload_n 3, 1, 0),
  (.iload 4, 95, .iload 4, 2, 0),
  (.invokestatic 53, 97, .invokevirtual 40, 3, 705),
  (.iinc 3 1, 100, .iinc 3 1, 3, 0),
  (.iinc 4 (-1), 103, .iinc 4 (-1), 3, 0),
  (.goto 54, 106, .goto (-19), 3, 0),
  (.iconst 1, 109, .iconst 1, 1, 0),
  (.areturn, 110, .ireturn, 1, 0)]
/-- 53: WakeOrder$Row.swap(II)V -/
def lr53 : List LRow := [(.aload 0, 0, .aload_n 0, 1, 0),
  (.getfield 384, 1, .getfield 9, 3, 191),
  (.iload 1, 4, .iload_n 1, 1, 0),
  (.invokestatic 106, 5, .invokestatic 43, 3, 709),
  (.ifCond .eq 28, 8, .ifCond .eq 40, 3, 0),
  (.aload 0, 11, .aload_n 0, 1, 0),
  (.getfield 384, 12, .getfield 9, 3, 191),
  (.iload 2, 15, .iload_n 2, 1, 0),
  (.invokestatic 106, 16, .invokestatic 43, 3, 709),
  (.ifCond .eq 28, 19, .ifCond .eq 29, 3, 0),
  (.aload 0, 22, .aload_n 0, 1, 0),
  (.getfield 384, 23, .getfield 9, 3, 191),
  (.iload 1, 26, .iload_n 1, 1, 0),
  (.iaload, 27, .iaload, 1, 0),
  (.istore 3, 28, .istore_n 3, 1, 0),
  (.aload 0, 29, .aload_n 0, 1, 0),
  (.getfield 384, 30, .getfield 9, 3, 191),
  (.iload 1, 33, .iload_n 1, 1, 0),
  (.aload 0, 34, .aload_n 0, 1, 0),
  (.getfield 384, 35, .getfield 9, 3, 191),
  (.iload 2, 38, .iload_n 2, 1, 0),
  (.iaload, 39, .iaload, 1, 0),
  (.iastore, 40, .iastore, 1, 0),
  (.aload 0, 41, .aload_n 0, 1, 0),
  (.getfield 384, 42, .getfield 9, 3, 191),
  (.iload 2, 45, .iload_n 2, 1, 0),
  (.iload 3, 46, .iload_n 3, 1, 0),
  (.iastore, 47, .iastore, 1, 0),
  (.return_, 48, .return_, 1, 0)]
/-- 54: WakeOrder$State.<init>()V -/
def lr54 : List LRow := [(.aload 0, 0, .aload_n 0, 1, 0),
  (.pop, 1, .invokespecial 3, 3, 184),
  (.aload 0, 4, .aload_n 0, 1, 0),
  (.new 6, 5, .new 9, 3, 185),
  (.dup, 8, .dup, 1, 0),
  (.invokestatic 43, 9, .invokespecial 11, 3, 187),
  (.putstatic 448, 12, .putfield 12, 3, 201),
  (.aload 0, 15, .aload_n 0, 1, 0),
  (.iconst 6, 16, .bipush 6, 2, 0),
  (.newarray .int, 18, .newarray .int, 2, 0),
  (.putstatic 449, 20, .putfield 18, 3, 206),
  (.aload 0, 23, .aload_n 0, 1, 0),
  (.iconst 8, 24, .bipush 8, 2, 0),
  (.newarray .int, 26, .newarray .int, 2, 0),
  (.putstatic 450, 28, .putfield 22, 3, 209),
  (.return_, 31, .return_, 1, 0)]
/-- 55: WakeOrder$State.begin(LWakeOrder$City;)V -/
def lr55 : List LRow := [(.aload 0, 0, .aload_n 0, 1, 0),
  (.getfield 448, 1, .getfield 12, 3, 201),
  (.aload 1, 4, .aload_n 1, 1, 0),
  (.getfield 129, 5, .getfield 25, 3, 105),
  (.invokestatic 101, 8, .invokestatic 31, 3, 493),
  (.invokestatic 48, 11, .invokevirtual 35, 3, 496),
  (.aload 1, 14, .aload_n 1, 1, 0),
  (.getfield 131, 15, .getfield 39, 3, 114),
  (.iconst 0, 18, .iconst 0, 1, 0),
  (.aload 0, 19, .aload_n 0, 1, 0),
  (.getfield 449, 20, .getfield 18, 3, 206),
  (.iconst 0, 23, .iconst 0, 1, 0),
  (.iconst 6, 24, .bipush 6, 2, 0),
  (.invokedynamic 0, 26, .invokestatic 40, 3, 504),
  (.aload 1, 29, .aload_n 1, 1, 0),
  (.getfield 133, 30, .getfield 46, 3, 120),
  (.iconst 0, 33, .iconst 0, 1, 0),
  (.aload 0, 34, .aload_n 0, 1, 0),
  (.getfield 450, 35, .getfield 22, 3, 209),
  (.iconst 0, 38, .iconst 0, 1, 0),
  (.iconst 8, 39, .bipush 8, 2, 0),
  (.invokedynamic 0, 41, .invokestatic 40, 3, 504),
  (.aload 0, 44, .aload_n 0, 1, 0),
  (.iconst 0, 45, .iconst 0, 1, 0),
  (.putfield 451, 46, .putfield 47, 3, 213),
  (.aload 0, 49, .aload_n 0, 1, 0),
  (.iconst 0, 50, .iconst 0, 1, 0),
  (.putfield 452, 51, .putfield 50, 3, 217),
  (.return_, 54, .return_, 1, 0)]
/-- 56: WakeOrder$State.become(LWakeOrder$State;)V -/
def lr56 : List LRow := [(.aload 0, 0, .aload_n 0, 1, 0),
  (.getfield 448, 1, .getfield 12, 3, 201),
  (.aload 1, 4, .aload_n 1, 1, 0),
  (.getfield 448, 5, .getfield 12, 3, 201),
  (.invokestatic 47, 8, .invokevirtual 53, 3, 622),
  (.aload 1, 11, .aload_n 1, 1, 0),
  (.getfield 449, 12, .getfield 18, 3, 206),
  (.iconst 0, 15, .iconst 0, 1, 0),
  (.aload 0, 16, .aload_n 0, 1, 0),
  (.getfield 449, 17, .getfield 18, 3, 206),
  (.iconst 0, 20, .iconst 0, 1, 0),
  (.iconst 6, 21, .bipush 6, 2, 0),
  (.invokedynamic 0, 23, .invokestatic 40, 3, 504),
  (.aload 1, 26, .aload_n 1, 1, 0),
  (.getfield 450, 27, .getfield 22, 3, 209),
  (.iconst 0, 30, .iconst 0, 1, 0),
  (.aload 0, 31, .aload_n 0, 1, 0),
  (.getfield 450, 32, .getfield 22, 3, 209),
  (.iconst 0, 35, .iconst 0, 1, 0),
  (.iconst 8, 36, .bipush 8, 2, 0),
  (.invokedynamic 0, 38, .invokestatic 40, 3, 504),
  (.aload 0, 41, .aload_n 0, 1, 0),
  (.aload 1, 42, .aload_n 1, 1, 0),
  (.getfield 451, 43, .getfield 47, 3, 213),
  (.putfield 451, 46, .putfield 47, 3, 213),
  (.aload 0, 49, .aload_n 0, 1, 0),
  (.aload 1, 50, .aload_n 1, 1, 0),
  (.getfield 452, 51, .getfield 50, 3, 217),
  (.putfield 452, 54, .putfield 50, 3, 217),
  (.return_, 57, .return_, 1, 0)]
/-- 57: WakeOrder$Trials.<init>()V -/
def lr57 : List LRow := [(.aload 0, 0, .aload_n 0, 1, 0),
  (.pop, 1, .invokespecial 3, 3, 299),
  (.aload 0, 4, .aload_n 0, 1, 0),
  (.new 6, 5, .new 9, 3, 300),
  (.dup, 8, .dup, 1, 0),
  (.invokestatic 43, 9, .invokespecial 11, 3, 301),
  (.putstatic 512, 12, .putfield 12, 3, 302),
  (.aload 0, 15, .aload_n 0, 1, 0),
  (.new 6, 16, .new 9, 3, 300),
  (.dup, 19, .dup, 1, 0),
  (.invokestatic 43, 20, .invokespecial 11, 3, 301),
  (.putstatic 513, 23, .putfield 18, 3, 303),
  (.return_, 26, .return_, 1, 0)]
/-- 58: WakeOrder$Trials.tryRaising(LWakeOrder$Capital;II)V -/
def lr58 : List LRow := [(.aload 1, 0, .aload_n 1, 1, 0),
  (.getfield 65, 1, .getfield 21, 3, 234),
  (.getfield 448, 4, .getfield 27, 3, 202),
  (.astore 4, 7, .astore 4, 2, 0),
  (.aload 0, 9, .aload_n 0, 1, 0),
  (.iconst (-1), 10, .iconst (-1), 1, 0),
  (.putfield 514, 11, .putfield 32, 3, 305),
  (.aload 0, 14, .aload_n 0, 1, 0),
  (.getfield 512, 15, .getfield 12, 3, 302),
  (.aload 4, 18, .aload 4, 2, 0),
  (.invokestatic 46, 20, .invokevirtual 36, 3, 684),
  (.invokestatic 48, 23, .invokevirtual 40, 3, 685),
  (.iconst 0, 26, .iconst 0, 1, 0),
  (.istore 5, 27, .istore 5, 2, 0),
  (.nop, 29, .iload 5, 0, 0),
  (.iload 5, 29, .iload 5, 2, 0),
  (.iconst 720, 31, .sipush 720, 3, 0),
  (.if_icmp .ge 52, 34, .if_icmp .ge 77, 3, 0),
  (.aload 0, 37, .aload_n 0, 1, 0),
  (.getfield 512, 38, .getfield 12, 3, 302),
  (.aload 4, 41, .aload 4, 2, 0),
  (.invokestatic 51, 43, .invokevirtual 44, 3, 686),
  (.istore 6, 46, .istore 6, 2, 0),
  (.aload 0, 48, .aload_n 0, 1, 0),
  (.getfield 514, 49, .getfield 32, 3, 305),
  (.iconst (-1), 52, .iconst (-1), 1, 0),
  (.if_icmp .eq 31, 53, .if_icmp .eq 12, 3, 0),
  (.iload 6, 56, .iload 6, 2, 0),
  (.aload 0, 58, .aload_n 0, 1, 0),
  (.getfield 514, 59, .getfield 32, 3, 305),
  (.if_icmp .ge 45, 62, .if_icmp .ge 30, 3, 0),
  (.aload 0, 65, .aload_n 0, 1, 0),
  (.aload 1, 66, .aload_n 1, 1, 0),
  (.iload 2, 67, .iload_n 2, 1, 0),
  (.iload 3, 68, .iload_n 3, 1, 0),
  (.invokestatic 59, 69, .invokevirtual 48, 3, 691),
  (.ifCond .eq 45, 72, .ifCond .eq 20, 3, 0),
  (.aload 0, 75, .aload_n 0, 1, 0),
  (.iload 6, 76, .iload 6, 2, 0),
  (.putfield 514, 78, .putfield 32, 3, 305),
  (.aload 0, 81, .aload_n 0, 1, 0),
  (.getfield 513, 82, .getfield 18, 3, 303),
  (.aload 0, 85, .aload_n 0, 1, 0),
  (.getfield 512, 86, .getfield 12, 3, 302),
  (.invokestatic 47, 89, .invokevirtual 52, 3, 700),
  (.aload 0, 92, .aload_n 0, 1, 0),
  (.getfield 512, 93, .getfield 12, 3, 302),
  (.invokestatic 52, 96, .invokevirtual 56, 3, 701),
  (.ifCond .ne 50, 99, .ifCond .ne 6, 3, 0),
  (.goto 52, 102, .goto 9, 3, 0),
  (.iinc 5 1, 105, .iinc 5 1, 3, 0),
  (.goto 14, 108, .goto (-79), 3, 0),
  (.return_, 111, .return_, 1, 0)]
/-- 59: WakeOrder$Trials.trialDoes(LWakeOrder$Capital;II)Z -/
def lr59 : List LRow := [(.aload 1, 0, .aload_n 1, 1, 0),
  (.aload 0, 1, .aload_n 0, 1, 0),
  (.getfield 512, 2, .getfield 12, 3, 302),
  (.aload 1, 5, .aload_n 1, 1, 0),
  (.getfield 65, 6, .getfield 21, 3, 234),
  (.getfield 451, 9, .getfield 60, 3, 214),
  (.invokestatic 5, 12, .invokevirtual 63, 3, 695),
  (.aload 1, 15, .aload_n 1, 1, 0),
  (.iload 2, 16, .iload_n 2, 1, 0),
  (.iload 3, 17, .iload_n 3, 1, 0),
  (.invokestatic 14, 18, .invokevirtual 67, 3, 696),
  (.areturn, 21, .ireturn, 1, 0)]
/-- 60: WakeOrder$Trials.tryPlaces(LWakeOrder$Capital;I)V -/
def lr60 : List LRow := [(.aload 1, 0, .aload_n 1, 1, 0),
  (.getfield 65, 1, .getfield 21, 3, 234),
  (.getfield 448, 4, .getfield 27, 3, 202),
  (.astore 3, 7, .astore_n 3, 1, 0),
  (.aload 0, 8, .aload_n 0, 1, 0),
  (.iconst (-1), 9, .iconst (-1), 1, 0),
  (.putfield 515, 10, .putfield 71, 3, 307),
  (.aload 0, 13, .aload_n 0, 1, 0),
  (.iconst (-1), 14, .iconst (-1), 1, 0),
  (.putfield 516, 15, .putfield 74, 3, 309),
  (.aload 3, 18, .aload_n 3, 1, 0),
  (.iload 2, 19, .iload_n 2, 1, 0),
  (.invokestatic 45, 20, .invokevirtual 77, 3, 718),
  (.iconst (-1), 23, .iconst (-1), 1, 0),
  (.if_icmp .ne 16, 24, .if_icmp .ne 4, 3, 0),
  (.return_, 27, .return_, 1, 0),
  (.iconst 0, 28, .iconst 0, 1, 0),
  (.istore 4, 29, .istore 4, 2, 0),
  (.nop, 31, .iload 4, 0, 0),
  (.iload 4, 31, .iload 4, 2, 0),
  (.aload 3, 33, .aload_n 3, 1, 0),
  (.getfield 385, 34, .getfield 81, 3, 194),
  (.if_icmp .ge 65, 37, .if_icmp .ge 90, 3, 0),
  (.aload 0, 40, .aload_n 0, 1, 0),
  (.getfield 512, 41, .getfield 12, 3, 302),
  (.aload 3, 44, .aload_n 3, 1, 0),
  (.invokestatic 47, 45, .invokevirtual 52, 3, 700),
  (.aload 0, 48, .aload_n 0, 1, 0),
  (.getfield 512, 49, .getfield 12, 3, 302),
  (.iload 2, 52, .iload_n 2, 1, 0),
  (.invokestatic 49, 53, .invokevirtual 84, 3, 719),
  (.aload 0, 56, .aload_n 0, 1, 0),
  (.getfield 512, 57, .getfield 12, 3, 302),
  (.iload 2, 60, .iload_n 2, 1, 0),
  (.iload 4, 61, .iload 4, 2, 0),
  (.invokestatic 50, 63, .invokevirtual 87, 3, 720),
  (.aload 1, 66, .aload_n 1, 1, 0),
  (.aload 0, 67, .aload_n 0, 1, 0),
  (.getfield 512, 68, .getfield 12, 3, 302),
  (.aload 1, 71, .aload_n 1, 1, 0),
  (.getfield 65, 72, .getfield 21, 3, 234),
  (.getfield 451, 75, .getfield 60, 3, 214),
  (.invokestatic 5, 78, .invokevirtual 63, 3, 695),
  (.aload 1, 81, .aload_n 1, 1, 0),
  (.aload 0, 82, .aload_n 0, 1, 0),
  (.getfield 512, 83, .getfield 12, 3, 302),
  (.iload 2, 86, .iload_n 2, 1, 0),
  (.invokestatic 15, 87, .invokevirtual 91, 3, 721),
  (.istore 5, 90, .istore 5, 2, 0),
  (.aload 0, 92, .aload_n 0, 1, 0),
  (.getfield 516, 93, .getfield 74, 3, 309),
  (.iconst (-1), 96, .iconst (-1), 1, 0),
  (.if_icmp .eq 57, 97, .if_icmp .eq 12, 3, 0),
  (.iload 5, 100, .iload 5, 2, 0),
  (.aload 0, 102, .aload_n 0, 1, 0),
  (.getfield 516, 103, .getfield 74, 3, 309),
  (.if_icmp .ge 63, 106, .if_icmp .ge 15, 3, 0),
  (.aload 0, 109, .aload_n 0, 1, 0),
  (.iload 5, 110, .iload 5, 2, 0),
  (.putfield 516, 112, .putfield 74, 3, 309),
  (.aload 0, 115, .aload_n 0, 1, 0),
  (.iload 4, 116, .iload 4, 2, 0),
  (.putfield 515, 118, .putfield 71, 3, 307),
  (.iinc 4 1, 121, .iinc 4 1, 3, 0),
  (.goto 18, 124, .goto (-93), 3, 0),
  (.return_, 127, .return_, 1, 0)]
/-- 61: WakeOrder$Trials.fewestToDismiss(LWakeOrder$Capital;)I -/
def lr61 : List LRow := [(.aload 1, 0, .aload_n 1, 1, 0),
  (.getfield 65, 1, .getfield 21, 3, 234),
  (.getfield 448, 4, .getfield 27, 3, 202),
  (.invokestatic 46, 7, .invokevirtual 36, 3, 684),
  (.istore 2, 10, .istore_n 2, 1, 0),
  (.iload 2, 11, .iload_n 2, 1, 0),
  (.istore 3, 12, .istore_n 3, 1, 0),
  (.iconst 0, 13, .iconst 0, 1, 0),
  (.istore 4, 14, .istore 4, 2, 0),
  (.nop, 16, .iload 4, 0, 0),
  (.iload 4, 16, .iload 4, 2, 0),
  (.iload 2, 18, .iload_n 2, 1, 0),
  (.if_icmp .ge 39, 19, .if_icmp .ge 55, 3, 0),
  (.iload 4, 22, .iload 4, 2, 0),
  (.invokestatic 180, 24, .invokestatic 95, 3, 743),
  (.iload 3, 27, .iload_n 3, 1, 0),
  (.invokestatic 180, 28, .invokestatic 95, 3, 743),
  (.if_icmp .ge 20, 31, .if_icmp .ge 7, 3, 0),
  (.iconst 1, 34, .iconst 1, 1, 0),
  (.goto 21, 35, .goto 4, 3, 0),
  (.iconst 0, 38, .iconst 0, 1, 0),
  (.istore 5, 39, .istore 5, 2, 0),
  (.iload 5, 41, .iload 5, 2, 0),
  (.ifCond .eq 37, 43, .ifCond .eq 25, 3, 0),
  (.iload 4, 46, .iload 4, 2, 0),
  (.iload 2, 48, .iload_n 2, 1, 0),
  (.iconst (-1), 49, .iconst (-1), 1, 0),
  (.ixor, 50, .ixor, 1, 0),
  (.iand, 51, .iand, 1, 0),
  (.ifCond .ne 37, 52, .ifCond .ne 16, 3, 0),
  (.aload 0, 55, .aload_n 0, 1, 0),
  (.aload 1, 56, .aload_n 1, 1, 0),
  (.iload 4, 57, .iload 4, 2, 0),
  (.invokestatic 62, 59, .invokevirtual 100, 3, 749),
  (.ifCond .eq 37, 62, .ifCond .eq 6, 3, 0),
  (.iload 4, 65, .iload 4, 2, 0),
  (.istore 3, 67, .istore_n 3, 1, 0),
  (.iinc 4 1, 68, .iinc 4 1, 3, 0),
  (.goto 9, 71, .goto (-55), 3, 0),
  (.iload 3, 74, .iload_n 3, 1, 0),
  (.ireturn, 75, .ireturn, 1, 0)]
/-- 62: WakeOrder$Trials.nobodyStuckWithout(LWakeOrder$Capital;I)Z -/
def lr62 : List LRow := [(.aload 0, 0, .aload_n 0, 1, 0),
  (.getfield 512, 1, .getfield 12, 3, 302),
  (.aload 1, 4, .aload_n 1, 1, 0),
  (.getfield 65, 5, .getfield 21, 3, 234),
  (.getfield 448, 8, .getfield 27, 3, 202),
  (.invokestatic 47, 11, .invokevirtual 52, 3, 700),
  (.iconst 0, 14, .iconst 0, 1, 0),
  (.istore 3, 15, .istore_n 3, 1, 0),
  (.nop, 16, .iload_n 3, 0, 0),
  (.iload 3, 16, .iload_n 3, 1, 0),
  (.iconst 6, 17, .bipush 6, 2, 0),
  (.if_icmp .ge 25, 19, .if_icmp .ge 26, 3, 0),
  (.iload 2, 22, .iload_n 2, 1, 0),
  (.iload 3, 23, .iload_n 3, 1, 0),
  (.ishr, 24, .ishr, 1, 0),
  (.iconst 1, 25, .iconst 1, 1, 0),
  (.iand, 26, .iand, 1, 0),
  (.iconst 1, 27, .iconst 1, 1, 0),
  (.if_icmp .ne 23, 28, .if_icmp .ne 11, 3, 0),
  (.aload 0, 31, .aload_n 0, 1, 0),
  (.getfield 512, 32, .getfield 12, 3, 302),
  (.iload 3, 35, .iload_n 3, 1, 0),
  (.invokestatic 49, 36, .invokevirtual 84, 3, 719),
  (.iinc 3 1, 39, .iinc 3 1, 3, 0),
  (.goto 8, 42, .goto (-26), 3, 0),
  (.aload 1, 45, .aload_n 1, 1, 0),
  (.aload 0, 46, .aload_n 0, 1, 0),
  (.getfield 512, 47, .getfield 12, 3, 302),
  (.aload 1, 50, .aload_n 1, 1, 0),
  (.getfield 65, 51, .getfield 21, 3, 234),
  (.getfield 451, 54, .getfield 60, 3, 214),
  (.invokestatic 5, 57, .invokevirtual 63, 3, 695),
  (.aload 1, 60, .aload_n 1, 1, 0),
  (.aload 0, 61, .aload_n 0, 1, 0),
  (.getfield 512, 62, .getfield 12, 3, 302),
  (.invokestatic 11, 65, .invokevirtual 104, 3, 753),
  (.ifCond .ne 39, 68, .ifCond .ne 7, 3, 0),
  (.iconst 1, 71, .iconst 1, 1, 0),
  (.goto 40, 72, .goto 4, 3, 0),
  (.iconst 0, 75, .iconst 0, 1, 0),
  (.areturn, 76, .ireturn, 1, 0)]
/-- 63: WakeOrder$Windows.<init>()V -/
def lr63 : List LRow := [(.aload 0, 0, .aload_n 0, 1, 0),
  (.pop, 1, .invokespecial 3, 3, 327),
  (.aload 0, 4, .aload_n 0, 1, 0),
  (.iconst 6, 5, .bipush 6, 2, 0),
  (.newarray .int, 7, .newarray .int, 2, 0),
  (.putstatic 576, 9, .putfield 9, 3, 330),
  (.aload 0, 12, .aload_n 0, 1, 0),
  (.iconst 6, 13, .bipush 6, 2, 0),
  (.newarray .int, 15, .newarray .int, 2, 0),
  (.putstatic 577, 17, .putfield 15, 3, 331),
  (.aload 0, 20, .aload_n 0, 1, 0),
  (.new 6, 21, .new 18, 3, 328),
  (.dup, 24, .dup, 1, 0),
  (.invokestatic 43, 25, .invokespecial 20, 3, 329),
  (.putstatic 579, 28, .putfield 21, 3, 334),
  (.aload 0, 31, .aload_n 0, 1, 0),
  (.iconst 6, 32, .bipush 6, 2, 0),
  (.newarray .int, 34, .newarray .int, 2, 0),
  (.putstatic 581, 36, .putfield 25, 3, 337),
  (.aload 0, 39, .aload_n 0, 1, 0),
  (.iconst 36, 40, .bipush 36, 2, 0),
  (.newarray .int, 42, .newarray .int, 2, 0),
  (.putstatic 582, 44, .putfield 28, 3, 338),
  (.return_, 47, .return_, 1, 0)]
/-- 64: WakeOrder$Windows.append(II)Z -/
def lr64 : List LRow := [(.aload 0, 0, .aload_n 0, 1, 0),
  (.getfield 578, 1, .getfield 31, 3, 332),
  (.ifCond .lt 7, 4, .ifCond .lt 12, 3, 0),
  (.aload 0, 7, .aload_n 0, 1, 0),
  (.getfield 578, 8, .getfield 31, 3, 332),
  (.iconst 6, 11, .bipush 6, 2, 0),
  (.if_icmp .lt 9, 13, .if_icmp .lt 5, 3, 0),
  (.iconst 0, 16, .iconst 0, 1, 0),
  (.areturn, 17, .ireturn, 1, 0),
  (.aload 0, 18, .aload_n 0, 1, 0),
  (.getfield 576, 19, .getfield 9, 3, 330),
  (.aload 0, 22, .aload_n 0, 1, 0),
  (.getfield 578, 23, .getfield 31, 3, 332),
  (.iload 1, 26, .iload_n 1, 1, 0),
  (.iastore, 27, .iastore, 1, 0),
  (.aload 0, 28, .aload_n 0, 1, 0),
  (.getfield 577, 29, .getfield 15, 3, 331),
  (.aload 0, 32, .aload_n 0, 1, 0),
  (.getfield 578, 33, .getfield 31, 3, 332),
  (.iload 2, 36, .iload_n 2, 1, 0),
  (.iastore, 37, .iastore, 1, 0),
  (.aload 0, 38, .aload_n 0, 1, 0),
  (.dup, 39, .dup, 1, 0),
  (.getfield 578, 40, .getfield 31, 3, 332),
  (.iconst 1, 43, .iconst 1, 1, 0),
  (.iadd, 44, .iadd, 1, 0),
  (.putfield 578, 45, .putfield 31, 3, 332),
  (.iconst 1, 48, .iconst 1, 1, 0),
  (.areturn, 49, .ireturn, 1, 0)]
/-- 65: WakeOrder$Windows.survey(LWakeOrder$Capital;)V -/
def lr65 : List LRow := [(.aload 0, 0, .aload_n 0, 1, 0),
  (.iconst 0, 1, .iconst 0, 1, 0),
  (.putfield 580, 2, .putfield 35, 3, 335),
  (.aload 0, 5, .aload_n 0, 1, 0),
  (.getfield 581, 6, .getfield 25, 3, 337),
  (.iconst (-1), 9, .iconst (-1), 1, 0),
  (.invokestatic 183, 10, .invokestatic 38, 3, 777),
  (.aload 0, 13, .aload_n 0, 1, 0),
  (.getfield 582, 14, .getfield 28, 3, 338),
  (.iconst 0, 17, .iconst 0, 1, 0),
  (.invokestatic 183, 18, .invokestatic 38, 3, 777),
  (.aload 0, 21, .aload_n 0, 1, 0),
  (.getfield 579, 22, .getfield 21, 3, 334),
  (.aload 1, 25, .aload_n 1, 1, 0),
  (.getfield 65, 26, .getfield 44, 3, 235),
  (.getfield 448, 29, .getfield 50, 3, 204),
  (.invokestatic 46, 32, .invokevirtual 55, 3, 778),
  (.invokestatic 48, 35, .invokevirtual 59, 3, 779),
  (.iconst 0, 38, .iconst 0, 1, 0),
  (.istore 2, 39, .istore_n 2, 1, 0),
  (.nop, 40, .iload_n 2, 0, 0),
  (.iload 2, 40, .iload_n 2, 1, 0),
  (.iconst 720, 41, .sipush 720, 3, 0),
  (.if_icmp .ge 45, 44, .if_icmp .ge 50, 3, 0),
  (.aload 1, 47, .aload_n 1, 1, 0),
  (.aload 0, 48, .aload_n 0, 1, 0),
  (.getfield 579, 49, .getfield 21, 3, 334),
  (.aload 1, 52, .aload_n 1, 1, 0),
  (.getfield 65, 53, .getfield 44, 3, 235),
  (.getfield 451, 56, .getfield 63, 3, 215),
  (.invokestatic 5, 59, .invokevirtual 66, 3, 780),
  (.aload 0, 62, .aload_n 0, 1, 0),
  (.aload 1, 63, .aload_n 1, 1, 0),
  (.invokestatic 66, 64, .invokevirtual 70, 3, 781),
  (.ifCond .eq 38, 67, .ifCond .eq 8, 3, 0),
  (.aload 0, 70, .aload_n 0, 1, 0),
  (.aload 1, 71, .aload_n 1, 1, 0),
  (.invokestatic 67, 72, .invokevirtual 74, 3, 789),
  (.aload 0, 75, .aload_n 0, 1, 0),
  (.getfield 579, 76, .getfield 21, 3, 334),
  (.invokestatic 52, 79, .invokevirtual 78, 3, 794),
  (.ifCond .ne 43, 82, .ifCond .ne 6, 3, 0),
  (.goto 45, 85, .goto 9, 3, 0),
  (.iinc 2 1, 88, .iinc 2 1, 3, 0),
  (.goto 20, 91, .goto (-51), 3, 0),
  (.return_, 94, .return_, 1, 0)]
/-- 66: WakeOrder$Windows.fits(LWakeOrder$Capital;)Z -/
def lr66 : List LRow := [(.iconst 0, 0, .iconst 0, 1, 0),
  (.istore 2, 1, .istore_n 2, 1, 0),
  (.nop, 2, .iload_n 2, 0, 0),
  (.iload 2, 2, .iload_n 2, 1, 0),
  (.aload 0, 3, .aload_n 0, 1, 0),
  (.getfield 578, 4, .getfield 31, 3, 332),
  (.if_icmp .ge 25, 7, .if_icmp .ge 36, 3, 0),
  (.iload 2, 10, .iload_n 2, 1, 0),
  (.iconst 6, 11, .bipush 6, 2, 0),
  (.if_icmp .ge 25, 13, .if_icmp .ge 30, 3, 0),
  (.aload 1, 16, .aload_n 1, 1, 0),
  (.aload 0, 17, .aload_n 0, 1, 0),
  (.getfield 576, 18, .getfield 9, 3, 330),
  (.iload 2, 21, .iload_n 2, 1, 0),
  (.iaload, 22, .iaload, 1, 0),
  (.aload 0, 23, .aload_n 0, 1, 0),
  (.getfield 577, 24, .getfield 15, 3, 331),
  (.iload 2, 27, .iload_n 2, 1, 0),
  (.iaload, 28, .iaload, 1, 0),
  (.invokestatic 13, 29, .invokevirtual 82, 3, 785),
  (.ifCond .ne 23, 32, .ifCond .ne 5, 3, 0),
  (.iconst 0, 35, .iconst 0, 1, 0),
  (.areturn, 36, .ireturn, 1, 0),
  (.iinc 2 1, 37, .iinc 2 1, 3, 0),
  (.goto 2, 40, .goto (-38), 3, 0),
  (.iconst 1, 43, .iconst 1, 1, 0),
  (.areturn, 44, .ireturn, 1, 0)]
/-- 67: WakeOrder$Windows.countTrial(LWakeOrder$Capital;)V -/
def lr67 : List LRow := [(.iconst 0, 0, .iconst 0, 1, 0),
  (.istore 2, 1, .istore_n 2, 1, 0),
  (.nop, 2, .iload_n 2, 0, 0),
  (.iload 2, 2, .iload_n 2, 1, 0),
  (.iconst 6, 3, .bipush 6, 2, 0),
  (.if_icmp .ge 56, 5, .if_icmp .ge 90, 3, 0),
  (.aload 0, 8, .aload_n 0, 1, 0),
  (.getfield 579, 9, .getfield 21, 3, 334),
  (.iload 2, 12, .iload_n 2, 1, 0),
  (.invokestatic 45, 13, .invokevirtual 86, 3, 793),
  (.istore 3, 16, .istore_n 3, 1, 0),
  (.aload 0, 17, .aload_n 0, 1, 0),
  (.getfield 581, 18, .getfield 25, 3, 337),
  (.iload 2, 21, .iload_n 2, 1, 0),
  (.aload 0, 22, .aload_n 0, 1, 0),
  (.getfield 580, 23, .getfield 35, 3, 335),
  (.ifCond .eq 23, 26, .ifCond .eq 13, 3, 0),
  (.aload 0, 29, .aload_n 0, 1, 0),
  (.getfield 581, 30, .getfield 25, 3, 337),
  (.iload 2, 33, .iload_n 2, 1, 0),
  (.iaload, 34, .iaload, 1, 0),
  (.iload 3, 35, .iload_n 3, 1, 0),
  (.if_icmp .ne 25, 36, .if_icmp .ne 7, 3, 0),
  (.iload 3, 39, .iload_n 3, 1, 0),
  (.goto 26, 40, .goto 4, 3, 0),
  (.iconst (-1), 43, .iconst (-1), 1, 0),
  (.iastore, 44, .iastore, 1, 0),
  (.iload 2, 45, .iload_n 2, 1, 0),
  (.iconst 1, 46, .iconst 1, 1, 0),
  (.iadd, 47, .iadd, 1, 0),
  (.istore 4, 48, .istore 4, 2, 0),
  (.nop, 50, .iload 4, 0, 0),
  (.iload 4, 50, .iload 4, 2, 0),
  (.iconst 6, 52, .bipush 6, 2, 0),
  (.if_icmp .ge 54, 54, .if_icmp .ge 35, 3, 0),
  (.aload 1, 57, .aload_n 1, 1, 0),
  (.iload 2, 58, .iload_n 2, 1, 0),
  (.iload 4, 59, .iload 4, 2, 0),
  (.invokestatic 13, 61, .invokevirtual 82, 3, 785),
  (.ifCond .eq 52, 64, .ifCond .eq 19, 3, 0),
  (.aload 0, 67, .aload_n 0, 1, 0),
  (.getfield 582, 68, .getfield 28, 3, 338),
  (.iload 2, 71, .iload_n 2, 1, 0),
  (.iconst 6, 72, .bipush 6, 2, 0),
  (.imul, 74, .imul, 1, 0),
  (.iload 4, 75, .iload 4, 2, 0),
  (.iadd, 77, .iadd, 1, 0),
  (.dup2, 78, .dup2, 1, 0),
  (.iaload, 79, .iaload, 1, 0),
  (.iconst 1, 80, .iconst 1, 1, 0),
  (.iadd, 81, .iadd, 1, 0),
  (.iastore, 82, .iastore, 1, 0),
  (.iinc 4 1, 83, .iinc 4 1, 3, 0),
  (.goto 31, 86, .goto (-36), 3, 0),
  (.iinc 2 1, 89, .iinc 2 1, 3, 0),
  (.goto 2, 92, .goto (-90), 3, 0),
  (.aload 0, 95, .aload_n 0, 1, 0),
  (.dup, 96, .dup, 1, 0),
  (.getfield 580, 97, .getfield 35, 3, 335),
  (.iconst 1, 100, .iconst 1, 1, 0),
  (.iadd, 101, .iadd, 1, 0),
  (.putfield 580, 102, .putfield 35, 3, 335),
  (.return_, 105, .return_, 1, 0)]
/-- 68: WakeOrder$Windows.sureOf(I)I -/
def lr68 : List LRow := [(.aload 0, 0, .aload_n 0, 1, 0),
  (.getfield 581, 1, .getfield 25, 3, 337),
  (.iload 1, 4, .iload_n 1, 1, 0),
  (.invokestatic 107, 5, .invokestatic 90, 3, 799),
  (.ireturn, 8, .ireturn, 1, 0)]
/-- 69: WakeOrder$Windows.bestPair(I)I -/
def lr69 : List LRow := [(.iconst (-1), 0, .iconst (-1), 1, 0),
  (.istore 2, 1, .istore_n 2, 1, 0),
  (.aload 0, 2, .aload_n 0, 1, 0),
  (.getfield 580, 3, .getfield 35, 3, 335),
  (.istore 3, 6, .istore_n 3, 1, 0),
  (.iconst 0, 7, .iconst 0, 1, 0),
  (.istore 4, 8, .istore 4, 2, 0),
  (.nop, 10, .iload 4, 0, 0),
  (.iload 4, 10, .iload 4, 2, 0),
  (.iconst 6, 12, .bipush 6, 2, 0),
  (.if_icmp .ge 56, 14, .if_icmp .ge 87, 3, 0),
  (.iload 4, 17, .iload 4, 2, 0),
  (.iload 1, 19, .iload_n 1, 1, 0),
  (.if_icmp .ge 56, 20, .if_icmp .ge 81, 3, 0),
  (.iload 4, 23, .iload 4, 2, 0),
  (.iconst 1, 25, .iconst 1, 1, 0),
  (.iadd, 26, .iadd, 1, 0),
  (.istore 5, 27, .istore 5, 2, 0),
  (.nop, 29, .iload 5, 0, 0),
  (.iload 5, 29, .iload 5, 2, 0),
  (.iconst 6, 31, .bipush 6, 2, 0),
  (.if_icmp .ge 54, 33, .if_icmp .ge 62, 3, 0),
  (.iload 5, 36, .iload 5, 2, 0),
  (.iload 1, 38, .iload_n 1, 1, 0),
  (.if_icmp .ge 54, 39, .if_icmp .ge 56, 3, 0),
  (.aload 0, 42, .aload_n 0, 1, 0),
  (.getfield 582, 43, .getfield 28, 3, 338),
  (.iload 4, 46, .iload 4, 2, 0),
  (.iconst 6, 48, .bipush 6, 2, 0),
  (.imul, 50, .imul, 1, 0),
  (.iload 5, 51, .iload 5, 2, 0),
  (.iadd, 53, .iadd, 1, 0),
  (.iaload, 54, .iaload, 1, 0),
  (.istore 6, 55, .istore 6, 2, 0),
  (.iload 6, 57, .iload 6, 2, 0),
  (.aload 0, 59, .aload_n 0, 1, 0),
  (.getfield 580, 60, .getfield 35, 3, 335),
  (.iload 6, 63, .iload 6, 2, 0),
  (.isub, 65, .isub, 1, 0),
  (.invokeinterface 0 0, 66, .invokestatic 94, 3, 808),
  (.istore 7, 69, .istore 7, 2, 0),
  (.iload 7, 71, .iload 7, 2, 0),
  (.iload 3, 73, .iload_n 3, 1, 0),
  (.if_icmp .ge 52, 74, .if_icmp .ge 15, 3, 0),
  (.iload 7, 77, .iload 7, 2, 0),
  (.istore 3, 79, .istore_n 3, 1, 0),
  (.iconst 10, 80, .bipush 10, 2, 0),
  (.iload 4, 82, .iload 4, 2, 0),
  (.imul, 84, .imul, 1, 0),
  (.iload 5, 85, .iload 5, 2, 0),
  (.iadd, 87, .iadd, 1, 0),
  (.istore 2, 88, .istore_n 2, 1, 0),
  (.iinc 5 1, 89, .iinc 5 1, 3, 0),
  (.goto 18, 92, .goto (-63), 3, 0),
  (.iinc 4 1, 95, .iinc 4 1, 3, 0),
  (.goto 7, 98, .goto (-88), 3, 0),
  (.iload 2, 101, .iload_n 2, 1, 0),
  (.ireturn, 102, .ireturn, 1, 0)]
/-- 70: WakeOrder.<init>()V -/
def lr70 : List LRow := [(.aload 0, 0, .aload_n 0, 1, 0),
  (.pop, 1, .invokespecial 3, 3, 86),
  (.aload 0, 4, .aload_n 0, 1, 0),
  (.new 5, 5, .new 9, 3, 89),
  (.dup, 8, .dup, 1, 0),
  (.invokestatic 29, 9, .invokespecial 11, 3, 91),
  (.putstatic 640, 12, .putfield 12, 3, 371),
  (.aload 0, 15, .aload_n 0, 1, 0),
  (.new 1, 16, .new 16, 3, 171),
  (.dup, 19, .dup, 1, 0),
  (.invokestatic 3, 20, .invokespecial 18, 3, 173),
  (.putstatic 641, 23, .putfield 19, 3, 372),
  (.aload 0, 26, .aload_n 0, 1, 0),
  (.aload 0, 27, .aload_n 0, 1, 0),
  (.getfield 641, 28, .getfield 19, 3, 372),
  (.getfield 64, 31, .getfield 23, 3, 231),
  (.putstatic 642, 34, .putfield 27, 3, 373),
  (.aload 0, 37, .aload_n 0, 1, 0),
  (.aload 0, 38, .aload_n 0, 1, 0),
  (.getfield 641, 39, .getfield 19, 3, 372),
  (.getfield 65, 42, .getfield 28, 3, 233),
  (.putstatic 643, 45, .putfield 32, 3, 374),
  (.aload 0, 48, .aload_n 0, 1, 0),
  (.new 3, 49, .new 33, 3, 253),
  (.dup, 52, .dup, 1, 0),
  (.invokestatic 21, 53, .invokespecial 35, 3, 255),
  (.putstatic 644, 56, .putfield 36, 3, 375),
  (.aload 0, 59, .aload_n 0, 1, 0),
  (.new 4, 60, .new 40, 3, 273),
  (.dup, 63, .dup, 1, 0),
  (.invokestatic 25, 64, .invokespecial 42, 3, 275),
  (.putstatic 645, 67, .putfield 43, 3, 376),
  (.aload 0, 70, .aload_n 0, 1, 0),
  (.new 8, 71, .new 47, 3, 294),
  (.dup, 74, .dup, 1, 0),
  (.invokestatic 57, 75, .invokespecial 49, 3, 296),
  (.putstatic 646, 78, .putfield 50, 3, 377),
  (.aload 0, 81, .aload_n 0, 1, 0),
  (.new 9, 82, .new 54, 3, 322),
  (.dup, 85, .dup, 1, 0),
  (.invokestatic 63, 86, .invokespecial 56, 3, 324),
  (.putstatic 647, 89, .putfield 57, 3, 378),
  (.aload 0, 92, .aload_n 0, 1, 0),
  (.new 0, 93, .new 61, 3, 354),
  (.dup, 96, .dup, 1, 0),
  (.invokestatic 0, 97, .invokespecial 63, 3, 356),
  (.putstatic 648, 100, .putfield 64, 3, 379),
  (.return_, 103, .return_, 1, 0)]
/-- 71: WakeOrder.feed(I)I -/
def lr71 : List LRow := [(.iload 1, 0, .iload_n 1, 1, 0),
  (.ifCond .lt 5, 1, .ifCond .lt 10, 3, 0),
  (.iload 1, 4, .iload_n 1, 1, 0),
  (.iconst 255, 5, .sipush 255, 3, 0),
  (.if_icmp .le 7, 8, .if_icmp .le 6, 3, 0),
  (.iconst (-1000000002), 11, .ldc 68, 2, 406),
  (.ireturn, 13, .ireturn, 1, 0),
  (.aload 0, 14, .aload_n 0, 1, 0),
  (.getfield 640, 15, .getfield 12, 3, 371),
  (.iload 1, 18, .iload_n 1, 1, 0),
  (.invokestatic 30, 19, .invokevirtual 69, 3, 407),
  (.ifCond .eq 16, 22, .ifCond .eq 13, 3, 0),
  (.aload 0, 25, .aload_n 0, 1, 0),
  (.getfield 640, 26, .getfield 12, 3, 371),
  (.getfield 322, 29, .getfield 73, 3, 149),
  (.goto 17, 32, .goto 5, 3, 0),
  (.iconst (-1000000004), 35, .ldc 77, 2, 411),
  (.ireturn, 37, .ireturn, 1, 0)]
/-- 72: WakeOrder.city()I -/
def lr72 : List LRow := [(.aload 0, 0, .aload_n 0, 1, 0),
  (.getfield 640, 1, .getfield 12, 3, 371),
  (.invokestatic 31, 4, .invokevirtual 78, 3, 416),
  (.aload 0, 7, .aload_n 0, 1, 0),
  (.getfield 640, 8, .getfield 12, 3, 371),
  (.getfield 323, 11, .getfield 81, 3, 150),
  (.ifCond .eq 13, 14, .ifCond .eq 14, 3, 0),
  (.iconst (-10), 17, .bipush (-10), 2, 0),
  (.aload 0, 19, .aload_n 0, 1, 0),
  (.getfield 640, 20, .getfield 12, 3, 371),
  (.getfield 323, 23, .getfield 81, 3, 150),
  (.isub, 26, .isub, 1, 0),
  (.ireturn, 27, .ireturn, 1, 0),
  (.aload 0, 28, .aload_n 0, 1, 0),
  (.getfield 642, 29, .getfield 27, 3, 373),
  (.aload 0, 32, .aload_n 0, 1, 0),
  (.getfield 640, 33, .getfield 12, 3, 371),
  (.getfield 321, 36, .getfield 84, 3, 147),
  (.invokestatic 18, 39, .invokevirtual 87, 3, 482),
  (.aload 0, 42, .aload_n 0, 1, 0),
  (.getfield 643, 43, .getfield 32, 3, 374),
  (.aload 0, 46, .aload_n 0, 1, 0),
  (.getfield 642, 47, .getfield 27, 3, 373),
  (.invokestatic 55, 50, .invokevirtual 93, 3, 489),
  (.aload 0, 53, .aload_n 0, 1, 0),
  (.getfield 644, 54, .getfield 36, 3, 375),
  (.invokestatic 24, 57, .invokevirtual 98, 3, 505),
  (.aload 0, 60, .aload_n 0, 1, 0),
  (.getfield 645, 61, .getfield 43, 3, 376),
  (.invokestatic 28, 64, .invokevirtual 101, 3, 509),
  (.aload 0, 67, .aload_n 0, 1, 0),
  (.getfield 647, 68, .getfield 57, 3, 378),
  (.iconst 0, 71, .iconst 0, 1, 0),
  (.putfield 578, 72, .putfield 102, 3, 333),
  (.aload 0, 75, .aload_n 0, 1, 0),
  (.getfield 648, 76, .getfield 64, 3, 379),
  (.iconst 0, 79, .iconst 0, 1, 0),
  (.putfield 2, 80, .putfield 105, 3, 363),
  (.aload 0, 83, .aload_n 0, 1, 0),
  (.getfield 642, 84, .getfield 27, 3, 373),
  (.getfield 129, 87, .getfield 106, 3, 107),
  (.ireturn, 90, .ireturn, 1, 0)]
/-- 73: WakeOrder.fault()I -/
def lr73 : List LRow := [(.aload 0, 0, .aload_n 0, 1, 0),
  (.getfield 640, 1, .getfield 12, 3, 371),
  (.getfield 324, 4, .getfield 109, 3, 153),
  (.ireturn, 7, .ireturn, 1, 0)]
/-- 74: WakeOrder.told(I)I -/
def lr74 : List LRow := [(.aload 0, 0, .aload_n 0, 1, 0),
  (.getfield 641, 1, .getfield 19, 3, 372),
  (.invokestatic 4, 4, .invokevirtual 112, 3, 521),
  (.iload 1, 7, .iload_n 1, 1, 0),
  (.tableswitch 55 0 11 #[5, 9, 13, 17, 21, 25, 28, 32, 39, 43, 47, 51], 8, .tableswitch 164 0 11 #[64, 72, 80, 88, 96, 104, 109, 117, 132, 140, 148, 156], 64, 0),
  (.aload 0, 72, .aload_n 0, 1, 0),
  (.getfield 642, 73, .getfield 27, 3, 373),
  (.getfield 128, 76, .getfield 115, 3, 103),
  (.ireturn, 79, .ireturn, 1, 0),
  (.aload 0, 80, .aload_n 0, 1, 0),
  (.getfield 642, 81, .getfield 27, 3, 373),
  (.getfield 129, 84, .getfield 106, 3, 107),
  (.ireturn, 87, .ireturn, 1, 0),
  (.aload 0, 88, .aload_n 0, 1, 0),
  (.getfield 642, 89, .getfield 27, 3, 373),
  (.getfield 130, 92, .getfield 118, 3, 111),
  (.ireturn, 95, .ireturn, 1, 0),
  (.aload 0, 96, .aload_n 0, 1, 0),
  (.getfield 640, 97, .getfield 12, 3, 371),
  (.getfield 322, 100, .getfield 73, 3, 149),
  (.ireturn, 103, .ireturn, 1, 0),
  (.aload 0, 104, .aload_n 0, 1, 0),
  (.getfield 643, 105, .getfield 32, 3, 374),
  (.getfield 452, 108, .getfield 121, 3, 218),
  (.ireturn, 111, .ireturn, 1, 0),
  (.aload 0, 112, .aload_n 0, 1, 0),
  (.invokestatic 102, 113, .invokevirtual 124, 3, 562),
  (.ireturn, 116, .ireturn, 1, 0),
  (.aload 0, 117, .aload_n 0, 1, 0),
  (.getfield 643, 118, .getfield 32, 3, 374),
  (.getfield 451, 121, .getfield 128, 3, 216),
  (.ireturn, 124, .ireturn, 1, 0),
  (.aload 0, 125, .aload_n 0, 1, 0),
  (.getfield 641, 126, .getfield 19, 3, 372),
  (.aload 0, 129, .aload_n 0, 1, 0),
  (.getfield 643, 130, .getfield 32, 3, 374),
  (.getfield 448, 133, .getfield 131, 3, 205),
  (.invokestatic 11, 136, .invokevirtual 135, 3, 571),
  (.ireturn, 139, .ireturn, 1, 0),
  (.aload 0, 140, .aload_n 0, 1, 0),
  (.getfield 641, 141, .getfield 19, 3, 372),
  (.invokestatic 12, 144, .invokevirtual 139, 3, 575),
  (.ireturn, 147, .ireturn, 1, 0),
  (.aload 0, 148, .aload_n 0, 1, 0),
  (.getfield 647, 149, .getfield 57, 3, 378),
  (.getfield 578, 152, .getfield 102, 3, 333),
  (.ireturn, 155, .ireturn, 1, 0),
  (.aload 0, 156, .aload_n 0, 1, 0),
  (.getfield 648, 157, .getfield 64, 3, 379),
  (.getfield 2, 160, .getfield 105, 3, 363),
  (.ireturn, 163, .ireturn, 1, 0),
  (.aload 0, 164, .aload_n 0, 1, 0),
  (.getfield 644, 165, .getfield 36, 3, 375),
  (.getfield 194, 168, .getfield 142, 3, 265),
  (.ireturn, 171, .ireturn, 1, 0),
  (.iconst (-1000000002), 172, .ldc 68, 2, 406),
  (.ireturn, 174, .ireturn, 1, 0)]
/-- 75: WakeOrder.person(II)I -/
def lr75 : List LRow := [(.aload 0, 0, .aload_n 0, 1, 0),
  (.iload 1, 1, .iload_n 1, 1, 0),
  (.invokestatic 99, 2, .invokevirtual 143, 3, 583),
  (.ifCond .ne 6, 5, .ifCond .ne 6, 3, 0),
  (.iconst (-1000000001), 8, .ldc 146, 2, 587),
  (.ireturn, 10, .ireturn, 1, 0),
  (.aload 0, 11, .aload_n 0, 1, 0),
  (.getfield 641, 12, .getfield 19, 3, 372),
  (.invokestatic 4, 15, .invokevirtual 112, 3, 521),
  (.iload 2, 18, .iload_n 2, 1, 0),
  (.tableswitch 39 0 4 #[11, 17, 23, 29, 35], 19, .tableswitch 81 0 4 #[33, 43, 55, 65, 75], 33, 0),
  (.aload 0, 52, .aload_n 0, 1, 0),
  (.getfield 643, 53, .getfield 32, 3, 374),
  (.getfield 449, 56, .getfield 147, 3, 208),
  (.iload 1, 59, .iload_n 1, 1, 0),
  (.iaload, 60, .iaload, 1, 0),
  (.ireturn, 61, .ireturn, 1, 0),
  (.aload 0, 62, .aload_n 0, 1, 0),
  (.getfield 643, 63, .getfield 32, 3, 374),
  (.getfield 448, 66, .getfield 131, 3, 205),
  (.iload 1, 69, .iload_n 1, 1, 0),
  (.invokestatic 45, 70, .invokevirtual 151, 3, 588),
  (.ireturn, 73, .ireturn, 1, 0),
  (.aload 0, 74, .aload_n 0, 1, 0),
  (.getfield 642, 75, .getfield 27, 3, 373),
  (.getfield 132, 78, .getfield 157, 3, 117),
  (.iload 1, 81, .iload_n 1, 1, 0),
  (.iaload, 82, .iaload, 1, 0),
  (.ireturn, 83, .ireturn, 1, 0),
  (.aload 0, 84, .aload_n 0, 1, 0),
  (.getfield 641, 85, .getfield 19, 3, 372),
  (.getfield 66, 88, .getfield 160, 3, 237),
  (.iload 1, 91, .iload_n 1, 1, 0),
  (.iaload, 92, .iaload, 1, 0),
  (.ireturn, 93, .ireturn, 1, 0),
  (.aload 0, 94, .aload_n 0, 1, 0),
  (.iload 1, 95, .iload_n 1, 1, 0),
  (.invokestatic 103, 96, .invokevirtual 163, 3, 592),
  (.ireturn, 99, .ireturn, 1, 0),
  (.iconst (-1000000002), 100, .ldc 68, 2, 406),
  (.ireturn, 102, .ireturn, 1, 0)]
/-- 76: WakeOrder.job(II)I -/
def lr76 : List LRow := [(.aload 0, 0, .aload_n 0, 1, 0),
  (.iload 1, 1, .iload_n 1, 1, 0),
  (.invokestatic 100, 2, .invokevirtual 166, 3, 600),
  (.ifCond .ne 6, 5, .ifCond .ne 6, 3, 0),
  (.iconst (-1000000001), 8, .ldc 146, 2, 587),
  (.ireturn, 10, .ireturn, 1, 0),
  (.aload 0, 11, .aload_n 0, 1, 0),
  (.getfield 641, 12, .getfield 19, 3, 372),
  (.invokestatic 4, 15, .invokevirtual 112, 3, 521),
  (.iload 2, 18, .iload_n 2, 1, 0),
  (.tableswitch 35 0 3 #[11, 17, 23, 29], 19, .tableswitch 69 0 3 #[29, 39, 49, 59], 29, 0),
  (.aload 0, 48, .aload_n 0, 1, 0),
  (.getfield 643, 49, .getfield 32, 3, 374),
  (.getfield 450, 52, .getfield 169, 3, 211),
  (.iload 1, 55, .iload_n 1, 1, 0),
  (.iaload, 56, .iaload, 1, 0),
  (.ireturn, 57, .ireturn, 1, 0),
  (.aload 0, 58, .aload_n 0, 1, 0),
  (.getfield 642, 59, .getfield 27, 3, 373),
  (.getfield 134, 62, .getfield 172, 3, 123),
  (.iload 1, 65, .iload_n 1, 1, 0),
  (.iaload, 66, .iaload, 1, 0),
  (.ireturn, 67, .ireturn, 1, 0),
  (.aload 0, 68, .aload_n 0, 1, 0),
  (.getfield 642, 69, .getfield 27, 3, 373),
  (.getfield 135, 72, .getfield 175, 3, 126),
  (.iload 1, 75, .iload_n 1, 1, 0),
  (.iaload, 76, .iaload, 1, 0),
  (.ireturn, 77, .ireturn, 1, 0),
  (.aload 0, 78, .aload_n 0, 1, 0),
  (.getfield 641, 79, .getfield 19, 3, 372),
  (.getfield 67, 82, .getfield 178, 3, 240),
  (.iload 1, 85, .iload_n 1, 1, 0),
  (.iaload, 86, .iaload, 1, 0),
  (.ireturn, 87, .ireturn, 1, 0),
  (.iconst (-1000000002), 88, .ldc 68, 2, 406),
  (.ireturn, 90, .ireturn, 1, 0)]
/-- 77: WakeOrder.order(I)I -/
def lr77 : List LRow := [(.aload 0, 0, .aload_n 0, 1, 0),
  (.getfield 643, 1, .getfield 32, 3, 374),
  (.getfield 448, 4, .getfield 131, 3, 205),
  (.iload 1, 7, .iload_n 1, 1, 0),
  (.invokestatic 44, 8, .invokevirtual 181, 3, 608),
  (.ireturn, 11, .ireturn, 1, 0)]
/-- 78: WakeOrder.rank(II)I -/
def lr78 : List LRow := [(.aload 0, 0, .aload_n 0, 1, 0),
  (.iload 1, 1, .iload_n 1, 1, 0),
  (.invokestatic 99, 2, .invokevirtual 143, 3, 583),
  (.ifCond .ne 6, 5, .ifCond .ne 6, 3, 0),
  (.iconst (-1000000001), 8, .ldc 146, 2, 587),
  (.ireturn, 10, .ireturn, 1, 0),
  (.iload 2, 11, .iload_n 2, 1, 0),
  (.ifCond .lt 14, 12, .ifCond .lt 17, 3, 0),
  (.iload 2, 15, .iload_n 2, 1, 0),
  (.aload 0, 16, .aload_n 0, 1, 0),
  (.getfield 643, 17, .getfield 32, 3, 374),
  (.getfield 448, 20, .getfield 131, 3, 205),
  (.getfield 385, 23, .getfield 184, 3, 195),
  (.if_icmp .lt 16, 26, .if_icmp .lt 6, 3, 0),
  (.iconst (-1000000002), 29, .ldc 68, 2, 406),
  (.ireturn, 31, .ireturn, 1, 0),
  (.aload 0, 32, .aload_n 0, 1, 0),
  (.getfield 643, 33, .getfield 32, 3, 374),
  (.getfield 448, 36, .getfield 131, 3, 205),
  (.iload 1, 39, .iload_n 1, 1, 0),
  (.invokestatic 45, 40, .invokevirtual 151, 3, 588),
  (.istore 3, 43, .istore_n 3, 1, 0),
  (.iload 3, 44, .iload_n 3, 1, 0),
  (.iconst (-1), 45, .iconst (-1), 1, 0),
  (.if_icmp .ne 27, 46, .if_icmp .ne 6, 3, 0),
  (.iconst (-1000000003), 49, .ldc 187, 2, 613),
  (.ireturn, 51, .ireturn, 1, 0),
  (.aload 0, 52, .aload_n 0, 1, 0),
  (.getfield 644, 53, .getfield 36, 3, 375),
  (.aload 0, 56, .aload_n 0, 1, 0),
  (.getfield 643, 57, .getfield 32, 3, 374),
  (.invokestatic 22, 60, .invokevirtual 188, 3, 614),
  (.aload 0, 63, .aload_n 0, 1, 0),
  (.getfield 643, 64, .getfield 32, 3, 374),
  (.getfield 448, 67, .getfield 131, 3, 205),
  (.iload 1, 70, .iload_n 1, 1, 0),
  (.invokestatic 49, 71, .invokevirtual 192, 3, 630),
  (.aload 0, 74, .aload_n 0, 1, 0),
  (.getfield 643, 75, .getfield 32, 3, 374),
  (.getfield 448, 78, .getfield 131, 3, 205),
  (.iload 1, 81, .iload_n 1, 1, 0),
  (.iload 2, 82, .iload_n 2, 1, 0),
  (.invokestatic 50, 83, .invokevirtual 196, 3, 635),
  (.iload 3, 86, .iload_n 3, 1, 0),
  (.ireturn, 87, .ireturn, 1, 0)]
/-- 79: WakeOrder.eyes(IZ)I -/
def lr79 : List LRow := [(.aload 0, 0, .aload_n 0, 1, 0),
  (.iload 1, 1, .iload_n 1, 1, 0),
  (.invokestatic 99, 2, .invokevirtual 143, 3, 583),
  (.ifCond .ne 6, 5, .ifCond .ne 6, 3, 0),
  (.iconst (-1000000001), 8, .ldc 146, 2, 587),
  (.ireturn, 10, .ireturn, 1, 0),
  (.aload 0, 11, .aload_n 0, 1, 0),
  (.getfield 644, 12, .getfield 36, 3, 375),
  (.aload 0, 15, .aload_n 0, 1, 0),
  (.getfield 643, 16, .getfield 32, 3, 374),
  (.invokestatic 22, 19, .invokevirtual 188, 3, 614),
  (.aload 0, 22, .aload_n 0, 1, 0),
  (.getfield 643, 23, .getfield 32, 3, 374),
  (.getfield 451, 26, .getfield 128, 3, 216),
  (.iload 1, 29, .iload_n 1, 1, 0),
  (.ishr, 30, .ishr, 1, 0),
  (.iconst 1, 31, .iconst 1, 1, 0),
  (.iand, 32, .iand, 1, 0),
  (.istore 3, 33, .istore_n 3, 1, 0),
  (.aload 0, 34, .aload_n 0, 1, 0),
  (.getfield 643, 35, .getfield 32, 3, 374),
  (.iload 2, 38, .iload_n 2, 1, 0),
  (.ifCond .eq 31, 39, .ifCond .eq 17, 3, 0),
  (.aload 0, 42, .aload_n 0, 1, 0),
  (.getfield 643, 43, .getfield 32, 3, 374),
  (.getfield 451, 46, .getfield 128, 3, 216),
  (.iconst 1, 49, .iconst 1, 1, 0),
  (.iload 1, 50, .iload_n 1, 1, 0),
  (.ishl, 51, .ishl, 1, 0),
  (.ior, 52, .ior, 1, 0),
  (.goto 40, 53, .goto 16, 3, 0),
  (.aload 0, 56, .aload_n 0, 1, 0),
  (.getfield 643, 57, .getfield 32, 3, 374),
  (.getfield 451, 60, .getfield 128, 3, 216),
  (.iconst 1, 63, .iconst 1, 1, 0),
  (.iload 1, 64, .iload_n 1, 1, 0),
  (.ishl, 65, .ishl, 1, 0),
  (.iconst (-1), 66, .iconst (-1), 1, 0),
  (.ixor, 67, .ixor, 1, 0),
  (.iand, 68, .iand, 1, 0),
  (.putfield 451, 69, .putfield 128, 3, 216),
  (.iload 3, 72, .iload_n 3, 1, 0),
  (.ireturn, 73, .ireturn, 1, 0)]
/-- 80: WakeOrder.hand(II)I -/
def lr80 : List LRow := [(.aload 0, 0, .aload_n 0, 1, 0),
  (.iload 1, 1, .iload_n 1, 1, 0),
  (.invokestatic 100, 2, .invokevirtual 166, 3, 600),
  (.ifCond .eq 8, 5, .ifCond .eq 11, 3, 0),
  (.aload 0, 8, .aload_n 0, 1, 0),
  (.iload 2, 9, .iload_n 2, 1, 0),
  (.invokestatic 99, 10, .invokevirtual 143, 3, 583),
  (.ifCond .ne 10, 13, .ifCond .ne 6, 3, 0),
  (.iconst (-1000000001), 16, .ldc 146, 2, 587),
  (.ireturn, 18, .ireturn, 1, 0),
  (.aload 0, 19, .aload_n 0, 1, 0),
  (.getfield 644, 20, .getfield 36, 3, 375),
  (.aload 0, 23, .aload_n 0, 1, 0),
  (.getfield 643, 24, .getfield 32, 3, 374),
  (.invokestatic 22, 27, .invokevirtual 188, 3, 614),
  (.aload 0, 30, .aload_n 0, 1, 0),
  (.getfield 643, 31, .getfield 32, 3, 374),
  (.getfield 450, 34, .getfield 169, 3, 211),
  (.iload 1, 37, .iload_n 1, 1, 0),
  (.iaload, 38, .iaload, 1, 0),
  (.istore 3, 39, .istore_n 3, 1, 0),
  (.aload 0, 40, .aload_n 0, 1, 0),
  (.getfield 643, 41, .getfield 32, 3, 374),
  (.getfield 450, 44, .getfield 169, 3, 211),
  (.iload 1, 47, .iload_n 1, 1, 0),
  (.iload 2, 48, .iload_n 2, 1, 0),
  (.iastore, 49, .iastore, 1, 0),
  (.iload 3, 50, .iload_n 3, 1, 0),
  (.ireturn, 51, .ireturn, 1, 0)]
/-- 81: WakeOrder.dismiss(I)I -/
def lr81 : List LRow := [(.aload 0, 0, .aload_n 0, 1, 0),
  (.iload 1, 1, .iload_n 1, 1, 0),
  (.invokestatic 99, 2, .invokevirtual 143, 3, 583),
  (.ifCond .ne 6, 5, .ifCond .ne 6, 3, 0),
  (.iconst (-1000000001), 8, .ldc 146, 2, 587),
  (.ireturn, 10, .ireturn, 1, 0),
  (.aload 0, 11, .aload_n 0, 1, 0),
  (.getfield 643, 12, .getfield 32, 3, 374),
  (.getfield 448, 15, .getfield 131, 3, 205),
  (.iload 1, 18, .iload_n 1, 1, 0),
  (.invokestatic 45, 19, .invokevirtual 151, 3, 588),
  (.iconst (-1), 22, .iconst (-1), 1, 0),
  (.if_icmp .ne 15, 23, .if_icmp .ne 6, 3, 0),
  (.iconst (-1000000003), 26, .ldc 187, 2, 613),
  (.ireturn, 28, .ireturn, 1, 0),
  (.aload 0, 29, .aload_n 0, 1, 0),
  (.getfield 644, 30, .getfield 36, 3, 375),
  (.aload 0, 33, .aload_n 0, 1, 0),
  (.getfield 643, 34, .getfield 32, 3, 374),
  (.invokestatic 22, 37, .invokevirtual 188, 3, 614),
  (.aload 0, 40, .aload_n 0, 1, 0),
  (.getfield 643, 41, .getfield 32, 3, 374),
  (.getfield 448, 44, .getfield 131, 3, 205),
  (.iload 1, 47, .iload_n 1, 1, 0),
  (.invokestatic 49, 48, .invokevirtual 192, 3, 630),
  (.aload 0, 51, .aload_n 0, 1, 0),
  (.getfield 643, 52, .getfield 32, 3, 374),
  (.getfield 448, 55, .getfield 131, 3, 205),
  (.getfield 385, 58, .getfield 184, 3, 195),
  (.ireturn, 61, .ireturn, 1, 0)]
/-- 82: WakeOrder.wake(II)I -/
def lr82 : List LRow := [(.aload 0, 0, .aload_n 0, 1, 0),
  (.iload 1, 1, .iload_n 1, 1, 0),
  (.invokestatic 99, 2, .invokevirtual 143, 3, 583),
  (.ifCond .ne 6, 5, .ifCond .ne 6, 3, 0),
  (.iconst (-1000000001), 8, .ldc 146, 2, 587),
  (.ireturn, 10, .ireturn, 1, 0),
  (.iload 2, 11, .iload_n 2, 1, 0),
  (.ifCond .lt 11, 12, .ifCond .lt 10, 3, 0),
  (.iload 2, 15, .iload_n 2, 1, 0),
  (.iconst 999, 16, .sipush 999, 3, 0),
  (.if_icmp .le 13, 19, .if_icmp .le 6, 3, 0),
  (.iconst (-1000000002), 22, .ldc 68, 2, 406),
  (.ireturn, 24, .ireturn, 1, 0),
  (.aload 0, 25, .aload_n 0, 1, 0),
  (.getfield 644, 26, .getfield 36, 3, 375),
  (.aload 0, 29, .aload_n 0, 1, 0),
  (.getfield 643, 30, .getfield 32, 3, 374),
  (.invokestatic 22, 33, .invokevirtual 188, 3, 614),
  (.aload 0, 36, .aload_n 0, 1, 0),
  (.getfield 643, 37, .getfield 32, 3, 374),
  (.getfield 449, 40, .getfield 147, 3, 208),
  (.iload 1, 43, .iload_n 1, 1, 0),
  (.iaload, 44, .iaload, 1, 0),
  (.istore 3, 45, .istore_n 3, 1, 0),
  (.aload 0, 46, .aload_n 0, 1, 0),
  (.getfield 643, 47, .getfield 32, 3, 374),
  (.getfield 449, 50, .getfield 147, 3, 208),
  (.iload 1, 53, .iload_n 1, 1, 0),
  (.iload 2, 54, .iload_n 2, 1, 0),
  (.iastore, 55, .iastore, 1, 0),
  (.iload 3, 56, .iload_n 3, 1, 0),
  (.ireturn, 57, .ireturn, 1, 0)]
/-- 83: WakeOrder.drift(I)I -/
def lr83 : List LRow := [(.iload 1, 0, .iload_n 1, 1, 0),
  (.iconst 1, 1, .iconst 1, 1, 0),
  (.if_icmp .lt 6, 2, .if_icmp .lt 9, 3, 0),
  (.iload 1, 5, .iload_n 1, 1, 0),
  (.iconst 40, 6, .bipush 40, 2, 0),
  (.if_icmp .le 8, 8, .if_icmp .le 6, 3, 0),
  (.iconst (-1000000002), 11, .ldc 68, 2, 406),
  (.ireturn, 13, .ireturn, 1, 0),
  (.aload 0, 14, .aload_n 0, 1, 0),
  (.getfield 642, 15, .getfield 27, 3, 373),
  (.getfield 128, 18, .getfield 115, 3, 103),
  (.ifCond .ne 14, 21, .ifCond .ne 6, 3, 0),
  (.iconst (-1000000003), 24, .ldc 187, 2, 613),
  (.ireturn, 26, .ireturn, 1, 0),
  (.aload 0, 27, .aload_n 0, 1, 0),
  (.getfield 643, 28, .getfield 32, 3, 374),
  (.getfield 452, 31, .getfield 121, 3, 218),
  (.iconst 9000, 34, .sipush 9000, 3, 0),
  (.if_icmp .le 21, 37, .if_icmp .le 6, 3, 0),
  (.iconst (-1000000004), 40, .ldc 77, 2, 411),
  (.ireturn, 42, .ireturn, 1, 0),
  (.aload 0, 43, .aload_n 0, 1, 0),
  (.getfield 644, 44, .getfield 36, 3, 375),
  (.aload 0, 47, .aload_n 0, 1, 0),
  (.getfield 643, 48, .getfield 32, 3, 374),
  (.invokestatic 22, 51, .invokevirtual 188, 3, 614),
  (.iconst 0, 54, .iconst 0, 1, 0),
  (.istore 2, 55, .istore_n 2, 1, 0),
  (.nop, 56, .iload_n 2, 0, 0),
  (.iload 2, 56, .iload_n 2, 1, 0),
  (.iload 1, 57, .iload_n 1, 1, 0),
  (.if_icmp .ge 36, 58, .if_icmp .ge 13, 3, 0),
  (.aload 0, 61, .aload_n 0, 1, 0),
  (.invokestatic 104, 62, .invokevirtual 200, 3, 656),
  (.iinc 2 1, 65, .iinc 2 1, 3, 0),
  (.goto 28, 68, .goto (-12), 3, 0),
  (.aload 0, 71, .aload_n 0, 1, 0),
  (.getfield 643, 72, .getfield 32, 3, 374),
  (.dup, 75, .dup, 1, 0),
  (.getfield 452, 76, .getfield 121, 3, 218),
  (.iload 1, 79, .iload_n 1, 1, 0),
  (.iadd, 80, .iadd, 1, 0),
  (.putfield 452, 81, .putfield 121, 3, 218),
  (.aload 0, 84, .aload_n 0, 1, 0),
  (.getfield 643, 85, .getfield 32, 3, 374),
  (.getfield 452, 88, .getfield 121, 3, 218),
  (.ireturn, 91, .ireturn, 1, 0)]
/-- 84: WakeOrder.undo()I -/
def lr84 : List LRow := [(.aload 0, 0, .aload_n 0, 1, 0),
  (.getfield 644, 1, .getfield 36, 3, 375),
  (.aload 0, 4, .aload_n 0, 1, 0),
  (.getfield 643, 5, .getfield 32, 3, 374),
  (.invokestatic 23, 8, .invokevirtual 203, 3, 672),
  (.ifCond .eq 10, 11, .ifCond .eq 13, 3, 0),
  (.aload 0, 14, .aload_n 0, 1, 0),
  (.getfield 644, 15, .getfield 36, 3, 375),
  (.getfield 194, 18, .getfield 142, 3, 265),
  (.goto 11, 21, .goto 5, 3, 0),
  (.iconst (-1000000003), 24, .ldc 187, 2, 613),
  (.ireturn, 26, .ireturn, 1, 0)]
/-- 85: WakeOrder.raise(III)I -/
def lr85 : List LRow := [(.iload 1, 0, .iload_n 1, 1, 0),
  (.aload 0, 1, .aload_n 0, 1, 0),
  (.getfield 642, 2, .getfield 27, 3, 373),
  (.getfield 130, 5, .getfield 118, 3, 111),
  (.invokestatic 101, 8, .invokestatic 207, 3, 566),
  (.iconst (-1), 11, .iconst (-1), 1, 0),
  (.ixor, 12, .ixor, 1, 0),
  (.iand, 13, .iand, 1, 0),
  (.ifCond .eq 11, 14, .ifCond .eq 6, 3, 0),
  (.iconst (-1000000001), 17, .ldc 146, 2, 587),
  (.ireturn, 19, .ireturn, 1, 0),
  (.iload 2, 20, .iload_n 2, 1, 0),
  (.ifCond .lt 16, 21, .ifCond .lt 10, 3, 0),
  (.iload 2, 24, .iload_n 2, 1, 0),
  (.iconst 999, 25, .sipush 999, 3, 0),
  (.if_icmp .le 18, 28, .if_icmp .le 6, 3, 0),
  (.iconst (-1000000002), 31, .ldc 68, 2, 406),
  (.ireturn, 33, .ireturn, 1, 0),
  (.aload 0, 34, .aload_n 0, 1, 0),
  (.getfield 646, 35, .getfield 50, 3, 377),
  (.aload 0, 38, .aload_n 0, 1, 0),
  (.getfield 641, 39, .getfield 19, 3, 372),
  (.iload 1, 42, .iload_n 1, 1, 0),
  (.iload 2, 43, .iload_n 2, 1, 0),
  (.invokestatic 58, 44, .invokevirtual 210, 3, 680),
  (.aload 0, 47, .aload_n 0, 1, 0),
  (.getfield 646, 48, .getfield 50, 3, 377),
  (.getfield 514, 51, .getfield 214, 3, 306),
  (.iconst (-1), 54, .iconst (-1), 1, 0),
  (.if_icmp .ne 32, 55, .if_icmp .ne 5, 3, 0),
  (.iconst (-1), 58, .iconst (-1), 1, 0),
  (.ireturn, 59, .ireturn, 1, 0),
  (.iload 3, 60, .iload_n 3, 1, 0),
  (.iconst (-1), 61, .iconst (-1), 1, 0),
  (.if_icmp .ne 39, 62, .if_icmp .ne 13, 3, 0),
  (.aload 0, 65, .aload_n 0, 1, 0),
  (.getfield 646, 66, .getfield 50, 3, 377),
  (.getfield 514, 69, .getfield 214, 3, 306),
  (.goto 44, 72, .goto 14, 3, 0),
  (.aload 0, 75, .aload_n 0, 1, 0),
  (.getfield 646, 76, .getfield 50, 3, 377),
  (.getfield 513, 79, .getfield 217, 3, 304),
  (.iload 3, 82, .iload_n 3, 1, 0),
  (.invokestatic 44, 83, .invokevirtual 181, 3, 608),
  (.ireturn, 86, .ireturn, 1, 0)]
/-- 86: WakeOrder.leastHarm(II)I -/
def lr86 : List LRow := [(.aload 0, 0, .aload_n 0, 1, 0),
  (.iload 1, 1, .iload_n 1, 1, 0),
  (.invokestatic 99, 2, .invokevirtual 143, 3, 583),
  (.ifCond .ne 6, 5, .ifCond .ne 6, 3, 0),
  (.iconst (-1000000001), 8, .ldc 146, 2, 587),
  (.ireturn, 10, .ireturn, 1, 0),
  (.iload 2, 11, .iload_n 2, 1, 0),
  (.ifCond .eq 13, 12, .ifCond .eq 11, 3, 0),
  (.iload 2, 15, .iload_n 2, 1, 0),
  (.iconst 1, 16, .iconst 1, 1, 0),
  (.if_icmp .eq 13, 17, .if_icmp .eq 6, 3, 0),
  (.iconst (-1000000002), 20, .ldc 68, 2, 406),
  (.ireturn, 22, .ireturn, 1, 0),
  (.aload 0, 23, .aload_n 0, 1, 0),
  (.getfield 646, 24, .getfield 50, 3, 377),
  (.aload 0, 27, .aload_n 0, 1, 0),
  (.getfield 641, 28, .getfield 19, 3, 372),
  (.iload 1, 31, .iload_n 1, 1, 0),
  (.invokestatic 60, 32, .invokevirtual 220, 3, 714),
  (.iload 2, 35, .iload_n 2, 1, 0),
  (.ifCond .ne 25, 36, .ifCond .ne 13, 3, 0),
  (.aload 0, 39, .aload_n 0, 1, 0),
  (.getfield 646, 40, .getfield 50, 3, 377),
  (.getfield 515, 43, .getfield 224, 3, 308),
  (.goto 28, 46, .goto 10, 3, 0),
  (.aload 0, 49, .aload_n 0, 1, 0),
  (.getfield 646, 50, .getfield 50, 3, 377),
  (.getfield 516, 53, .getfield 227, 3, 310),
  (.ireturn, 56, .ireturn, 1, 0)]
/-- 87: WakeOrder.bread(I)I -/
def lr87 : List LRow := [(.aload 0, 0, .aload_n 0, 1, 0),
  (.iload 1, 1, .iload_n 1, 1, 0),
  (.invokestatic 100, 2, .invokevirtual 166, 3, 600),
  (.ifCond .ne 6, 5, .ifCond .ne 6, 3, 0),
  (.iconst (-1000000001), 8, .ldc 146, 2, 587),
  (.ireturn, 10, .ireturn, 1, 0),
  (.aload 0, 11, .aload_n 0, 1, 0),
  (.getfield 641, 12, .getfield 19, 3, 372),
  (.invokestatic 4, 15, .invokevirtual 112, 3, 521),
  (.aload 0, 18, .aload_n 0, 1, 0),
  (.getfield 641, 19, .getfield 19, 3, 372),
  (.aload 0, 22, .aload_n 0, 1, 0),
  (.getfield 641, 23, .getfield 19, 3, 372),
  (.getfield 67, 26, .getfield 178, 3, 240),
  (.iload 1, 29, .iload_n 1, 1, 0),
  (.iaload, 30, .iaload, 1, 0),
  (.invokestatic 10, 31, .invokevirtual 230, 3, 733),
  (.istore 2, 34, .istore_n 2, 1, 0),
  (.aload 0, 35, .aload_n 0, 1, 0),
  (.getfield 641, 36, .getfield 19, 3, 372),
  (.aload 0, 39, .aload_n 0, 1, 0),
  (.getfield 643, 40, .getfield 32, 3, 374),
  (.getfield 448, 43, .getfield 131, 3, 205),
  (.iconst 63, 46, .bipush 63, 2, 0),
  (.invokestatic 5, 48, .invokevirtual 233, 3, 734),
  (.iload 2, 51, .iload_n 2, 1, 0),
  (.aload 0, 52, .aload_n 0, 1, 0),
  (.getfield 641, 53, .getfield 19, 3, 372),
  (.aload 0, 56, .aload_n 0, 1, 0),
  (.getfield 641, 57, .getfield 19, 3, 372),
  (.getfield 67, 60, .getfield 178, 3, 240),
  (.iload 1, 63, .iload_n 1, 1, 0),
  (.iaload, 64, .iaload, 1, 0),
  (.invokestatic 10, 65, .invokevirtual 230, 3, 733),
  (.isub, 68, .isub, 1, 0),
  (.ireturn, 69, .ireturn, 1, 0)]
/-- 88: WakeOrder.free(I)I -/
def lr88 : List LRow := [(.iload 1, 0, .iload_n 1, 1, 0),
  (.ifCond .eq 7, 1, .ifCond .eq 11, 3, 0),
  (.iload 1, 4, .iload_n 1, 1, 0),
  (.iconst 1, 5, .iconst 1, 1, 0),
  (.if_icmp .eq 7, 6, .if_icmp .eq 6, 3, 0),
  (.iconst (-1000000002), 9, .ldc 68, 2, 406),
  (.ireturn, 11, .ireturn, 1, 0),
  (.aload 0, 12, .aload_n 0, 1, 0),
  (.getfield 646, 13, .getfield 50, 3, 377),
  (.aload 0, 16, .aload_n 0, 1, 0),
  (.getfield 641, 17, .getfield 19, 3, 372),
  (.invokestatic 61, 20, .invokevirtual 237, 3, 739),
  (.istore 2, 23, .istore_n 2, 1, 0),
  (.iload 1, 24, .iload_n 1, 1, 0),
  (.ifCond .ne 18, 25, .ifCond .ne 10, 3, 0),
  (.iload 2, 28, .iload_n 2, 1, 0),
  (.invokestatic 180, 29, .invokestatic 241, 3, 754),
  (.goto 19, 32, .goto 4, 3, 0),
  (.iload 2, 35, .iload_n 2, 1, 0),
  (.ireturn, 36, .ireturn, 1, 0)]
/-- 89: WakeOrder.sleeps(II)I -/
def lr89 : List LRow := [(.iload 1, 0, .iload_n 1, 1, 0),
  (.ifCond .lt 10, 1, .ifCond .lt 19, 3, 0),
  (.iload 1, 4, .iload_n 1, 1, 0),
  (.iconst 60, 5, .bipush 60, 2, 0),
  (.if_icmp .gt 10, 7, .if_icmp .gt 13, 3, 0),
  (.iload 2, 10, .iload_n 2, 1, 0),
  (.ifCond .lt 10, 11, .ifCond .lt 9, 3, 0),
  (.iload 2, 14, .iload_n 2, 1, 0),
  (.iconst 100, 15, .bipush 100, 2, 0),
  (.if_icmp .le 12, 17, .if_icmp .le 6, 3, 0),
  (.iconst (-1000000002), 20, .ldc 68, 2, 406),
  (.ireturn, 22, .ireturn, 1, 0),
  (.jsr_w 1000000000, 23, .ldc2_w 246, 3, 759),
  (.lstore 3, 26, .lstore_n 3, 1, 0),
  (.iconst 0, 27, .iconst 0, 1, 0),
  (.istore 5, 28, .istore 5, 2, 0),
  (.nop, 30, .iload 5, 0, 0),
  (.iload 5, 30, .iload 5, 2, 0),
  (.iload 1, 32, .iload_n 1, 1, 0),
  (.if_icmp .ge 31, 33, .if_icmp .ge 21, 3, 0),
  (.lload 3, 36, .lload_n 3, 1, 0),
  (.iconst 100, 37, .bipush 100, 2, 0),
  (.iload 2, 39, .iload_n 2, 1, 0),
  (.isub, 40, .isub, 1, 0),
  (.i2l, 41, .i2l, 1, 0),
  (.lmul, 42, .lmul, 1, 0),
  (.jsr_w 100, 43, .ldc2_w 248, 3, 760),
  (.ldiv, 46, .ldiv, 1, 0),
  (.lstore 3, 47, .lstore_n 3, 1, 0),
  (.iinc 5 1, 48, .iinc 5 1, 3, 0),
  (.goto 16, 51, .goto (-21), 3, 0),
  (.lload 3, 54, .lload_n 3, 1, 0),
  (.l2i, 55, .l2i, 1, 0),
  (.ireturn, 56, .ireturn, 1, 0)]
/-- 90: WakeOrder.see(II)I -/
def lr90 : List LRow := [(.aload 0, 0, .aload_n 0, 1, 0),
  (.iload 1, 1, .iload_n 1, 1, 0),
  (.invokestatic 99, 2, .invokevirtual 143, 3, 583),
  (.ifCond .eq 11, 5, .ifCond .eq 16, 3, 0),
  (.aload 0, 8, .aload_n 0, 1, 0),
  (.iload 2, 9, .iload_n 2, 1, 0),
  (.invokestatic 99, 10, .invokevirtual 143, 3, 583),
  (.ifCond .eq 11, 13, .ifCond .eq 8, 3, 0),
  (.iload 1, 16, .iload_n 1, 1, 0),
  (.iload 2, 17, .iload_n 2, 1, 0),
  (.if_icmp .ne 13, 18, .if_icmp .ne 6, 3, 0),
  (.iconst (-1000000001), 21, .ldc 146, 2, 587),
  (.ireturn, 23, .ireturn, 1, 0),
  (.aload 0, 24, .aload_n 0, 1, 0),
  (.getfield 647, 25, .getfield 57, 3, 378),
  (.iload 1, 28, .iload_n 1, 1, 0),
  (.iload 2, 29, .iload_n 2, 1, 0),
  (.invokestatic 64, 30, .invokevirtual 250, 3, 765),
  (.ifCond .eq 23, 33, .ifCond .eq 13, 3, 0),
  (.aload 0, 36, .aload_n 0, 1, 0),
  (.getfield 647, 37, .getfield 57, 3, 378),
  (.getfield 578, 40, .getfield 102, 3, 333),
  (.goto 24, 43, .goto 5, 3, 0),
  (.iconst (-1000000004), 46, .ldc 77, 2, 411),
  (.ireturn, 48, .ireturn, 1, 0)]
/-- 91: WakeOrder.orders(I)I -/
def lr91 : List LRow := [(.iload 1, 0, .iload_n 1, 1, 0),
  (.iconst (-1), 1, .iconst (-1), 1, 0),
  (.if_icmp .eq 9, 2, .if_icmp .eq 14, 3, 0),
  (.aload 0, 5, .aload_n 0, 1, 0),
  (.iload 1, 6, .iload_n 1, 1, 0),
  (.invokestatic 99, 7, .invokevirtual 143, 3, 583),
  (.ifCond .ne 9, 10, .ifCond .ne 6, 3, 0),
  (.iconst (-1000000001), 13, .ldc 146, 2, 587),
  (.ireturn, 15, .ireturn, 1, 0),
  (.aload 0, 16, .aload_n 0, 1, 0),
  (.getfield 647, 17, .getfield 57, 3, 378),
  (.aload 0, 20, .aload_n 0, 1, 0),
  (.getfield 641, 21, .getfield 19, 3, 372),
  (.invokestatic 65, 24, .invokevirtual 253, 3, 773),
  (.iload 1, 27, .iload_n 1, 1, 0),
  (.iconst (-1), 28, .iconst (-1), 1, 0),
  (.if_icmp .ne 21, 29, .if_icmp .ne 13, 3, 0),
  (.aload 0, 32, .aload_n 0, 1, 0),
  (.getfield 647, 33, .getfield 57, 3, 378),
  (.getfield 580, 36, .getfield 257, 3, 336),
  (.goto 25, 39, .goto 11, 3, 0),
  (.aload 0, 42, .aload_n 0, 1, 0),
  (.getfield 647, 43, .getfield 57, 3, 378),
  (.iload 1, 46, .iload_n 1, 1, 0),
  (.invokestatic 68, 47, .invokevirtual 260, 3, 795),
  (.ireturn, 50, .ireturn, 1, 0)]
/-- 92: WakeOrder.lookNext()I -/
def lr92 : List LRow := [(.aload 0, 0, .aload_n 0, 1, 0),
  (.getfield 647, 1, .getfield 57, 3, 378),
  (.aload 0, 4, .aload_n 0, 1, 0),
  (.getfield 641, 5, .getfield 19, 3, 372),
  (.invokestatic 65, 8, .invokevirtual 253, 3, 773),
  (.aload 0, 11, .aload_n 0, 1, 0),
  (.getfield 647, 12, .getfield 57, 3, 378),
  (.aload 0, 15, .aload_n 0, 1, 0),
  (.getfield 642, 16, .getfield 27, 3, 373),
  (.getfield 129, 19, .getfield 106, 3, 107),
  (.invokestatic 69, 22, .invokevirtual 263, 3, 804),
  (.ireturn, 25, .ireturn, 1, 0)]
/-- 93: WakeOrder.write(II)I -/
def lr93 : List LRow := [(.aload 0, 0, .aload_n 0, 1, 0),
  (.iload 1, 1, .iload_n 1, 1, 0),
  (.invokestatic 100, 2, .invokevirtual 166, 3, 600),
  (.ifCond .ne 6, 5, .ifCond .ne 6, 3, 0),
  (.iconst (-1000000001), 8, .ldc 146, 2, 587),
  (.ireturn, 10, .ireturn, 1, 0),
  (.iload 2, 11, .iload_n 2, 1, 0),
  (.iconst (-1), 12, .iconst (-1), 1, 0),
  (.if_icmp .lt 12, 13, .if_icmp .lt 10, 3, 0),
  (.iload 2, 16, .iload_n 2, 1, 0),
  (.iconst 999, 17, .sipush 999, 3, 0),
  (.if_icmp .le 14, 20, .if_icmp .le 6, 3, 0),
  (.iconst (-1000000002), 23, .ldc 68, 2, 406),
  (.ireturn, 25, .ireturn, 1, 0),
  (.aload 0, 26, .aload_n 0, 1, 0),
  (.getfield 648, 27, .getfield 64, 3, 379),
  (.iload 1, 30, .iload_n 1, 1, 0),
  (.iload 2, 31, .iload_n 2, 1, 0),
  (.invokestatic 1, 32, .invokevirtual 266, 3, 813),
  (.ifCond .eq 24, 35, .ifCond .eq 13, 3, 0),
  (.aload 0, 38, .aload_n 0, 1, 0),
  (.getfield 648, 39, .getfield 64, 3, 379),
  (.getfield 2, 42, .getfield 105, 3, 363),
  (.goto 25, 45, .goto 5, 3, 0),
  (.iconst (-1000000004), 48, .ldc 77, 2, 411),
  (.ireturn, 50, .ireturn, 1, 0)]
/-- 94: WakeOrder.tear()I -/
def lr94 : List LRow := [(.aload 0, 0, .aload_n 0, 1, 0),
  (.getfield 647, 1, .getfield 57, 3, 378),
  (.getfield 578, 4, .getfield 102, 3, 333),
  (.aload 0, 7, .aload_n 0, 1, 0),
  (.getfield 648, 8, .getfield 64, 3, 379),
  (.getfield 2, 11, .getfield 105, 3, 363),
  (.iadd, 14, .iadd, 1, 0),
  (.istore 1, 15, .istore_n 1, 1, 0),
  (.aload 0, 16, .aload_n 0, 1, 0),
  (.getfield 647, 17, .getfield 57, 3, 378),
  (.iconst 0, 20, .iconst 0, 1, 0),
  (.putfield 578, 21, .putfield 102, 3, 333),
  (.aload 0, 24, .aload_n 0, 1, 0),
  (.getfield 648, 25, .getfield 64, 3, 379),
  (.iconst 0, 28, .iconst 0, 1, 0),
  (.putfield 2, 29, .putfield 105, 3, 363),
  (.iload 1, 32, .iload_n 1, 1, 0),
  (.ireturn, 33, .ireturn, 1, 0)]
/-- 95: WakeOrder.judge()I -/
def lr95 : List LRow := [(.aload 0, 0, .aload_n 0, 1, 0),
  (.getfield 641, 1, .getfield 19, 3, 372),
  (.invokestatic 4, 4, .invokevirtual 112, 3, 521),
  (.aload 0, 7, .aload_n 0, 1, 0),
  (.getfield 648, 8, .getfield 64, 3, 379),
  (.aload 0, 11, .aload_n 0, 1, 0),
  (.getfield 641, 12, .getfield 19, 3, 372),
  (.invokestatic 2, 15, .invokevirtual 267, 3, 825),
  (.ireturn, 18, .ireturn, 1, 0)]
/-- 96: WakeOrder.seed(I)I -/
def lr96 : List LRow := [(.iload 1, 0, .iload_n 1, 1, 0),
  (.ifCond .ge 4, 1, .ifCond .ge 6, 3, 0),
  (.iconst (-1000000002), 4, .ldc 68, 2, 406),
  (.ireturn, 6, .ireturn, 1, 0),
  (.aload 0, 7, .aload_n 0, 1, 0),
  (.getfield 649, 8, .getfield 270, 3, 380),
  (.istore 2, 11, .istore_n 2, 1, 0),
  (.aload 0, 12, .aload_n 0, 1, 0),
  (.iload 1, 13, .iload_n 1, 1, 0),
  (.putfield 649, 14, .putfield 270, 3, 380),
  (.iload 2, 17, .iload_n 2, 1, 0),
  (.ireturn, 18, .ireturn, 1, 0)]
/-- 97: WakeOrder.keep(I)I -/
def lr97 : List LRow := [(.iload 1, 0, .iload_n 1, 1, 0),
  (.ifCond .lt 5, 1, .ifCond .lt 8, 3, 0),
  (.iload 1, 4, .iload_n 1, 1, 0),
  (.iconst 2, 5, .iconst 2, 1, 0),
  (.if_icmp .lt 7, 6, .if_icmp .lt 6, 3, 0),
  (.iconst (-1000000001), 9, .ldc 146, 2, 587),
  (.ireturn, 11, .ireturn, 1, 0),
  (.aload 0, 12, .aload_n 0, 1, 0),
  (.getfield 645, 13, .getfield 43, 3, 376),
  (.iload 1, 16, .iload_n 1, 1, 0),
  (.aload 0, 17, .aload_n 0, 1, 0),
  (.getfield 643, 18, .getfield 32, 3, 374),
  (.aload 0, 21, .aload_n 0, 1, 0),
  (.getfield 649, 22, .getfield 270, 3, 380),
  (.invokestatic 26, 25, .invokevirtual 273, 3, 838),
  (.aload 0, 28, .aload_n 0, 1, 0),
  (.getfield 644, 29, .getfield 36, 3, 375),
  (.invokestatic 24, 32, .invokevirtual 98, 3, 505),
  (.iconst 1, 35, .iconst 1, 1, 0),
  (.ireturn, 36, .ireturn, 1, 0)]
/-- 98: WakeOrder.goBack(I)I -/
def lr98 : List LRow := [(.iload 1, 0, .iload_n 1, 1, 0),
  (.ifCond .lt 5, 1, .ifCond .lt 8, 3, 0),
  (.iload 1, 4, .iload_n 1, 1, 0),
  (.iconst 2, 5, .iconst 2, 1, 0),
  (.if_icmp .lt 7, 6, .if_icmp .lt 6, 3, 0),
  (.iconst (-1000000001), 9, .ldc 146, 2, 587),
  (.ireturn, 11, .ireturn, 1, 0),
  (.aload 0, 12, .aload_n 0, 1, 0),
  (.getfield 645, 13, .getfield 43, 3, 376),
  (.getfield 258, 16, .getfield 277, 3, 285),
  (.iload 1, 19, .iload_n 1, 1, 0),
  (.baload, 20, .baload, 1, 0),
  (.ifCond .ne 15, 21, .ifCond .ne 6, 3, 0),
  (.iconst (-1000000003), 24, .ldc 187, 2, 613),
  (.ireturn, 26, .ireturn, 1, 0),
  (.aload 0, 27, .aload_n 0, 1, 0),
  (.getfield 645, 28, .getfield 43, 3, 376),
  (.iload 1, 31, .iload_n 1, 1, 0),
  (.aload 0, 32, .aload_n 0, 1, 0),
  (.getfield 643, 33, .getfield 32, 3, 374),
  (.invokestatic 27, 36, .invokevirtual 281, 3, 847),
  (.aload 0, 39, .aload_n 0, 1, 0),
  (.aload 0, 40, .aload_n 0, 1, 0),
  (.getfield 645, 41, .getfield 43, 3, 376),
  (.getfield 257, 44, .getfield 285, 3, 283),
  (.iload 1, 47, .iload_n 1, 1, 0),
  (.iaload, 48, .iaload, 1, 0),
  (.putfield 649, 49, .putfield 270, 3, 380),
  (.aload 0, 52, .aload_n 0, 1, 0),
  (.getfield 644, 53, .getfield 36, 3, 375),
  (.invokestatic 24, 56, .invokevirtual 98, 3, 505),
  (.iconst 1, 59, .iconst 1, 1, 0),
  (.ireturn, 60, .ireturn, 1, 0)]
/-- 99: WakeOrder.isPerson(I)Z -/
def lr99 : List LRow := [(.iload 1, 0, .iload_n 1, 1, 0),
  (.ifCond .lt 12, 1, .ifCond .lt 24, 3, 0),
  (.iload 1, 4, .iload_n 1, 1, 0),
  (.aload 0, 5, .aload_n 0, 1, 0),
  (.getfield 642, 6, .getfield 27, 3, 373),
  (.getfield 129, 9, .getfield 106, 3, 107),
  (.if_icmp .ge 12, 12, .if_icmp .ge 13, 3, 0),
  (.iload 1, 15, .iload_n 1, 1, 0),
  (.iconst 6, 16, .bipush 6, 2, 0),
  (.if_icmp .ge 12, 18, .if_icmp .ge 7, 3, 0),
  (.iconst 1, 21, .iconst 1, 1, 0),
  (.goto 13, 22, .goto 4, 3, 0),
  (.iconst 0, 25, .iconst 0, 1, 0),
  (.areturn, 26, .ireturn, 1, 0)]
/-- 100: WakeOrder.isJob(I)Z -/
def lr100 : List LRow := [(.iload 1, 0, .iload_n 1, 1, 0),
  (.ifCond .lt 12, 1, .ifCond .lt 24, 3, 0),
  (.iload 1, 4, .iload_n 1, 1, 0),
  (.aload 0, 5, .aload_n 0, 1, 0),
  (.getfield 642, 6, .getfield 27, 3, 373),
  (.getfield 130, 9, .getfield 118, 3, 111),
  (.if_icmp .ge 12, 12, .if_icmp .ge 13, 3, 0),
  (.iload 1, 15, .iload_n 1, 1, 0),
  (.iconst 8, 16, .bipush 8, 2, 0),
  (.if_icmp .ge 12, 18, .if_icmp .ge 7, 3, 0),
  (.iconst 1, 21, .iconst 1, 1, 0),
  (.goto 13, 22, .goto 4, 3, 0),
  (.iconst 0, 25, .iconst 0, 1, 0),
  (.areturn, 26, .ireturn, 1, 0)]
/-- 101: WakeOrder.lowBits(I)I -/
def lr101 : List LRow := [(.iconst 1, 0, .iconst 1, 1, 0),
  (.iload 0, 1, .iload_n 0, 1, 0),
  (.ishl, 2, .ishl, 1, 0),
  (.iconst 1, 3, .iconst 1, 1, 0),
  (.isub, 4, .isub, 1, 0),
  (.ireturn, 5, .ireturn, 1, 0)]
/-- 102: WakeOrder.dismissedOnes()I -/
def lr102 : List LRow := [(.aload 0, 0, .aload_n 0, 1, 0),
  (.getfield 642, 1, .getfield 27, 3, 373),
  (.getfield 129, 4, .getfield 106, 3, 107),
  (.invokestatic 101, 7, .invokestatic 207, 3, 566),
  (.aload 0, 10, .aload_n 0, 1, 0),
  (.getfield 643, 11, .getfield 32, 3, 374),
  (.getfield 448, 14, .getfield 131, 3, 205),
  (.invokestatic 46, 17, .invokevirtual 288, 3, 567),
  (.iconst (-1), 20, .iconst (-1), 1, 0),
  (.ixor, 21, .ixor, 1, 0),
  (.iand, 22, .iand, 1, 0),
  (.ireturn, 23, .ireturn, 1, 0)]
/-- 103: WakeOrder.jobsOf(I)I -/
def lr103 : List LRow := [(.iconst 0, 0, .iconst 0, 1, 0),
  (.istore 2, 1, .istore_n 2, 1, 0),
  (.iconst 0, 2, .iconst 0, 1, 0),
  (.istore 3, 3, .istore_n 3, 1, 0),
  (.nop, 4, .iload_n 3, 0, 0),
  (.iload 3, 4, .iload_n 3, 1, 0),
  (.iconst 8, 5, .bipush 8, 2, 0),
  (.if_icmp .ge 23, 7, .if_icmp .ge 36, 3, 0),
  (.iload 3, 10, .iload_n 3, 1, 0),
  (.aload 0, 11, .aload_n 0, 1, 0),
  (.getfield 642, 12, .getfield 27, 3, 373),
  (.getfield 130, 15, .getfield 118, 3, 111),
  (.if_icmp .ge 23, 18, .if_icmp .ge 25, 3, 0),
  (.aload 0, 21, .aload_n 0, 1, 0),
  (.getfield 643, 22, .getfield 32, 3, 374),
  (.getfield 450, 25, .getfield 169, 3, 211),
  (.iload 3, 28, .iload_n 3, 1, 0),
  (.iaload, 29, .iaload, 1, 0),
  (.iload 1, 30, .iload_n 1, 1, 0),
  (.if_icmp .ne 21, 31, .if_icmp .ne 6, 3, 0),
  (.iinc 2 1, 34, .iinc 2 1, 3, 0),
  (.iinc 3 1, 37, .iinc 3 1, 3, 0),
  (.goto 4, 40, .goto (-36), 3, 0),
  (.iload 2, 43, .iload_n 2, 1, 0),
  (.ireturn, 44, .ireturn, 1, 0)]
/-- 104: WakeOrder.drawMorning()V -/
def lr104 : List LRow := [(.iconst 0, 0, .iconst 0, 1, 0),
  (.istore 1, 1, .istore_n 1, 1, 0),
  (.nop, 2, .iload_n 1, 0, 0),
  (.iload 1, 2, .iload_n 1, 1, 0),
  (.iconst 6, 3, .bipush 6, 2, 0),
  (.if_icmp .ge 23, 5, .if_icmp .ge 40, 3, 0),
  (.iload 1, 8, .iload_n 1, 1, 0),
  (.aload 0, 9, .aload_n 0, 1, 0),
  (.getfield 642, 10, .getfield 27, 3, 373),
  (.getfield 129, 13, .getfield 106, 3, 107),
  (.if_icmp .ge 23, 16, .if_icmp .ge 29, 3, 0),
  (.aload 0, 19, .aload_n 0, 1, 0),
  (.getfield 643, 20, .getfield 32, 3, 374),
  (.getfield 449, 23, .getfield 147, 3, 208),
  (.iload 1, 26, .iload_n 1, 1, 0),
  (.aload 0, 27, .aload_n 0, 1, 0),
  (.aload 0, 28, .aload_n 0, 1, 0),
  (.getfield 642, 29, .getfield 27, 3, 373),
  (.getfield 128, 32, .getfield 115, 3, 103),
  (.invokestatic 105, 35, .invokevirtual 291, 3, 660),
  (.iastore, 38, .iastore, 1, 0),
  (.iinc 1 1, 39, .iinc 1 1, 3, 0),
  (.goto 2, 42, .goto (-40), 3, 0),
  (.return_, 45, .return_, 1, 0)]
/-- 105: WakeOrder.drawBelow(I)I -/
def lr105 : List LRow := [(.aload 0, 0, .aload_n 0, 1, 0),
  (.aload 0, 1, .aload_n 0, 1, 0),
  (.getfield 649, 2, .getfield 270, 3, 380),
  (.i2l, 5, .i2l, 1, 0),
  (.jsr_w 1103515245, 6, .ldc2_w 294, 3, 664),
  (.lmul, 9, .lmul, 1, 0),
  (.jsr_w 12345, 10, .ldc2_w 296, 3, 665),
  (.ladd, 13, .ladd, 1, 0),
  (.jsr_w 2147483647, 14, .ldc2_w 298, 3, 666),
  (.land, 17, .land, 1, 0),
  (.l2i, 18, .l2i, 1, 0),
  (.putfield 649, 19, .putfield 270, 3, 380),
  (.iload 1, 22, .iload_n 1, 1, 0),
  (.ifCond .le 21, 23, .ifCond .le 16, 3, 0),
  (.aload 0, 26, .aload_n 0, 1, 0),
  (.getfield 649, 27, .getfield 270, 3, 380),
  (.iconst 65536, 30, .ldc_w 300, 3, 667),
  (.idiv, 33, .idiv, 1, 0),
  (.iload 1, 34, .iload_n 1, 1, 0),
  (.irem, 35, .irem, 1, 0),
  (.goto 22, 36, .goto 4, 3, 0),
  (.iconst 0, 39, .iconst 0, 1, 0),
  (.ireturn, 40, .ireturn, 1, 0)]
/-- 106: WakeOrder.holds([II)Z -/
def lr106 : List LRow := [(.iload 1, 0, .iload_n 1, 1, 0),
  (.ifCond .lt 8, 1, .ifCond .lt 13, 3, 0),
  (.iload 1, 4, .iload_n 1, 1, 0),
  (.aload 0, 5, .aload_n 0, 1, 0),
  (.arraylength, 6, .arraylength, 1, 0),
  (.if_icmp .ge 8, 7, .if_icmp .ge 7, 3, 0),
  (.iconst 1, 10, .iconst 1, 1, 0),
  (.goto 9, 11, .goto 4, 3, 0),
  (.iconst 0, 14, .iconst 0, 1, 0),
  (.areturn, 15, .ireturn, 1, 0)]
/-- 107: WakeOrder.valueAt([II)I -/
def lr107 : List LRow := [(.iload 1, 0, .iload_n 1, 1, 0),
  (.ifCond .lt 10, 1, .ifCond .lt 15, 3, 0),
  (.iload 1, 4, .iload_n 1, 1, 0),
  (.aload 0, 5, .aload_n 0, 1, 0),
  (.arraylength, 6, .arraylength, 1, 0),
  (.if_icmp .ge 10, 7, .if_icmp .ge 9, 3, 0),
  (.aload 0, 10, .aload_n 0, 1, 0),
  (.iload 1, 11, .iload_n 1, 1, 0),
  (.iaload, 12, .iaload, 1, 0),
  (.goto 11, 13, .goto 4, 3, 0),
  (.iconst (-1), 16, .iconst (-1), 1, 0),
  (.ireturn, 17, .ireturn, 1, 0)]
/-- 108: WakeOrder.laterOf(II)I -/
def lr108 : List LRow := [(.iload 0, 0, .iload_n 0, 1, 0),
  (.iconst (-1), 1, .iconst (-1), 1, 0),
  (.if_icmp .eq 6, 2, .if_icmp .eq 8, 3, 0),
  (.iload 1, 5, .iload_n 1, 1, 0),
  (.iconst (-1), 6, .iconst (-1), 1, 0),
  (.if_icmp .ne 8, 7, .if_icmp .ne 7, 3, 0),
  (.iconst (-1), 10, .iconst (-1), 1, 0),
  (.goto 11, 11, .goto 8, 3, 0),
  (.iload 0, 14, .iload_n 0, 1, 0),
  (.iload 1, 15, .iload_n 1, 1, 0),
  (.invokeinterface 0 0, 16, .invokestatic 301, 3, 550),
  (.ireturn, 19, .ireturn, 1, 0)]
/-- 109: WakeOrderModel.<init>()V -/
def lr109 : List LRow := [(.aload 0, 0, .aload_n 0, 1, 0),
  (.pop, 1, .invokespecial 1, 3, 856),
  (.aload 0, 4, .aload_n 0, 1, 0),
  (.iconst 8, 5, .bipush 8, 2, 0),
  (.newarray .int, 7, .newarray .int, 2, 0),
  (.putstatic 707, 9, .putfield 7, 3, 860),
  (.aload 0, 12, .aload_n 0, 1, 0),
  (.iconst 8, 13, .bipush 8, 2, 0),
  (.newarray .int, 15, .newarray .int, 2, 0),
  (.putstatic 708, 17, .putfield 13, 3, 861),
  (.aload 0, 20, .aload_n 0, 1, 0),
  (.iconst 6, 21, .bipush 6, 2, 0),
  (.newarray .int, 23, .newarray .int, 2, 0),
  (.putstatic 709, 25, .putfield 16, 3, 862),
  (.aload 0, 28, .aload_n 0, 1, 0),
  (.iconst 24, 29, .bipush 24, 2, 0),
  (.newarray .int, 31, .newarray .int, 2, 0),
  (.putstatic 710, 33, .putfield 19, 3, 863),
  (.aload 0, 36, .aload_n 0, 1, 0),
  (.iconst 220, 37, .sipush 220, 3, 0),
  (.newarray .int, 40, .newarray .int, 2, 0),
  (.putstatic 712, 42, .putfield 22, 3, 865),
  (.aload 0, 45, .aload_n 0, 1, 0),
  (.iconst (-1), 46, .iconst (-1), 1, 0),
  (.putfield 714, 47, .putfield 25, 3, 867),
  (.aload 0, 50, .aload_n 0, 1, 0),
  (.iconst 1, 51, .iconst 1, 1, 0),
  (.newarray .int, 52, .newarray .int, 2, 0),
  (.putstatic 718, 54, .putfield 29, 3, 871),
  (.aload 0, 57, .aload_n 0, 1, 0),
  (.iconst 6, 58, .bipush 6, 2, 0),
  (.newarray .int, 60, .newarray .int, 2, 0),
  (.putstatic 720, 62, .putfield 32, 3, 873),
  (.aload 0, 65, .aload_n 0, 1, 0),
  (.iconst 8, 66, .bipush 8, 2, 0),
  (.newarray .int, 68, .newarray .int, 2, 0),
  (.putstatic 722, 70, .putfield 35, 3, 875),
  (.aload 0, 73, .aload_n 0, 1, 0),
  (.iconst 8, 74, .bipush 8, 2, 0),
  (.newarray .int, 76, .newarray .int, 2, 0),
  (.putstatic 723, 78, .putfield 38, 3, 876),
  (.aload 0, 81, .aload_n 0, 1, 0),
  (.iconst 8, 82, .bipush 8, 2, 0),
  (.newarray .int, 84, .newarray .int, 2, 0),
  (.putstatic 724, 86, .putfield 41, 3, 877),
  (.aload 0, 89, .aload_n 0, 1, 0),
  (.iconst 6, 90, .bipush 6, 2, 0),
  (.newarray .int, 92, .newarray .int, 2, 0),
  (.putstatic 725, 94, .putfield 44, 3, 878),
  (.aload 0, 97, .aload_n 0, 1, 0),
  (.iconst 6, 98, .bipush 6, 2, 0),
  (.newarray .int, 100, .newarray .int, 2, 0),
  (.putstatic 726, 102, .putfield 47, 3, 879),
  (.aload 0, 105, .aload_n 0, 1, 0),
  (.iconst 8, 106, .bipush 8, 2, 0),
  (.newarray .int, 108, .newarray .int, 2, 0),
  (.putstatic 727, 110, .putfield 50, 3, 880),
  (.aload 0, 113, .aload_n 0, 1, 0),
  (.iconst 480, 114, .sipush 480, 3, 0),
  (.newarray .int, 117, .newarray .int, 2, 0),
  (.putstatic 729, 119, .putfield 53, 3, 882),
  (.aload 0, 122, .aload_n 0, 1, 0),
  (.iconst 24, 123, .bipush 24, 2, 0),
  (.newarray .int, 125, .newarray .int, 2, 0),
  (.putstatic 730, 127, .putfield 56, 3, 883),
  (.aload 0, 130, .aload_n 0, 1, 0),
  (.iconst 6, 131, .bipush 6, 2, 0),
  (.newarray .int, 133, .newarray .int, 2, 0),
  (.putstatic 731, 135, .putfield 59, 3, 884),
  (.aload 0, 138, .aload_n 0, 1, 0),
  (.iconst 6, 139, .bipush 6, 2, 0),
  (.newarray .int, 141, .newarray .int, 2, 0),
  (.putstatic 734, 143, .putfield 62, 3, 887),
  (.aload 0, 146, .aload_n 0, 1, 0),
  (.iconst 6, 147, .bipush 6, 2, 0),
  (.newarray .int, 149, .newarray .int, 2, 0),
  (.putstatic 735, 151, .putfield 65, 3, 888),
  (.aload 0, 154, .aload_n 0, 1, 0),
  (.iconst 6, 155, .bipush 6, 2, 0),
  (.newarray .int, 157, .newarray .int, 2, 0),
  (.putstatic 737, 159, .putfield 68, 3, 890),
  (.aload 0, 162, .aload_n 0, 1, 0),
  (.iconst 36, 163, .bipush 36, 2, 0),
  (.newarray .int, 165, .newarray .int, 2, 0),
  (.putstatic 738, 167, .putfield 71, 3, 891),
  (.aload 0, 170, .aload_n 0, 1, 0),
  (.iconst 15, 171, .bipush 15, 2, 0),
  (.newarray .int, 173, .newarray .int, 2, 0),
  (.putstatic 740, 175, .putfield 74, 3, 893),
  (.aload 0, 178, .aload_n 0, 1, 0),
  (.iconst 15, 179, .bipush 15, 2, 0),
  (.newarray .int, 181, .newarray .int, 2, 0),
  (.putstatic 741, 183, .putfield 77, 3, 894),
  (.aload 0, 186, .aload_n 0, 1, 0),
  (.iconst 50, 187, .bipush 50, 2, 0),
  (.newarray .int, 189, .newarray .int, 2, 0),
  (.putstatic 742, 191, .putfield 80, 3, 895),
  (.aload 0, 194, .aload_n 0, 1, 0),
  (.iconst 2, 195, .iconst 2, 1, 0),
  (.newarray .boolean, 196, .newarray .boolean, 2, 0),
  (.putstatic 743, 198, .putfield 83, 3, 896),
  (.aload 0, 201, .aload_n 0, 1, 0),
  (.iconst 0, 202, .iconst 0, 1, 0),
  (.putfield 704, 203, .putfield 87, 3, 857),
  (.return_, 206, .return_, 1, 0)]
/-- 110: WakeOrderModel.in(JJJ)Z -/
def lr110 : List LRow := [(.lload 0, 0, .lload_n 0, 1, 0),
  (.lload 2, 1, .lload_n 2, 1, 0),
  (.lcmp, 2, .lcmp, 1, 0),
  (.ifCond .lt 10, 3, .ifCond .lt 14, 3, 0),
  (.lload 0, 6, .lload_n 0, 1, 0),
  (.lload 4, 7, .lload 4, 2, 0),
  (.lcmp, 9, .lcmp, 1, 0),
  (.ifCond .gt 10, 10, .ifCond .gt 7, 3, 0),
  (.iconst 1, 13, .iconst 1, 1, 0),
  (.goto 11, 14, .goto 4, 3, 0),
  (.iconst 0, 17, .iconst 0, 1, 0),
  (.areturn, 18, .ireturn, 1, 0)]
/-- 111: WakeOrderModel.has(II)Z -/
def lr111 : List LRow := [(.iload 0, 0, .iload_n 0, 1, 0),
  (.iload 1, 1, .iload_n 1, 1, 0),
  (.ishr, 2, .ishr, 1, 0),
  (.iconst 1, 3, .iconst 1, 1, 0),
  (.iand, 4, .iand, 1, 0),
  (.iconst 1, 5, .iconst 1, 1, 0),
  (.if_icmp .ne 9, 6, .if_icmp .ne 7, 3, 0),
  (.iconst 1, 9, .iconst 1, 1, 0),
  (.goto 10, 10, .goto 4, 3, 0),
  (.iconst 0, 13, .iconst 0, 1, 0),
  (.areturn, 14, .ireturn, 1, 0)]
/-- 112: WakeOrderModel.bits(I)I -/
def lr112 : List LRow := [(.iconst 0, 0, .iconst 0, 1, 0),
  (.istore 1, 1, .istore_n 1, 1, 0),
  (.iconst 0, 2, .iconst 0, 1, 0),
  (.istore 2, 3, .istore_n 2, 1, 0),
  (.nop, 4, .iload_n 2, 0, 0),
  (.iload 2, 4, .iload_n 2, 1, 0),
  (.iconst 8, 5, .bipush 8, 2, 0),
  (.if_icmp .ge 18, 7, .if_icmp .ge 17, 3, 0),
  (.iload 1, 10, .iload_n 1, 1, 0),
  (.iload 0, 11, .iload_n 0, 1, 0),
  (.iload 2, 12, .iload_n 2, 1, 0),
  (.ishr, 13, .ishr, 1, 0),
  (.iconst 1, 14, .iconst 1, 1, 0),
  (.iand, 15, .iand, 1, 0),
  (.iadd, 16, .iadd, 1, 0),
  (.istore 1, 17, .istore_n 1, 1, 0),
  (.iinc 2 1, 18, .iinc 2 1, 3, 0),
  (.goto 4, 21, .goto (-17), 3, 0),
  (.iload 1, 24, .iload_n 1, 1, 0),
  (.ireturn, 25, .ireturn, 1, 0)]
/-- 113: WakeOrderModel.isPerson(I)Z -/
def lr113 : List LRow := [(.iload 1, 0, .iload_n 1, 1, 0),
  (.i2l, 1, .i2l, 1, 0),
  (.jsr_w 0, 2, .lconst 0, 1, 0),
  (.aload 0, 3, .aload_n 0, 1, 0),
  (.getfield 705, 4, .getfield 90, 3, 858),
  (.iconst 1, 7, .iconst 1, 1, 0),
  (.isub, 8, .isub, 1, 0),
  (.i2l, 9, .i2l, 1, 0),
  (.invokestatic 110, 10, .invokestatic 93, 3, 983),
  (.areturn, 13, .ireturn, 1, 0)]
/-- 114: WakeOrderModel.isJob(I)Z -/
def lr114 : List LRow := [(.iload 1, 0, .iload_n 1, 1, 0),
  (.i2l, 1, .i2l, 1, 0),
  (.jsr_w 0, 2, .lconst 0, 1, 0),
  (.aload 0, 3, .aload_n 0, 1, 0),
  (.getfield 706, 4, .getfield 97, 3, 859),
  (.iconst 1, 7, .iconst 1, 1, 0),
  (.isub, 8, .isub, 1, 0),
  (.i2l, 9, .i2l, 1, 0),
  (.invokestatic 110, 10, .invokestatic 93, 3, 983),
  (.areturn, 13, .ireturn, 1, 0)]
/-- 115: WakeOrderModel.feed(I)I -/
def lr115 : List LRow := [(.iload 1, 0, .iload_n 1, 1, 0),
  (.i2l, 1, .i2l, 1, 0),
  (.jsr_w 0, 2, .lconst 0, 1, 0),
  (.jsr_w 255, 3, .ldc2_w 100, 3, 982),
  (.invokestatic 110, 6, .invokestatic 93, 3, 983),
  (.ifCond .ne 8, 9, .ifCond .ne 6, 3, 0),
  (.iconst (-1000000002), 12, .ldc 102, 2, 986),
  (.ireturn, 14, .ireturn, 1, 0),
  (.aload 0, 15, .aload_n 0, 1, 0),
  (.getfield 713, 16, .getfield 103, 3, 866),
  (.iconst 220, 19, .sipush 220, 3, 0),
  (.if_icmp .ne 14, 22, .if_icmp .ne 6, 3, 0),
  (.iconst (-1000000004), 25, .ldc 106, 2, 987),
  (.ireturn, 27, .ireturn, 1, 0),
  (.aload 0, 28, .aload_n 0, 1, 0),
  (.getfield 712, 29, .getfield 22, 3, 865),
  (.aload 0, 32, .aload_n 0, 1, 0),
  (.getfield 713, 33, .getfield 103, 3, 866),
  (.iload 1, 36, .iload_n 1, 1, 0),
  (.iastore, 37, .iastore, 1, 0),
  (.aload 0, 38, .aload_n 0, 1, 0),
  (.dup, 39, .dup, 1, 0),
  (.getfield 713, 40, .getfield 103, 3, 866),
  (.iconst 1, 43, .iconst 1, 1, 0),
  (.iadd, 44, .iadd, 1, 0),
  (.putfield 713, 45, .putfield 103, 3, 866),
  (.aload 0, 48, .aload_n 0, 1, 0),
  (.getfield 713, 49, .getfield 103, 3, 866),
  (.ireturn, 52, .ireturn, 1, 0)]
/-- 116: WakeOrderModel.here()I -/
def lr116 : List LRow := [(.nop, 0, .aload_n 0, 0, 0),
  (.aload 0, 0, .aload_n 0, 1, 0),
  (.getfield 715, 1, .getfield 107, 3, 868),
  (.aload 0, 4, .aload_n 0, 1, 0),
  (.getfield 713, 5, .getfield 103, 3, 866),
  (.if_icmp .ge 20, 8, .if_icmp .ge 30, 3, 0),
  (.aload 0, 11, .aload_n 0, 1, 0),
  (.getfield 712, 12, .getfield 22, 3, 865),
  (.aload 0, 15, .aload_n 0, 1, 0),
  (.getfield 715, 16, .getfield 107, 3, 868),
  (.iaload, 19, .iaload, 1, 0),
  (.iconst 32, 20, .bipush 32, 2, 0),
  (.if_icmp .ne 20, 22, .if_icmp .ne 16, 3, 0),
  (.aload 0, 25, .aload_n 0, 1, 0),
  (.dup, 26, .dup, 1, 0),
  (.getfield 715, 27, .getfield 107, 3, 868),
  (.iconst 1, 30, .iconst 1, 1, 0),
  (.iadd, 31, .iadd, 1, 0),
  (.putfield 715, 32, .putfield 107, 3, 868),
  (.goto 0, 35, .goto (-35), 3, 0),
  (.aload 0, 38, .aload_n 0, 1, 0),
  (.getfield 715, 39, .getfield 107, 3, 868),
  (.aload 0, 42, .aload_n 0, 1, 0),
  (.getfield 713, 43, .getfield 103, 3, 866),
  (.if_icmp .ge 31, 46, .if_icmp .ge 15, 3, 0),
  (.aload 0, 49, .aload_n 0, 1, 0),
  (.getfield 712, 50, .getfield 22, 3, 865),
  (.aload 0, 53, .aload_n 0, 1, 0),
  (.getfield 715, 54, .getfield 107, 3, 868),
  (.iaload, 57, .iaload, 1, 0),
  (.goto 32, 58, .goto 4, 3, 0),
  (.iconst (-1), 61, .iconst (-1), 1, 0),
  (.ireturn, 62, .ireturn, 1, 0)]
/-- 117: WakeOrderModel.fails(II)I -/
def lr117 : List LRow := [(.aload 0, 0, .aload_n 0, 1, 0),
  (.iload 2, 1, .iload_n 2, 1, 0),
  (.putfield 714, 2, .putfield 25, 3, 867),
  (.iload 1, 5, .iload_n 1, 1, 0),
  (.ireturn, 6, .ireturn, 1, 0)]
/-- 118: WakeOrderModel.takeNumber(II)I -/
def lr118 : List LRow := [(.aload 0, 0, .aload_n 0, 1, 0),
  (.invokestatic 116, 1, .invokevirtual 110, 3, 992),
  (.istore 3, 4, .istore_n 3, 1, 0),
  (.iload 3, 5, .iload_n 3, 1, 0),
  (.i2l, 6, .i2l, 1, 0),
  (.jsr_w 48, 7, .ldc2_w 114, 3, 1012),
  (.jsr_w 57, 10, .ldc2_w 116, 3, 1013),
  (.invokestatic 110, 13, .invokestatic 93, 3, 983),
  (.ifCond .ne 15, 16, .ifCond .ne 13, 3, 0),
  (.aload 0, 19, .aload_n 0, 1, 0),
  (.iconst 1, 20, .iconst 1, 1, 0),
  (.aload 0, 21, .aload_n 0, 1, 0),
  (.getfield 715, 22, .getfield 107, 3, 868),
  (.invokestatic 117, 25, .invokevirtual 118, 3, 1000),
  (.ireturn, 28, .ireturn, 1, 0),
  (.aload 0, 29, .aload_n 0, 1, 0),
  (.aload 0, 30, .aload_n 0, 1, 0),
  (.getfield 715, 31, .getfield 107, 3, 868),
  (.putfield 717, 34, .putfield 122, 3, 870),
  (.aload 0, 37, .aload_n 0, 1, 0),
  (.iconst 0, 38, .iconst 0, 1, 0),
  (.putfield 716, 39, .putfield 125, 3, 869),
  (.nop, 42, .aload_n 0, 0, 0),
  (.aload 0, 42, .aload_n 0, 1, 0),
  (.getfield 715, 43, .getfield 107, 3, 868),
  (.aload 0, 46, .aload_n 0, 1, 0),
  (.getfield 713, 47, .getfield 103, 3, 866),
  (.if_icmp .ge 66, 50, .if_icmp .ge 79, 3, 0),
  (.aload 0, 53, .aload_n 0, 1, 0),
  (.getfield 712, 54, .getfield 22, 3, 865),
  (.aload 0, 57, .aload_n 0, 1, 0),
  (.getfield 715, 58, .getfield 107, 3, 868),
  (.iaload, 61, .iaload, 1, 0),
  (.i2l, 62, .i2l, 1, 0),
  (.jsr_w 48, 63, .ldc2_w 114, 3, 1012),
  (.jsr_w 57, 66, .ldc2_w 116, 3, 1013),
  (.invokestatic 110, 69, .invokestatic 93, 3, 983),
  (.ifCond .eq 66, 72, .ifCond .eq 57, 3, 0),
  (.aload 0, 75, .aload_n 0, 1, 0),
  (.aload 0, 76, .aload_n 0, 1, 0),
  (.getfield 716, 77, .getfield 125, 3, 869),
  (.iconst 10000, 80, .sipush 10000, 3, 0),
  (.if_icmp .le 46, 83, .if_icmp .le 10, 3, 0),
  (.aload 0, 86, .aload_n 0, 1, 0),
  (.getfield 716, 87, .getfield 125, 3, 869),
  (.goto 58, 90, .goto 23, 3, 0),
  (.iconst 10, 93, .bipush 10, 2, 0),
  (.aload 0, 95, .aload_n 0, 1, 0),
  (.getfield 716, 96, .getfield 125, 3, 869),
  (.imul, 99, .imul, 1, 0),
  (.aload 0, 100, .aload_n 0, 1, 0),
  (.getfield 712, 101, .getfield 22, 3, 865),
  (.aload 0, 104, .aload_n 0, 1, 0),
  (.getfield 715, 105, .getfield 107, 3, 868),
  (.iaload, 108, .iaload, 1, 0),
  (.iadd, 109, .iadd, 1, 0),
  (.iconst 48, 110, .bipush 48, 2, 0),
  (.isub, 112, .isub, 1, 0),
  (.putfield 716, 113, .putfield 125, 3, 869),
  (.aload 0, 116, .aload_n 0, 1, 0),
  (.dup, 117, .dup, 1, 0),
  (.getfield 715, 118, .getfield 107, 3, 868),
  (.iconst 1, 121, .iconst 1, 1, 0),
  (.iadd, 122, .iadd, 1, 0),
  (.putfield 715, 123, .putfield 107, 3, 868),
  (.goto 22, 126, .goto (-84), 3, 0),
  (.aload 0, 129, .aload_n 0, 1, 0),
  (.getfield 715, 130, .getfield 107, 3, 868),
  (.aload 0, 133, .aload_n 0, 1, 0),
  (.getfield 717, 134, .getfield 122, 3, 870),
  (.isub, 137, .isub, 1, 0),
  (.iconst 3, 138, .iconst 3, 1, 0),
  (.if_icmp .gt 82, 139, .if_icmp .gt 18, 3, 0),
  (.aload 0, 142, .aload_n 0, 1, 0),
  (.getfield 716, 143, .getfield 125, 3, 869),
  (.i2l, 146, .i2l, 1, 0),
  (.iload 1, 147, .iload_n 1, 1, 0),
  (.i2l, 148, .i2l, 1, 0),
  (.iload 2, 149, .iload_n 2, 1, 0),
  (.i2l, 150, .i2l, 1, 0),
  (.invokestatic 110, 151, .invokestatic 93, 3, 983),
  (.ifCond .ne 88, 154, .ifCond .ne 15, 3, 0),
  (.aload 0, 157, .aload_n 0, 1, 0),
  (.iconst 2, 158, .iconst 2, 1, 0),
  (.aload 0, 159, .aload_n 0, 1, 0),
  (.getfield 717, 160, .getfield 122, 3, 870),
  (.invokestatic 117, 163, .invokevirtual 118, 3, 1000),
  (.goto 89, 166, .goto 4, 3, 0),
  (.iconst 0, 169, .iconst 0, 1, 0),
  (.ireturn, 170, .ireturn, 1, 0)]
/-- 119: WakeOrderModel.into([IIII)I -/
def lr119 : List LRow := [(.aload 0, 0, .aload_n 0, 1, 0),
  (.iload 3, 1, .iload_n 3, 1, 0),
  (.iload 4, 2, .iload 4, 2, 0),
  (.invokestatic 118, 4, .invokevirtual 128, 3, 1008),
  (.istore 5, 7, .istore 5, 2, 0),
  (.aload 1, 9, .aload_n 1, 1, 0),
  (.iload 2, 10, .iload_n 2, 1, 0),
  (.aload 0, 11, .aload_n 0, 1, 0),
  (.getfield 716, 12, .getfield 125, 3, 869),
  (.iastore, 15, .iastore, 1, 0),
  (.iload 5, 16, .iload 5, 2, 0),
  (.ireturn, 18, .ireturn, 1, 0)]
/-- 120: WakeOrderModel.takePerson()I -/
def lr120 : List LRow := [(.aload 0, 0, .aload_n 0, 1, 0),
  (.getfield 719, 1, .getfield 131, 3, 872),
  (.istore 1, 4, .istore_n 1, 1, 0),
  (.aload 0, 5, .aload_n 0, 1, 0),
  (.dup, 6, .dup, 1, 0),
  (.getfield 719, 7, .getfield 131, 3, 872),
  (.iconst 1, 10, .iconst 1, 1, 0),
  (.iadd, 11, .iadd, 1, 0),
  (.putfield 719, 12, .putfield 131, 3, 872),
  (.aload 0, 15, .aload_n 0, 1, 0),
  (.getfield 725, 16, .getfield 44, 3, 878),
  (.iload 1, 19, .iload_n 1, 1, 0),
  (.iconst (-1), 20, .iconst (-1), 1, 0),
  (.iastore, 21, .iastore, 1, 0),
  (.aload 0, 22, .aload_n 0, 1, 0),
  (.aload 0, 23, .aload_n 0, 1, 0),
  (.getfield 720, 24, .getfield 32, 3, 873),
  (.iload 1, 27, .iload_n 1, 1, 0),
  (.iconst 0, 28, .iconst 0, 1, 0),
  (.iconst 999, 29, .sipush 999, 3, 0),
  (.invokestatic 119, 32, .invokevirtual 134, 3, 1004),
  (.ireturn, 35, .ireturn, 1, 0)]
/-- 121: WakeOrderModel.takeJob()I -/
def lr121 : List LRow := [(.aload 0, 0, .aload_n 0, 1, 0),
  (.getfield 721, 1, .getfield 138, 3, 874),
  (.istore 1, 4, .istore_n 1, 1, 0),
  (.aload 0, 5, .aload_n 0, 1, 0),
  (.aload 0, 6, .aload_n 0, 1, 0),
  (.getfield 722, 7, .getfield 35, 3, 875),
  (.iload 1, 10, .iload_n 1, 1, 0),
  (.iconst 0, 11, .iconst 0, 1, 0),
  (.aload 0, 12, .aload_n 0, 1, 0),
  (.getfield 719, 13, .getfield 131, 3, 872),
  (.iconst 1, 16, .iconst 1, 1, 0),
  (.isub, 17, .isub, 1, 0),
  (.invokestatic 119, 18, .invokevirtual 134, 3, 1004),
  (.istore 2, 21, .istore_n 2, 1, 0),
  (.iload 2, 22, .iload_n 2, 1, 0),
  (.ifCond .le 18, 23, .ifCond .le 7, 3, 0),
  (.iload 2, 26, .iload_n 2, 1, 0),
  (.goto 25, 27, .goto 15, 3, 0),
  (.aload 0, 30, .aload_n 0, 1, 0),
  (.aload 0, 31, .aload_n 0, 1, 0),
  (.getfield 723, 32, .getfield 38, 3, 876),
  (.iload 1, 35, .iload_n 1, 1, 0),
  (.iconst 1, 36, .iconst 1, 1, 0),
  (.iconst 99, 37, .bipush 99, 2, 0),
  (.invokestatic 119, 39, .invokevirtual 134, 3, 1004),
  (.istore 2, 42, .istore_n 2, 1, 0),
  (.iload 2, 43, .iload_n 2, 1, 0),
  (.ifCond .le 30, 44, .ifCond .le 7, 3, 0),
  (.iload 2, 47, .iload_n 2, 1, 0),
  (.goto 34, 48, .goto 10, 3, 0),
  (.aload 0, 51, .aload_n 0, 1, 0),
  (.iconst 0, 52, .iconst 0, 1, 0),
  (.iconst 9, 53, .bipush 9, 2, 0),
  (.invokestatic 118, 55, .invokevirtual 128, 3, 1008),
  (.istore 2, 58, .istore_n 2, 1, 0),
  (.iload 2, 59, .iload_n 2, 1, 0),
  (.ifCond .ne 52, 60, .ifCond .ne 33, 3, 0),
  (.aload 0, 63, .aload_n 0, 1, 0),
  (.getfield 716, 64, .getfield 125, 3, 869),
  (.iconst 9, 67, .bipush 9, 2, 0),
  (.if_icmp .eq 52, 69, .if_icmp .eq 24, 3, 0),
  (.aload 0, 72, .aload_n 0, 1, 0),
  (.getfield 716, 73, .getfield 125, 3, 869),
  (.aload 0, 76, .aload_n 0, 1, 0),
  (.getfield 721, 77, .getfield 138, 3, 874),
  (.if_icmp .lt 52, 80, .if_icmp .lt 13, 3, 0),
  (.aload 0, 83, .aload_n 0, 1, 0),
  (.iconst 2, 84, .iconst 2, 1, 0),
  (.aload 0, 85, .aload_n 0, 1, 0),
  (.getfield 717, 86, .getfield 122, 3, 870),
  (.invokestatic 117, 89, .invokevirtual 118, 3, 1000),
  (.ireturn, 92, .ireturn, 1, 0),
  (.aload 0, 93, .aload_n 0, 1, 0),
  (.getfield 724, 94, .getfield 41, 3, 877),
  (.iload 1, 97, .iload_n 1, 1, 0),
  (.aload 0, 98, .aload_n 0, 1, 0),
  (.getfield 716, 99, .getfield 125, 3, 869),
  (.iconst 9, 102, .bipush 9, 2, 0),
  (.if_icmp .ne 61, 104, .if_icmp .ne 7, 3, 0),
  (.iconst (-1), 107, .iconst (-1), 1, 0),
  (.goto 63, 108, .goto 7, 3, 0),
  (.aload 0, 111, .aload_n 0, 1, 0),
  (.getfield 716, 112, .getfield 125, 3, 869),
  (.iastore, 115, .iastore, 1, 0),
  (.aload 0, 116, .aload_n 0, 1, 0),
  (.dup, 117, .dup, 1, 0),
  (.getfield 721, 118, .getfield 138, 3, 874),
  (.iconst 1, 121, .iconst 1, 1, 0),
  (.iadd, 122, .iadd, 1, 0),
  (.putfield 721, 123, .putfield 138, 3, 874),
  (.iload 2, 126, .iload_n 2, 1, 0),
  (.ireturn, 127, .ireturn, 1, 0)]
/-- 122: WakeOrderModel.takeWait()I -/
def lr122 : List LRow := [(.aload 0, 0, .aload_n 0, 1, 0),
  (.iconst 0, 1, .iconst 0, 1, 0),
  (.aload 0, 2, .aload_n 0, 1, 0),
  (.getfield 719, 3, .getfield 131, 3, 872),
  (.iconst 1, 6, .iconst 1, 1, 0),
  (.isub, 7, .isub, 1, 0),
  (.invokestatic 118, 8, .invokevirtual 128, 3, 1008),
  (.istore 1, 11, .istore_n 1, 1, 0),
  (.aload 0, 12, .aload_n 0, 1, 0),
  (.getfield 716, 13, .getfield 125, 3, 869),
  (.istore 2, 16, .istore_n 2, 1, 0),
  (.iload 1, 17, .iload_n 1, 1, 0),
  (.ifCond .ne 24, 18, .ifCond .ne 22, 3, 0),
  (.aload 0, 21, .aload_n 0, 1, 0),
  (.getfield 725, 22, .getfield 44, 3, 878),
  (.iload 2, 25, .iload_n 2, 1, 0),
  (.iaload, 26, .iaload, 1, 0),
  (.ifCond .lt 24, 27, .ifCond .lt 13, 3, 0),
  (.aload 0, 30, .aload_n 0, 1, 0),
  (.iconst 4, 31, .iconst 4, 1, 0),
  (.aload 0, 32, .aload_n 0, 1, 0),
  (.getfield 717, 33, .getfield 122, 3, 870),
  (.invokestatic 117, 36, .invokevirtual 118, 3, 1000),
  (.ireturn, 39, .ireturn, 1, 0),
  (.iload 1, 40, .iload_n 1, 1, 0),
  (.ifCond .le 28, 41, .ifCond .le 7, 3, 0),
  (.iload 1, 44, .iload_n 1, 1, 0),
  (.goto 35, 45, .goto 14, 3, 0),
  (.aload 0, 48, .aload_n 0, 1, 0),
  (.iconst 0, 49, .iconst 0, 1, 0),
  (.aload 0, 50, .aload_n 0, 1, 0),
  (.getfield 721, 51, .getfield 138, 3, 874),
  (.iconst 1, 54, .iconst 1, 1, 0),
  (.isub, 55, .isub, 1, 0),
  (.invokestatic 118, 56, .invokevirtual 128, 3, 1008),
  (.istore 1, 59, .istore_n 1, 1, 0),
  (.iload 1, 60, .iload_n 1, 1, 0),
  (.ifCond .ne 44, 61, .ifCond .ne 13, 3, 0),
  (.aload 0, 64, .aload_n 0, 1, 0),
  (.getfield 725, 65, .getfield 44, 3, 878),
  (.iload 2, 68, .iload_n 2, 1, 0),
  (.aload 0, 69, .aload_n 0, 1, 0),
  (.getfield 716, 70, .getfield 125, 3, 869),
  (.iastore, 73, .iastore, 1, 0),
  (.iload 1, 74, .iload_n 1, 1, 0),
  (.ireturn, 75, .ireturn, 1, 0)]
/-- 123: WakeOrderModel.takeClause()I -/
def lr123 : List LRow := [(.aload 0, 0, .aload_n 0, 1, 0),
  (.invokestatic 116, 1, .invokevirtual 110, 3, 992),
  (.istore 1, 4, .istore_n 1, 1, 0),
  (.iload 1, 5, .iload_n 1, 1, 0),
  (.iconst 99, 6, .bipush 99, 2, 0),
  (.if_icmp .ne 8, 8, .if_icmp .ne 7, 3, 0),
  (.iconst 0, 11, .iconst 0, 1, 0),
  (.goto 24, 12, .goto 34, 3, 0),
  (.iload 1, 15, .iload_n 1, 1, 0),
  (.iconst 112, 16, .bipush 112, 2, 0),
  (.if_icmp .ne 13, 18, .if_icmp .ne 7, 3, 0),
  (.iconst 1, 21, .iconst 1, 1, 0),
  (.goto 24, 22, .goto 24, 3, 0),
  (.iload 1, 25, .iload_n 1, 1, 0),
  (.iconst 106, 26, .bipush 106, 2, 0),
  (.if_icmp .ne 18, 28, .if_icmp .ne 7, 3, 0),
  (.iconst 2, 31, .iconst 2, 1, 0),
  (.goto 24, 32, .goto 14, 3, 0),
  (.iload 1, 35, .iload_n 1, 1, 0),
  (.iconst 119, 36, .bipush 119, 2, 0),
  (.if_icmp .ne 23, 38, .if_icmp .ne 7, 3, 0),
  (.iconst 3, 41, .iconst 3, 1, 0),
  (.goto 24, 42, .goto 4, 3, 0),
  (.iconst (-1), 45, .iconst (-1), 1, 0),
  (.istore 2, 46, .istore_n 2, 1, 0),
  (.iload 2, 47, .iload_n 2, 1, 0),
  (.ifCond .lt 34, 48, .ifCond .lt 16, 3, 0),
  (.iload 2, 51, .iload_n 2, 1, 0),
  (.ifCond .le 40, 52, .ifCond .le 22, 3, 0),
  (.aload 0, 55, .aload_n 0, 1, 0),
  (.getfield 718, 56, .getfield 29, 3, 871),
  (.iconst 0, 59, .iconst 0, 1, 0),
  (.iaload, 60, .iaload, 1, 0),
  (.ifCond .ne 40, 61, .ifCond .ne 13, 3, 0),
  (.aload 0, 64, .aload_n 0, 1, 0),
  (.iconst 1, 65, .iconst 1, 1, 0),
  (.aload 0, 66, .aload_n 0, 1, 0),
  (.getfield 715, 67, .getfield 107, 3, 868),
  (.invokestatic 117, 70, .invokevirtual 118, 3, 1000),
  (.ireturn, 73, .ireturn, 1, 0),
  (.iload 2, 74, .iload_n 2, 1, 0),
  (.ifCond .ne 51, 75, .ifCond .ne 20, 3, 0),
  (.aload 0, 78, .aload_n 0, 1, 0),
  (.getfield 718, 79, .getfield 29, 3, 871),
  (.iconst 0, 82, .iconst 0, 1, 0),
  (.iaload, 83, .iaload, 1, 0),
  (.ifCond .le 49, 84, .ifCond .le 7, 3, 0),
  (.iconst 1, 87, .iconst 1, 1, 0),
  (.goto 72, 88, .goto 48, 3, 0),
  (.iconst 0, 91, .iconst 0, 1, 0),
  (.goto 72, 92, .goto 44, 3, 0),
  (.iload 2, 95, .iload_n 2, 1, 0),
  (.iconst 1, 96, .iconst 1, 1, 0),
  (.if_icmp .ne 62, 97, .if_icmp .ne 20, 3, 0),
  (.aload 0, 100, .aload_n 0, 1, 0),
  (.getfield 719, 101, .getfield 131, 3, 872),
  (.iconst 6, 104, .bipush 6, 2, 0),
  (.if_icmp .ne 60, 106, .if_icmp .ne 7, 3, 0),
  (.iconst 1, 109, .iconst 1, 1, 0),
  (.goto 72, 110, .goto 26, 3, 0),
  (.iconst 0, 113, .iconst 0, 1, 0),
  (.goto 72, 114, .goto 22, 3, 0),
  (.iload 2, 117, .iload_n 2, 1, 0),
  (.iconst 2, 118, .iconst 2, 1, 0),
  (.if_icmp .ne 71, 119, .if_icmp .ne 16, 3, 0),
  (.aload 0, 122, .aload_n 0, 1, 0),
  (.getfield 721, 123, .getfield 138, 3, 874),
  (.iconst 8, 126, .bipush 8, 2, 0),
  (.if_icmp .ne 71, 128, .if_icmp .ne 7, 3, 0),
  (.iconst 1, 131, .iconst 1, 1, 0),
  (.goto 72, 132, .goto 4, 3, 0),
  (.iconst 0, 135, .iconst 0, 1, 0),
  (.istore 3, 136, .istore_n 3, 1, 0),
  (.iload 3, 137, .iload_n 3, 1, 0),
  (.ifCond .eq 81, 138, .ifCond .eq 13, 3, 0),
  (.aload 0, 141, .aload_n 0, 1, 0),
  (.iconst 3, 142, .iconst 3, 1, 0),
  (.aload 0, 143, .aload_n 0, 1, 0),
  (.getfield 715, 144, .getfield 107, 3, 868),
  (.invokestatic 117, 147, .invokevirtual 118, 3, 1000),
  (.ireturn, 150, .ireturn, 1, 0),
  (.aload 0, 151, .aload_n 0, 1, 0),
  (.dup, 152, .dup, 1, 0),
  (.getfield 715, 153, .getfield 107, 3, 868),
  (.iconst 1, 156, .iconst 1, 1, 0),
  (.iadd, 157, .iadd, 1, 0),
  (.putfield 715, 158, .putfield 107, 3, 868),
  (.iload 2, 161, .iload_n 2, 1, 0),
  (.ifCond .ne 97, 162, .ifCond .ne 20, 3, 0),
  (.aload 0, 165, .aload_n 0, 1, 0),
  (.aload 0, 166, .aload_n 0, 1, 0),
  (.getfield 718, 167, .getfield 29, 3, 871),
  (.iconst 0, 170, .iconst 0, 1, 0),
  (.iconst 10, 171, .bipush 10, 2, 0),
  (.iconst 999, 173, .sipush 999, 3, 0),
  (.invokestatic 119, 176, .invokevirtual 134, 3, 1004),
  (.goto 111, 179, .goto 31, 3, 0),
  (.iload 2, 182, .iload_n 2, 1, 0),
  (.iconst 1, 183, .iconst 1, 1, 0),
  (.if_icmp .ne 103, 184, .if_icmp .ne 10, 3, 0),
  (.aload 0, 187, .aload_n 0, 1, 0),
  (.invokestatic 120, 188, .invokevirtual 141, 3, 1014),
  (.goto 111, 191, .goto 19, 3, 0),
  (.iload 2, 194, .iload_n 2, 1, 0),
  (.iconst 2, 195, .iconst 2, 1, 0),
  (.if_icmp .ne 109, 196, .if_icmp .ne 10, 3, 0),
  (.aload 0, 199, .aload_n 0, 1, 0),
  (.invokestatic 121, 200, .invokevirtual 144, 3, 1018),
  (.goto 111, 203, .goto 7, 3, 0),
  (.aload 0, 206, .aload_n 0, 1, 0),
  (.invokestatic 122, 207, .invokevirtual 147, 3, 1022),
  (.istore 4, 210, .istore 4, 2, 0),
  (.iload 4, 212, .iload 4, 2, 0),
  (.ifCond .ne 124, 214, .ifCond .ne 22, 3, 0),
  (.aload 0, 217, .aload_n 0, 1, 0),
  (.invokestatic 116, 218, .invokevirtual 110, 3, 992),
  (.iconst 59, 221, .bipush 59, 2, 0),
  (.if_icmp .eq 124, 223, .if_icmp .eq 13, 3, 0),
  (.aload 0, 226, .aload_n 0, 1, 0),
  (.iconst 1, 227, .iconst 1, 1, 0),
  (.aload 0, 228, .aload_n 0, 1, 0),
  (.getfield 715, 229, .getfield 107, 3, 868),
  (.invokestatic 117, 232, .invokevirtual 118, 3, 1000),
  (.ireturn, 235, .ireturn, 1, 0),
  (.aload 0, 236, .aload_n 0, 1, 0),
  (.dup, 237, .dup, 1, 0),
  (.getfield 715, 238, .getfield 107, 3, 868),
  (.iconst 1, 241, .iconst 1, 1, 0),
  (.iadd, 242, .iadd, 1, 0),
  (.putfield 715, 243, .putfield 107, 3, 868),
  (.iload 4, 246, .iload 4, 2, 0),
  (.ireturn, 248, .ireturn, 1, 0)]
/-- 124: WakeOrderModel.takeRead()V -/
def lr124 : List LRow := [(.aload 0, 0, .aload_n 0, 1, 0),
  (.aload 0, 1, .aload_n 0, 1, 0),
  (.getfield 718, 2, .getfield 29, 3, 871),
  (.iconst 0, 5, .iconst 0, 1, 0),
  (.iaload, 6, .iaload, 1, 0),
  (.putfield 704, 7, .putfield 87, 3, 857),
  (.aload 0, 10, .aload_n 0, 1, 0),
  (.aload 0, 11, .aload_n 0, 1, 0),
  (.getfield 719, 12, .getfield 131, 3, 872),
  (.putfield 705, 15, .putfield 90, 3, 858),
  (.aload 0, 18, .aload_n 0, 1, 0),
  (.aload 0, 19, .aload_n 0, 1, 0),
  (.getfield 721, 20, .getfield 138, 3, 874),
  (.putfield 706, 23, .putfield 97, 3, 859),
  (.iconst 0, 26, .iconst 0, 1, 0),
  (.istore 1, 27, .istore_n 1, 1, 0),
  (.nop, 28, .iload_n 1, 0, 0),
  (.iload 1, 28, .iload_n 1, 1, 0),
  (.iconst 24, 29, .bipush 24, 2, 0),
  (.if_icmp .ge 27, 31, .if_icmp .ge 16, 3, 0),
  (.aload 0, 34, .aload_n 0, 1, 0),
  (.getfield 710, 35, .getfield 19, 3, 863),
  (.iload 1, 38, .iload_n 1, 1, 0),
  (.iconst 0, 39, .iconst 0, 1, 0),
  (.iastore, 40, .iastore, 1, 0),
  (.iinc 1 1, 41, .iinc 1 1, 3, 0),
  (.goto 16, 44, .goto (-16), 3, 0),
  (.iconst 0, 47, .iconst 0, 1, 0),
  (.istore 1, 48, .istore_n 1, 1, 0),
  (.nop, 49, .iload_n 1, 0, 0),
  (.iload 1, 49, .iload_n 1, 1, 0),
  (.aload 0, 50, .aload_n 0, 1, 0),
  (.getfield 705, 51, .getfield 90, 3, 858),
  (.if_icmp .ge 59, 54, .if_icmp .ge 43, 3, 0),
  (.aload 0, 57, .aload_n 0, 1, 0),
  (.getfield 709, 58, .getfield 16, 3, 862),
  (.iload 1, 61, .iload_n 1, 1, 0),
  (.aload 0, 62, .aload_n 0, 1, 0),
  (.getfield 725, 63, .getfield 44, 3, 878),
  (.iload 1, 66, .iload_n 1, 1, 0),
  (.iaload, 67, .iaload, 1, 0),
  (.iastore, 68, .iastore, 1, 0),
  (.aload 0, 69, .aload_n 0, 1, 0),
  (.getfield 710, 70, .getfield 19, 3, 863),
  (.iload 1, 73, .iload_n 1, 1, 0),
  (.iload 1, 74, .iload_n 1, 1, 0),
  (.iastore, 75, .iastore, 1, 0),
  (.aload 0, 76, .aload_n 0, 1, 0),
  (.getfield 710, 77, .getfield 19, 3, 863),
  (.iconst 17, 80, .bipush 17, 2, 0),
  (.iload 1, 82, .iload_n 1, 1, 0),
  (.iadd, 83, .iadd, 1, 0),
  (.aload 0, 84, .aload_n 0, 1, 0),
  (.getfield 720, 85, .getfield 32, 3, 873),
  (.iload 1, 88, .iload_n 1, 1, 0),
  (.iaload, 89, .iaload, 1, 0),
  (.iastore, 90, .iastore, 1, 0),
  (.iinc 1 1, 91, .iinc 1 1, 3, 0),
  (.goto 29, 94, .goto (-45), 3, 0),
  (.aload 0, 97, .aload_n 0, 1, 0),
  (.getfield 710, 98, .getfield 19, 3, 863),
  (.iconst 6, 101, .bipush 6, 2, 0),
  (.aload 0, 103, .aload_n 0, 1, 0),
  (.getfield 705, 104, .getfield 90, 3, 858),
  (.iastore, 107, .iastore, 1, 0),
  (.iconst 0, 108, .iconst 0, 1, 0),
  (.istore 1, 109, .istore_n 1, 1, 0),
  (.nop, 110, .iload_n 1, 0, 0),
  (.iload 1, 110, .iload_n 1, 1, 0),
  (.aload 0, 111, .aload_n 0, 1, 0),
  (.getfield 706, 112, .getfield 97, 3, 859),
  (.if_icmp .ge 100, 115, .if_icmp .ge 48, 3, 0),
  (.aload 0, 118, .aload_n 0, 1, 0),
  (.getfield 707, 119, .getfield 7, 3, 860),
  (.iload 1, 122, .iload_n 1, 1, 0),
  (.aload 0, 123, .aload_n 0, 1, 0),
  (.getfield 723, 124, .getfield 38, 3, 876),
  (.iload 1, 127, .iload_n 1, 1, 0),
  (.iaload, 128, .iaload, 1, 0),
  (.iastore, 129, .iastore, 1, 0),
  (.aload 0, 130, .aload_n 0, 1, 0),
  (.getfield 708, 131, .getfield 13, 3, 861),
  (.iload 1, 134, .iload_n 1, 1, 0),
  (.aload 0, 135, .aload_n 0, 1, 0),
  (.getfield 724, 136, .getfield 41, 3, 877),
  (.iload 1, 139, .iload_n 1, 1, 0),
  (.iaload, 140, .iaload, 1, 0),
  (.iastore, 141, .iastore, 1, 0),
  (.aload 0, 142, .aload_n 0, 1, 0),
  (.getfield 710, 143, .getfield 19, 3, 863),
  (.iconst 9, 146, .bipush 9, 2, 0),
  (.iload 1, 148, .iload_n 1, 1, 0),
  (.iadd, 149, .iadd, 1, 0),
  (.aload 0, 150, .aload_n 0, 1, 0),
  (.getfield 722, 151, .getfield 35, 3, 875),
  (.iload 1, 154, .iload_n 1, 1, 0),
  (.iaload, 155, .iaload, 1, 0),
  (.iastore, 156, .iastore, 1, 0),
  (.iinc 1 1, 157, .iinc 1 1, 3, 0),
  (.goto 67, 160, .goto (-50), 3, 0),
  (.return_, 163, .return_, 1, 0)]
/-- 125: WakeOrderModel.city()I -/
def lr125 : List LRow := [(.aload 0, 0, .aload_n 0, 1, 0),
  (.iconst (-1), 1, .iconst (-1), 1, 0),
  (.putfield 714, 2, .putfield 25, 3, 867),
  (.aload 0, 5, .aload_n 0, 1, 0),
  (.iconst 0, 6, .iconst 0, 1, 0),
  (.putfield 715, 7, .putfield 107, 3, 868),
  (.aload 0, 10, .aload_n 0, 1, 0),
  (.getfield 718, 11, .getfield 29, 3, 871),
  (.iconst 0, 14, .iconst 0, 1, 0),
  (.iconst 0, 15, .iconst 0, 1, 0),
  (.iastore, 16, .iastore, 1, 0),
  (.aload 0, 17, .aload_n 0, 1, 0),
  (.iconst 0, 18, .iconst 0, 1, 0),
  (.putfield 719, 19, .putfield 131, 3, 872),
  (.aload 0, 22, .aload_n 0, 1, 0),
  (.iconst 0, 23, .iconst 0, 1, 0),
  (.putfield 721, 24, .putfield 138, 3, 874),
  (.iconst 0, 27, .iconst 0, 1, 0),
  (.istore 1, 28, .istore_n 1, 1, 0),
  (.nop, 29, .iload_n 1, 0, 0),
  (.iload 1, 29, .iload_n 1, 1, 0),
  (.ifCond .ne 29, 30, .ifCond .ne 18, 3, 0),
  (.aload 0, 33, .aload_n 0, 1, 0),
  (.invokestatic 116, 34, .invokevirtual 110, 3, 992),
  (.ifCond .lt 29, 37, .ifCond .lt 11, 3, 0),
  (.aload 0, 40, .aload_n 0, 1, 0),
  (.invokestatic 123, 41, .invokevirtual 150, 3, 996),
  (.istore 1, 44, .istore_n 1, 1, 0),
  (.goto 19, 45, .goto (-16), 3, 0),
  (.aload 0, 48, .aload_n 0, 1, 0),
  (.iconst 0, 49, .iconst 0, 1, 0),
  (.putfield 713, 50, .putfield 103, 3, 866),
  (.iload 1, 53, .iload_n 1, 1, 0),
  (.ifCond .le 38, 54, .ifCond .le 8, 3, 0),
  (.iconst (-10), 57, .bipush (-10), 2, 0),
  (.iload 1, 59, .iload_n 1, 1, 0),
  (.isub, 60, .isub, 1, 0),
  (.ireturn, 61, .ireturn, 1, 0),
  (.aload 0, 62, .aload_n 0, 1, 0),
  (.invokestatic 124, 63, .invokevirtual 153, 3, 1026),
  (.aload 0, 66, .aload_n 0, 1, 0),
  (.iconst 0, 67, .iconst 0, 1, 0),
  (.putfield 733, 68, .putfield 156, 3, 886),
  (.aload 0, 71, .aload_n 0, 1, 0),
  (.iconst 0, 72, .iconst 0, 1, 0),
  (.putfield 739, 73, .putfield 159, 3, 892),
  (.aload 0, 76, .aload_n 0, 1, 0),
  (.iconst 0, 77, .iconst 0, 1, 0),
  (.putfield 728, 78, .putfield 162, 3, 881),
  (.aload 0, 81, .aload_n 0, 1, 0),
  (.getfield 743, 82, .getfield 83, 3, 896),
  (.iconst 0, 85, .iconst 0, 1, 0),
  (.iconst 0, 86, .iconst 0, 1, 0),
  (.bastore, 87, .bastore, 1, 0),
  (.aload 0, 88, .aload_n 0, 1, 0),
  (.getfield 743, 89, .getfield 83, 3, 896),
  (.iconst 1, 92, .iconst 1, 1, 0),
  (.iconst 0, 93, .iconst 0, 1, 0),
  (.bastore, 94, .bastore, 1, 0),
  (.aload 0, 95, .aload_n 0, 1, 0),
  (.getfield 705, 96, .getfield 90, 3, 858),
  (.ireturn, 99, .ireturn, 1, 0)]
/-- 126: WakeOrderModel.fault()I -/
def lr126 : List LRow := [(.aload 0, 0, .aload_n 0, 1, 0),
  (.getfield 714, 1, .getfield 25, 3, 867),
  (.ireturn, 4, .ireturn, 1, 0)]
/-- 127: WakeOrderModel.inTime(I)I -/
def lr127 : List LRow := [(.iload 1, 0, .iload_n 1, 1, 0),
  (.aload 0, 1, .aload_n 0, 1, 0),
  (.getfield 704, 2, .getfield 87, 3, 857),
  (.if_icmp .ge 6, 5, .if_icmp .ge 7, 3, 0),
  (.iload 1, 8, .iload_n 1, 1, 0),
  (.goto 7, 9, .goto 5, 3, 0),
  (.iconst 1000000, 12, .ldc 165, 2, 1042),
  (.ireturn, 14, .ireturn, 1, 0)]
/-- 128: WakeOrderModel.later(II)I -/
def lr128 : List LRow := [(.iload 0, 0, .iload_n 0, 1, 0),
  (.iload 1, 1, .iload_n 1, 1, 0),
  (.if_icmp .le 5, 2, .if_icmp .le 7, 3, 0),
  (.iload 0, 5, .iload_n 0, 1, 0),
  (.goto 6, 6, .goto 4, 3, 0),
  (.iload 1, 9, .iload_n 1, 1, 0),
  (.ireturn, 10, .ireturn, 1, 0)]
/-- 129: WakeOrderModel.settleUps()Z -/
def lr129 : List LRow := [(.iconst 0, 0, .iconst 0, 1, 0),
  (.istore 1, 1, .istore_n 1, 1, 0),
  (.iconst 0, 2, .iconst 0, 1, 0),
  (.istore 2, 3, .istore_n 2, 1, 0),
  (.iconst 0, 4, .iconst 0, 1, 0),
  (.istore 3, 5, .istore_n 3, 1, 0),
  (.nop, 6, .iload_n 3, 0, 0),
  (.iload 3, 6, .iload_n 3, 1, 0),
  (.aload 0, 7, .aload_n 0, 1, 0),
  (.getfield 710, 8, .getfield 19, 3, 863),
  (.iconst 6, 11, .bipush 6, 2, 0),
  (.iaload, 13, .iaload, 1, 0),
  (.if_icmp .ge 84, 14, .if_icmp .ge 141, 3, 0),
  (.aload 0, 17, .aload_n 0, 1, 0),
  (.getfield 710, 18, .getfield 19, 3, 863),
  (.iload 3, 21, .iload_n 3, 1, 0),
  (.iaload, 22, .iaload, 1, 0),
  (.istore 4, 23, .istore 4, 2, 0),
  (.aload 0, 25, .aload_n 0, 1, 0),
  (.getfield 710, 26, .getfield 19, 3, 863),
  (.iconst 17, 29, .bipush 17, 2, 0),
  (.iload 4, 31, .iload 4, 2, 0),
  (.iadd, 33, .iadd, 1, 0),
  (.iaload, 34, .iaload, 1, 0),
  (.aload 0, 35, .aload_n 0, 1, 0),
  (.getfield 709, 36, .getfield 16, 3, 862),
  (.iload 4, 39, .iload 4, 2, 0),
  (.iaload, 41, .iaload, 1, 0),
  (.ifCond .ge 31, 42, .ifCond .ge 7, 3, 0),
  (.iconst 0, 45, .iconst 0, 1, 0),
  (.goto 38, 46, .goto 15, 3, 0),
  (.aload 0, 49, .aload_n 0, 1, 0),
  (.getfield 727, 50, .getfield 50, 3, 880),
  (.aload 0, 53, .aload_n 0, 1, 0),
  (.getfield 709, 54, .getfield 16, 3, 862),
  (.iload 4, 57, .iload 4, 2, 0),
  (.iaload, 59, .iaload, 1, 0),
  (.iaload, 60, .iaload, 1, 0),
  (.invokestatic 128, 61, .invokestatic 166, 3, 1047),
  (.istore 5, 64, .istore 5, 2, 0),
  (.aload 0, 66, .aload_n 0, 1, 0),
  (.getfield 710, 67, .getfield 19, 3, 863),
  (.iconst 7, 70, .bipush 7, 2, 0),
  (.iaload, 72, .iaload, 1, 0),
  (.iload 4, 73, .iload 4, 2, 0),
  (.invokestatic 111, 75, .invokestatic 169, 3, 1050),
  (.istore 6, 78, .istore 6, 2, 0),
  (.aload 0, 80, .aload_n 0, 1, 0),
  (.iload 6, 81, .iload 6, 2, 0),
  (.ifCond .eq 52, 83, .ifCond .eq 8, 3, 0),
  (.iload 5, 86, .iload 5, 2, 0),
  (.goto 55, 88, .goto 9, 3, 0),
  (.iload 5, 91, .iload 5, 2, 0),
  (.iload 2, 93, .iload_n 2, 1, 0),
  (.invokestatic 128, 94, .invokestatic 166, 3, 1047),
  (.invokestatic 127, 97, .invokevirtual 173, 3, 1053),
  (.istore 7, 100, .istore 7, 2, 0),
  (.iload 1, 102, .iload_n 1, 1, 0),
  (.ifCond .ne 65, 103, .ifCond .ne 15, 3, 0),
  (.iload 7, 106, .iload 7, 2, 0),
  (.aload 0, 108, .aload_n 0, 1, 0),
  (.getfield 726, 109, .getfield 47, 3, 879),
  (.iload 4, 112, .iload 4, 2, 0),
  (.iaload, 114, .iaload, 1, 0),
  (.if_icmp .eq 67, 115, .if_icmp .eq 7, 3, 0),
  (.iconst 1, 118, .iconst 1, 1, 0),
  (.goto 68, 119, .goto 4, 3, 0),
  (.iconst 0, 122, .iconst 0, 1, 0),
  (.istore 1, 123, .istore_n 1, 1, 0),
  (.aload 0, 124, .aload_n 0, 1, 0),
  (.getfield 726, 125, .getfield 47, 3, 879),
  (.iload 4, 128, .iload 4, 2, 0),
  (.iload 7, 130, .iload 7, 2, 0),
  (.iastore, 132, .iastore, 1, 0),
  (.iload 6, 133, .iload 6, 2, 0),
  (.ifCond .eq 78, 135, .ifCond .eq 7, 3, 0),
  (.iload 2, 138, .iload_n 2, 1, 0),
  (.goto 81, 139, .goto 9, 3, 0),
  (.iload 2, 142, .iload_n 2, 1, 0),
  (.iload 7, 143, .iload 7, 2, 0),
  (.invokestatic 128, 145, .invokestatic 166, 3, 1047),
  (.istore 2, 148, .istore_n 2, 1, 0),
  (.iinc 3 1, 149, .iinc 3 1, 3, 0),
  (.goto 6, 152, .goto (-146), 3, 0),
  (.iload 1, 155, .iload_n 1, 1, 0),
  (.areturn, 156, .ireturn, 1, 0)]
/-- 130: WakeOrderModel.settleJobs()Z -/
def lr130 : List LRow := [(.iconst 0, 0, .iconst 0, 1, 0),
  (.istore 1, 1, .istore_n 1, 1, 0),
  (.iconst 0, 2, .iconst 0, 1, 0),
  (.istore 2, 3, .istore_n 2, 1, 0),
  (.nop, 4, .iload_n 2, 0, 0),
  (.iload 2, 4, .iload_n 2, 1, 0),
  (.aload 0, 5, .aload_n 0, 1, 0),
  (.getfield 706, 6, .getfield 97, 3, 859),
  (.if_icmp .ge 94, 9, .if_icmp .ge 149, 3, 0),
  (.aload 0, 12, .aload_n 0, 1, 0),
  (.getfield 726, 13, .getfield 47, 3, 879),
  (.aload 0, 16, .aload_n 0, 1, 0),
  (.getfield 710, 17, .getfield 19, 3, 863),
  (.iconst 9, 20, .bipush 9, 2, 0),
  (.iload 2, 22, .iload_n 2, 1, 0),
  (.iadd, 23, .iadd, 1, 0),
  (.iaload, 24, .iaload, 1, 0),
  (.iaload, 25, .iaload, 1, 0),
  (.istore 3, 26, .istore_n 3, 1, 0),
  (.iload 3, 27, .iload_n 3, 1, 0),
  (.aload 0, 28, .aload_n 0, 1, 0),
  (.getfield 708, 29, .getfield 13, 3, 861),
  (.iload 2, 32, .iload_n 2, 1, 0),
  (.iaload, 33, .iaload, 1, 0),
  (.ifCond .ge 27, 34, .ifCond .ge 7, 3, 0),
  (.iconst 0, 37, .iconst 0, 1, 0),
  (.goto 34, 38, .goto 14, 3, 0),
  (.aload 0, 41, .aload_n 0, 1, 0),
  (.getfield 727, 42, .getfield 50, 3, 880),
  (.aload 0, 45, .aload_n 0, 1, 0),
  (.getfield 708, 46, .getfield 13, 3, 861),
  (.iload 2, 49, .iload_n 2, 1, 0),
  (.iaload, 50, .iaload, 1, 0),
  (.iaload, 51, .iaload, 1, 0),
  (.invokestatic 128, 52, .invokestatic 166, 3, 1047),
  (.istore 3, 55, .istore_n 3, 1, 0),
  (.iconst 0, 56, .iconst 0, 1, 0),
  (.istore 4, 57, .istore 4, 2, 0),
  (.nop, 59, .iload 4, 0, 0),
  (.iload 4, 59, .iload 4, 2, 0),
  (.iload 2, 61, .iload_n 2, 1, 0),
  (.if_icmp .ge 66, 62, .if_icmp .ge 47, 3, 0),
  (.aload 0, 65, .aload_n 0, 1, 0),
  (.getfield 710, 66, .getfield 19, 3, 863),
  (.iconst 9, 69, .bipush 9, 2, 0),
  (.iload 4, 71, .iload 4, 2, 0),
  (.iadd, 73, .iadd, 1, 0),
  (.iaload, 74, .iaload, 1, 0),
  (.aload 0, 75, .aload_n 0, 1, 0),
  (.getfield 710, 76, .getfield 19, 3, 863),
  (.iconst 9, 79, .bipush 9, 2, 0),
  (.iload 2, 81, .iload_n 2, 1, 0),
  (.iadd, 82, .iadd, 1, 0),
  (.iaload, 83, .iaload, 1, 0),
  (.if_icmp .ne 62, 84, .if_icmp .ne 17, 3, 0),
  (.iload 3, 87, .iload_n 3, 1, 0),
  (.aload 0, 88, .aload_n 0, 1, 0),
  (.getfield 727, 89, .getfield 50, 3, 880),
  (.iload 4, 92, .iload 4, 2, 0),
  (.iaload, 94, .iaload, 1, 0),
  (.invokestatic 128, 95, .invokestatic 166, 3, 1047),
  (.goto 63, 98, .goto 4, 3, 0),
  (.iload 3, 101, .iload_n 3, 1, 0),
  (.istore 3, 102, .istore_n 3, 1, 0),
  (.iinc 4 1, 103, .iinc 4 1, 3, 0),
  (.goto 38, 106, .goto (-47), 3, 0),
  (.aload 0, 109, .aload_n 0, 1, 0),
  (.iload 3, 110, .iload_n 3, 1, 0),
  (.aload 0, 111, .aload_n 0, 1, 0),
  (.getfield 707, 112, .getfield 7, 3, 860),
  (.iload 2, 115, .iload_n 2, 1, 0),
  (.iaload, 116, .iaload, 1, 0),
  (.iadd, 117, .iadd, 1, 0),
  (.invokestatic 127, 118, .invokevirtual 173, 3, 1053),
  (.istore 4, 121, .istore 4, 2, 0),
  (.iload 1, 123, .iload_n 1, 1, 0),
  (.ifCond .ne 83, 124, .ifCond .ne 14, 3, 0),
  (.iload 4, 127, .iload 4, 2, 0),
  (.aload 0, 129, .aload_n 0, 1, 0),
  (.getfield 727, 130, .getfield 50, 3, 880),
  (.iload 2, 133, .iload_n 2, 1, 0),
  (.iaload, 134, .iaload, 1, 0),
  (.if_icmp .eq 85, 135, .if_icmp .eq 7, 3, 0),
  (.iconst 1, 138, .iconst 1, 1, 0),
  (.goto 86, 139, .goto 4, 3, 0),
  (.iconst 0, 142, .iconst 0, 1, 0),
  (.istore 1, 143, .istore_n 1, 1, 0),
  (.aload 0, 144, .aload_n 0, 1, 0),
  (.getfield 727, 145, .getfield 50, 3, 880),
  (.iload 2, 148, .iload_n 2, 1, 0),
  (.iload 4, 149, .iload 4, 2, 0),
  (.iastore, 151, .iastore, 1, 0),
  (.iinc 2 1, 152, .iinc 2 1, 3, 0),
  (.goto 4, 155, .goto (-151), 3, 0),
  (.iload 1, 158, .iload_n 1, 1, 0),
  (.areturn, 159, .ireturn, 1, 0)]
/-- 131: WakeOrderModel.settle()V -/
def lr131 : List LRow := [(.iconst 0, 0, .iconst 0, 1, 0),
  (.istore 1, 1, .istore_n 1, 1, 0),
  (.nop, 2, .iload_n 1, 0, 0),
  (.iload 1, 2, .iload_n 1, 1, 0),
  (.iconst 6, 3, .bipush 6, 2, 0),
  (.if_icmp .ge 13, 5, .if_icmp .ge 17, 3, 0),
  (.aload 0, 8, .aload_n 0, 1, 0),
  (.getfield 726, 9, .getfield 47, 3, 879),
  (.iload 1, 12, .iload_n 1, 1, 0),
  (.iconst 1000000, 13, .ldc 165, 2, 1042),
  (.iastore, 15, .iastore, 1, 0),
  (.iinc 1 1, 16, .iinc 1 1, 3, 0),
  (.goto 2, 19, .goto (-17), 3, 0),
  (.iconst 0, 22, .iconst 0, 1, 0),
  (.istore 1, 23, .istore_n 1, 1, 0),
  (.nop, 24, .iload_n 1, 0, 0),
  (.iload 1, 24, .iload_n 1, 1, 0),
  (.iconst 8, 25, .bipush 8, 2, 0),
  (.if_icmp .ge 26, 27, .if_icmp .ge 17, 3, 0),
  (.aload 0, 30, .aload_n 0, 1, 0),
  (.getfield 727, 31, .getfield 50, 3, 880),
  (.iload 1, 34, .iload_n 1, 1, 0),
  (.iconst 1000000, 35, .ldc 165, 2, 1042),
  (.iastore, 37, .iastore, 1, 0),
  (.iinc 1 1, 38, .iinc 1 1, 3, 0),
  (.goto 15, 41, .goto (-17), 3, 0),
  (.iconst 1, 44, .iconst 1, 1, 0),
  (.istore 1, 45, .istore_n 1, 1, 0),
  (.nop, 46, .iload_n 1, 0, 0),
  (.iload 1, 46, .iload_n 1, 1, 0),
  (.ifCond .eq 44, 47, .ifCond .eq 28, 3, 0),
  (.aload 0, 50, .aload_n 0, 1, 0),
  (.invokestatic 129, 51, .invokevirtual 177, 3, 1043),
  (.istore 2, 54, .istore_n 2, 1, 0),
  (.aload 0, 55, .aload_n 0, 1, 0),
  (.invokestatic 130, 56, .invokevirtual 181, 3, 1057),
  (.ifCond .ne 39, 59, .ifCond .ne 7, 3, 0),
  (.iload 2, 62, .iload_n 2, 1, 0),
  (.ifCond .eq 41, 63, .ifCond .eq 7, 3, 0),
  (.iconst 1, 66, .iconst 1, 1, 0),
  (.goto 42, 67, .goto 4, 3, 0),
  (.iconst 0, 70, .iconst 0, 1, 0),
  (.istore 1, 71, .istore_n 1, 1, 0),
  (.goto 28, 72, .goto (-26), 3, 0),
  (.return_, 75, .return_, 1, 0)]
/-- 132: WakeOrderModel.stuckSet()I -/
def lr132 : List LRow := [(.iconst 0, 0, .iconst 0, 1, 0),
  (.istore 1, 1, .istore_n 1, 1, 0),
  (.iconst 0, 2, .iconst 0, 1, 0),
  (.istore 2, 3, .istore_n 2, 1, 0),
  (.nop, 4, .iload_n 2, 0, 0),
  (.iload 2, 4, .iload_n 2, 1, 0),
  (.aload 0, 5, .aload_n 0, 1, 0),
  (.getfield 710, 6, .getfield 19, 3, 863),
  (.iconst 6, 9, .bipush 6, 2, 0),
  (.iaload, 11, .iaload, 1, 0),
  (.if_icmp .ge 33, 12, .if_icmp .ge 40, 3, 0),
  (.iload 1, 15, .iload_n 1, 1, 0),
  (.aload 0, 16, .aload_n 0, 1, 0),
  (.getfield 726, 17, .getfield 47, 3, 879),
  (.aload 0, 20, .aload_n 0, 1, 0),
  (.getfield 710, 21, .getfield 19, 3, 863),
  (.iload 2, 24, .iload_n 2, 1, 0),
  (.iaload, 25, .iaload, 1, 0),
  (.iaload, 26, .iaload, 1, 0),
  (.iconst 1000000, 27, .ldc 165, 2, 1042),
  (.if_icmp .ne 28, 29, .if_icmp .ne 14, 3, 0),
  (.iconst 1, 32, .iconst 1, 1, 0),
  (.aload 0, 33, .aload_n 0, 1, 0),
  (.getfield 710, 34, .getfield 19, 3, 863),
  (.iload 2, 37, .iload_n 2, 1, 0),
  (.iaload, 38, .iaload, 1, 0),
  (.ishl, 39, .ishl, 1, 0),
  (.goto 29, 40, .goto 4, 3, 0),
  (.iconst 0, 43, .iconst 0, 1, 0),
  (.ior, 44, .ior, 1, 0),
  (.istore 1, 45, .istore_n 1, 1, 0),
  (.iinc 2 1, 46, .iinc 2 1, 3, 0),
  (.goto 4, 49, .goto (-45), 3, 0),
  (.iload 1, 52, .iload_n 1, 1, 0),
  (.ireturn, 53, .ireturn, 1, 0)]
/-- 133: WakeOrderModel.undoneSet()I -/
def lr133 : List LRow := [(.iconst 0, 0, .iconst 0, 1, 0),
  (.istore 1, 1, .istore_n 1, 1, 0),
  (.iconst 0, 2, .iconst 0, 1, 0),
  (.istore 2, 3, .istore_n 2, 1, 0),
  (.nop, 4, .iload_n 2, 0, 0),
  (.iload 2, 4, .iload_n 2, 1, 0),
  (.aload 0, 5, .aload_n 0, 1, 0),
  (.getfield 706, 6, .getfield 97, 3, 859),
  (.if_icmp .ge 25, 9, .if_icmp .ge 30, 3, 0),
  (.iload 1, 12, .iload_n 1, 1, 0),
  (.aload 0, 13, .aload_n 0, 1, 0),
  (.getfield 727, 14, .getfield 50, 3, 880),
  (.iload 2, 17, .iload_n 2, 1, 0),
  (.iaload, 18, .iaload, 1, 0),
  (.iconst 1000000, 19, .ldc 165, 2, 1042),
  (.if_icmp .ne 20, 21, .if_icmp .ne 9, 3, 0),
  (.iconst 1, 24, .iconst 1, 1, 0),
  (.iload 2, 25, .iload_n 2, 1, 0),
  (.ishl, 26, .ishl, 1, 0),
  (.goto 21, 27, .goto 4, 3, 0),
  (.iconst 0, 30, .iconst 0, 1, 0),
  (.ior, 31, .ior, 1, 0),
  (.istore 1, 32, .istore_n 1, 1, 0),
  (.iinc 2 1, 33, .iinc 2 1, 3, 0),
  (.goto 4, 36, .goto (-32), 3, 0),
  (.iload 1, 39, .iload_n 1, 1, 0),
  (.ireturn, 40, .ireturn, 1, 0)]
/-- 134: WakeOrderModel.told(I)I -/
def lr134 : List LRow := [(.aload 0, 0, .aload_n 0, 1, 0),
  (.invokestatic 131, 1, .invokevirtual 184, 3, 1038),
  (.iload 1, 4, .iload_n 1, 1, 0),
  (.tableswitch 46 0 11 #[4, 7, 10, 13, 16, 21, 26, 31, 34, 37, 40, 43], 5, .tableswitch 132 0 11 #[63, 68, 73, 78, 83, 91, 99, 107, 112, 117, 122, 127], 63, 0),
  (.aload 0, 68, .aload_n 0, 1, 0),
  (.getfield 704, 69, .getfield 87, 3, 857),
  (.ireturn, 72, .ireturn, 1, 0),
  (.aload 0, 73, .aload_n 0, 1, 0),
  (.getfield 705, 74, .getfield 90, 3, 858),
  (.ireturn, 77, .ireturn, 1, 0),
  (.aload 0, 78, .aload_n 0, 1, 0),
  (.getfield 706, 79, .getfield 97, 3, 859),
  (.ireturn, 82, .ireturn, 1, 0),
  (.aload 0, 83, .aload_n 0, 1, 0),
  (.getfield 713, 84, .getfield 103, 3, 866),
  (.ireturn, 87, .ireturn, 1, 0),
  (.aload 0, 88, .aload_n 0, 1, 0),
  (.getfield 710, 89, .getfield 19, 3, 863),
  (.iconst 23, 92, .bipush 23, 2, 0),
  (.iaload, 94, .iaload, 1, 0),
  (.ireturn, 95, .ireturn, 1, 0),
  (.aload 0, 96, .aload_n 0, 1, 0),
  (.getfield 710, 97, .getfield 19, 3, 863),
  (.iconst 8, 100, .bipush 8, 2, 0),
  (.iaload, 102, .iaload, 1, 0),
  (.ireturn, 103, .ireturn, 1, 0),
  (.aload 0, 104, .aload_n 0, 1, 0),
  (.getfield 710, 105, .getfield 19, 3, 863),
  (.iconst 7, 108, .bipush 7, 2, 0),
  (.iaload, 110, .iaload, 1, 0),
  (.ireturn, 111, .ireturn, 1, 0),
  (.aload 0, 112, .aload_n 0, 1, 0),
  (.invokestatic 132, 113, .invokevirtual 187, 3, 1061),
  (.ireturn, 116, .ireturn, 1, 0),
  (.aload 0, 117, .aload_n 0, 1, 0),
  (.invokestatic 133, 118, .invokevirtual 190, 3, 1065),
  (.ireturn, 121, .ireturn, 1, 0),
  (.aload 0, 122, .aload_n 0, 1, 0),
  (.getfield 733, 123, .getfield 156, 3, 886),
  (.ireturn, 126, .ireturn, 1, 0),
  (.aload 0, 127, .aload_n 0, 1, 0),
  (.getfield 739, 128, .getfield 159, 3, 892),
  (.ireturn, 131, .ireturn, 1, 0),
  (.aload 0, 132, .aload_n 0, 1, 0),
  (.getfield 728, 133, .getfield 162, 3, 881),
  (.ireturn, 136, .ireturn, 1, 0),
  (.iconst (-1000000002), 137, .ldc 102, 2, 986),
  (.ireturn, 139, .ireturn, 1, 0)]
/-- 135: WakeOrderModel.placeOf(I)I -/
def lr135 : List LRow := [(.iconst (-1), 0, .iconst (-1), 1, 0),
  (.istore 2, 1, .istore_n 2, 1, 0),
  (.iconst 0, 2, .iconst 0, 1, 0),
  (.istore 3, 3, .istore_n 3, 1, 0),
  (.nop, 4, .iload_n 3, 0, 0),
  (.iload 3, 4, .iload_n 3, 1, 0),
  (.aload 0, 5, .aload_n 0, 1, 0),
  (.getfield 710, 6, .getfield 19, 3, 863),
  (.iconst 6, 9, .bipush 6, 2, 0),
  (.iaload, 11, .iaload, 1, 0),
  (.if_icmp .ge 23, 12, .if_icmp .ge 25, 3, 0),
  (.aload 0, 15, .aload_n 0, 1, 0),
  (.getfield 710, 16, .getfield 19, 3, 863),
  (.iload 3, 19, .iload_n 3, 1, 0),
  (.iaload, 20, .iaload, 1, 0),
  (.iload 1, 21, .iload_n 1, 1, 0),
  (.if_icmp .ne 19, 22, .if_icmp .ne 7, 3, 0),
  (.iload 3, 25, .iload_n 3, 1, 0),
  (.goto 20, 26, .goto 4, 3, 0),
  (.iload 2, 29, .iload_n 2, 1, 0),
  (.istore 2, 30, .istore_n 2, 1, 0),
  (.iinc 3 1, 31, .iinc 3 1, 3, 0),
  (.goto 4, 34, .goto (-30), 3, 0),
  (.iload 2, 37, .iload_n 2, 1, 0),
  (.ireturn, 38, .ireturn, 1, 0)]
/-- 136: WakeOrderModel.manyOf(I)I -/
def lr136 : List LRow := [(.iconst 0, 0, .iconst 0, 1, 0),
  (.istore 2, 1, .istore_n 2, 1, 0),
  (.iconst 0, 2, .iconst 0, 1, 0),
  (.istore 3, 3, .istore_n 3, 1, 0),
  (.nop, 4, .iload_n 3, 0, 0),
  (.iload 3, 4, .iload_n 3, 1, 0),
  (.aload 0, 5, .aload_n 0, 1, 0),
  (.getfield 706, 6, .getfield 97, 3, 859),
  (.if_icmp .ge 25, 9, .if_icmp .ge 30, 3, 0),
  (.iload 2, 12, .iload_n 2, 1, 0),
  (.aload 0, 13, .aload_n 0, 1, 0),
  (.getfield 710, 14, .getfield 19, 3, 863),
  (.iconst 9, 17, .bipush 9, 2, 0),
  (.iload 3, 19, .iload_n 3, 1, 0),
  (.iadd, 20, .iadd, 1, 0),
  (.iaload, 21, .iaload, 1, 0),
  (.iload 1, 22, .iload_n 1, 1, 0),
  (.if_icmp .ne 20, 23, .if_icmp .ne 7, 3, 0),
  (.iconst 1, 26, .iconst 1, 1, 0),
  (.goto 21, 27, .goto 4, 3, 0),
  (.iconst 0, 30, .iconst 0, 1, 0),
  (.iadd, 31, .iadd, 1, 0),
  (.istore 2, 32, .istore_n 2, 1, 0),
  (.iinc 3 1, 33, .iinc 3 1, 3, 0),
  (.goto 4, 36, .goto (-32), 3, 0),
  (.iload 2, 39, .iload_n 2, 1, 0),
  (.ireturn, 40, .ireturn, 1, 0)]
/-- 137: WakeOrderModel.person(II)I -/
def lr137 : List LRow := [(.aload 0, 0, .aload_n 0, 1, 0),
  (.iload 1, 1, .iload_n 1, 1, 0),
  (.invokestatic 113, 2, .invokevirtual 193, 3, 1073),
  (.ifCond .ne 6, 5, .ifCond .ne 6, 3, 0),
  (.iconst (-1000000001), 8, .ldc 197, 2, 1077),
  (.ireturn, 10, .ireturn, 1, 0),
  (.aload 0, 11, .aload_n 0, 1, 0),
  (.invokestatic 131, 12, .invokevirtual 184, 3, 1038),
  (.iload 2, 15, .iload_n 2, 1, 0),
  (.tableswitch 43 0 4 #[10, 17, 21, 26, 39], 16, .tableswitch 87 0 4 #[36, 46, 52, 59, 81], 36, 0),
  (.aload 0, 52, .aload_n 0, 1, 0),
  (.getfield 710, 53, .getfield 19, 3, 863),
  (.iconst 17, 56, .bipush 17, 2, 0),
  (.iload 1, 58, .iload_n 1, 1, 0),
  (.iadd, 59, .iadd, 1, 0),
  (.iaload, 60, .iaload, 1, 0),
  (.ireturn, 61, .ireturn, 1, 0),
  (.aload 0, 62, .aload_n 0, 1, 0),
  (.iload 1, 63, .iload_n 1, 1, 0),
  (.invokestatic 135, 64, .invokevirtual 198, 3, 1078),
  (.ireturn, 67, .ireturn, 1, 0),
  (.aload 0, 68, .aload_n 0, 1, 0),
  (.getfield 709, 69, .getfield 16, 3, 862),
  (.iload 1, 72, .iload_n 1, 1, 0),
  (.iaload, 73, .iaload, 1, 0),
  (.ireturn, 74, .ireturn, 1, 0),
  (.aload 0, 75, .aload_n 0, 1, 0),
  (.getfield 726, 76, .getfield 47, 3, 879),
  (.iload 1, 79, .iload_n 1, 1, 0),
  (.iaload, 80, .iaload, 1, 0),
  (.iconst 1000000, 81, .ldc 165, 2, 1042),
  (.if_icmp .ne 34, 83, .if_icmp .ne 7, 3, 0),
  (.iconst (-1), 86, .iconst (-1), 1, 0),
  (.goto 38, 87, .goto 9, 3, 0),
  (.aload 0, 90, .aload_n 0, 1, 0),
  (.getfield 726, 91, .getfield 47, 3, 879),
  (.iload 1, 94, .iload_n 1, 1, 0),
  (.iaload, 95, .iaload, 1, 0),
  (.ireturn, 96, .ireturn, 1, 0),
  (.aload 0, 97, .aload_n 0, 1, 0),
  (.iload 1, 98, .iload_n 1, 1, 0),
  (.invokestatic 136, 99, .invokevirtual 201, 3, 1082),
  (.ireturn, 102, .ireturn, 1, 0),
  (.iconst (-1000000002), 103, .ldc 102, 2, 986),
  (.ireturn, 105, .ireturn, 1, 0)]
/-- 138: WakeOrderModel.job(II)I -/
def lr138 : List LRow := [(.aload 0, 0, .aload_n 0, 1, 0),
  (.iload 1, 1, .iload_n 1, 1, 0),
  (.invokestatic 114, 2, .invokevirtual 204, 3, 1090),
  (.ifCond .ne 6, 5, .ifCond .ne 6, 3, 0),
  (.iconst (-1000000001), 8, .ldc 197, 2, 1077),
  (.ireturn, 10, .ireturn, 1, 0),
  (.aload 0, 11, .aload_n 0, 1, 0),
  (.invokestatic 131, 12, .invokevirtual 184, 3, 1038),
  (.iload 2, 15, .iload_n 2, 1, 0),
  (.tableswitch 40 0 3 #[10, 17, 22, 27], 16, .tableswitch 78 0 3 #[32, 42, 49, 56], 32, 0),
  (.aload 0, 48, .aload_n 0, 1, 0),
  (.getfield 710, 49, .getfield 19, 3, 863),
  (.iconst 9, 52, .bipush 9, 2, 0),
  (.iload 1, 54, .iload_n 1, 1, 0),
  (.iadd, 55, .iadd, 1, 0),
  (.iaload, 56, .iaload, 1, 0),
  (.ireturn, 57, .ireturn, 1, 0),
  (.aload 0, 58, .aload_n 0, 1, 0),
  (.getfield 707, 59, .getfield 7, 3, 860),
  (.iload 1, 62, .iload_n 1, 1, 0),
  (.iaload, 63, .iaload, 1, 0),
  (.ireturn, 64, .ireturn, 1, 0),
  (.aload 0, 65, .aload_n 0, 1, 0),
  (.getfield 708, 66, .getfield 13, 3, 861),
  (.iload 1, 69, .iload_n 1, 1, 0),
  (.iaload, 70, .iaload, 1, 0),
  (.ireturn, 71, .ireturn, 1, 0),
  (.aload 0, 72, .aload_n 0, 1, 0),
  (.getfield 727, 73, .getfield 50, 3, 880),
  (.iload 1, 76, .iload_n 1, 1, 0),
  (.iaload, 77, .iaload, 1, 0),
  (.iconst 1000000, 78, .ldc 165, 2, 1042),
  (.if_icmp .ne 35, 80, .if_icmp .ne 7, 3, 0),
  (.iconst (-1), 83, .iconst (-1), 1, 0),
  (.goto 39, 84, .goto 9, 3, 0),
  (.aload 0, 87, .aload_n 0, 1, 0),
  (.getfield 727, 88, .getfield 50, 3, 880),
  (.iload 1, 91, .iload_n 1, 1, 0),
  (.iaload, 92, .iaload, 1, 0),
  (.ireturn, 93, .ireturn, 1, 0),
  (.iconst (-1000000002), 94, .ldc 102, 2, 986),
  (.ireturn, 96, .ireturn, 1, 0)]
/-- 139: WakeOrderModel.order(I)I -/
def lr139 : List LRow := [(.iload 1, 0, .iload_n 1, 1, 0),
  (.i2l, 1, .i2l, 1, 0),
  (.jsr_w 0, 2, .lconst 0, 1, 0),
  (.aload 0, 3, .aload_n 0, 1, 0),
  (.getfield 710, 4, .getfield 19, 3, 863),
  (.iconst 6, 7, .bipush 6, 2, 0),
  (.iaload, 9, .iaload, 1, 0),
  (.iconst 1, 10, .iconst 1, 1, 0),
  (.isub, 11, .isub, 1, 0),
  (.i2l, 12, .i2l, 1, 0),
  (.invokestatic 110, 13, .invokestatic 93, 3, 983),
  (.ifCond .eq 17, 16, .ifCond .eq 12, 3, 0),
  (.aload 0, 19, .aload_n 0, 1, 0),
  (.getfield 710, 20, .getfield 19, 3, 863),
  (.iload 1, 23, .iload_n 1, 1, 0),
  (.iaload, 24, .iaload, 1, 0),
  (.goto 18, 25, .goto 4, 3, 0),
  (.iconst (-1), 28, .iconst (-1), 1, 0),
  (.ireturn, 29, .ireturn, 1, 0)]
/-- 140: WakeOrderModel.remember()V -/
def lr140 : List LRow := [(.aload 0, 0, .aload_n 0, 1, 0),
  (.getfield 728, 1, .getfield 162, 3, 881),
  (.iconst 20, 4, .bipush 20, 2, 0),
  (.if_icmp .ne 28, 6, .if_icmp .ne 44, 3, 0),
  (.iconst 24, 9, .bipush 24, 2, 0),
  (.istore 1, 11, .istore_n 1, 1, 0),
  (.nop, 12, .iload_n 1, 0, 0),
  (.iload 1, 12, .iload_n 1, 1, 0),
  (.iconst 480, 13, .sipush 480, 3, 0),
  (.if_icmp .ge 22, 16, .if_icmp .ge 24, 3, 0),
  (.aload 0, 19, .aload_n 0, 1, 0),
  (.getfield 729, 20, .getfield 53, 3, 882),
  (.iload 1, 23, .iload_n 1, 1, 0),
  (.iconst 24, 24, .bipush 24, 2, 0),
  (.isub, 26, .isub, 1, 0),
  (.aload 0, 27, .aload_n 0, 1, 0),
  (.getfield 729, 28, .getfield 53, 3, 882),
  (.iload 1, 31, .iload_n 1, 1, 0),
  (.iaload, 32, .iaload, 1, 0),
  (.iastore, 33, .iastore, 1, 0),
  (.iinc 1 1, 34, .iinc 1 1, 3, 0),
  (.goto 6, 37, .goto (-25), 3, 0),
  (.aload 0, 40, .aload_n 0, 1, 0),
  (.dup, 41, .dup, 1, 0),
  (.getfield 728, 42, .getfield 162, 3, 881),
  (.iconst 1, 45, .iconst 1, 1, 0),
  (.isub, 46, .isub, 1, 0),
  (.putfield 728, 47, .putfield 162, 3, 881),
  (.iconst 0, 50, .iconst 0, 1, 0),
  (.istore 1, 51, .istore_n 1, 1, 0),
  (.nop, 52, .iload_n 1, 0, 0),
  (.iload 1, 52, .iload_n 1, 1, 0),
  (.iconst 24, 53, .bipush 24, 2, 0),
  (.if_icmp .ge 49, 55, .if_icmp .ge 29, 3, 0),
  (.aload 0, 58, .aload_n 0, 1, 0),
  (.getfield 729, 59, .getfield 53, 3, 882),
  (.iconst 24, 62, .bipush 24, 2, 0),
  (.aload 0, 64, .aload_n 0, 1, 0),
  (.getfield 728, 65, .getfield 162, 3, 881),
  (.imul, 68, .imul, 1, 0),
  (.iload 1, 69, .iload_n 1, 1, 0),
  (.iadd, 70, .iadd, 1, 0),
  (.aload 0, 71, .aload_n 0, 1, 0),
  (.getfield 710, 72, .getfield 19, 3, 863),
  (.iload 1, 75, .iload_n 1, 1, 0),
  (.iaload, 76, .iaload, 1, 0),
  (.iastore, 77, .iastore, 1, 0),
  (.iinc 1 1, 78, .iinc 1 1, 3, 0),
  (.goto 30, 81, .goto (-29), 3, 0),
  (.aload 0, 84, .aload_n 0, 1, 0),
  (.dup, 85, .dup, 1, 0),
  (.getfield 728, 86, .getfield 162, 3, 881),
  (.iconst 1, 89, .iconst 1, 1, 0),
  (.iadd, 90, .iadd, 1, 0),
  (.putfield 728, 91, .putfield 162, 3, 881),
  (.return_, 94, .return_, 1, 0)]
/-- 141: WakeOrderModel.takeOut(I)V -/
def lr141 : List LRow := [(.iload 1, 0, .iload_n 1, 1, 0),
  (.istore 2, 1, .istore_n 2, 1, 0),
  (.nop, 2, .iload_n 2, 0, 0),
  (.iload 2, 2, .iload_n 2, 1, 0),
  (.aload 0, 3, .aload_n 0, 1, 0),
  (.getfield 710, 4, .getfield 19, 3, 863),
  (.iconst 6, 7, .bipush 6, 2, 0),
  (.iaload, 9, .iaload, 1, 0),
  (.iconst 1, 10, .iconst 1, 1, 0),
  (.isub, 11, .isub, 1, 0),
  (.if_icmp .ge 23, 12, .if_icmp .ge 23, 3, 0),
  (.aload 0, 15, .aload_n 0, 1, 0),
  (.getfield 710, 16, .getfield 19, 3, 863),
  (.iload 2, 19, .iload_n 2, 1, 0),
  (.aload 0, 20, .aload_n 0, 1, 0),
  (.getfield 710, 21, .getfield 19, 3, 863),
  (.iload 2, 24, .iload_n 2, 1, 0),
  (.iconst 1, 25, .iconst 1, 1, 0),
  (.iadd, 26, .iadd, 1, 0),
  (.iaload, 27, .iaload, 1, 0),
  (.iastore, 28, .iastore, 1, 0),
  (.iinc 2 1, 29, .iinc 2 1, 3, 0),
  (.goto 2, 32, .goto (-30), 3, 0),
  (.aload 0, 35, .aload_n 0, 1, 0),
  (.getfield 710, 36, .getfield 19, 3, 863),
  (.iconst 6, 39, .bipush 6, 2, 0),
  (.dup2, 41, .dup2, 1, 0),
  (.iaload, 42, .iaload, 1, 0),
  (.iconst 1, 43, .iconst 1, 1, 0),
  (.isub, 44, .isub, 1, 0),
  (.iastore, 45, .iastore, 1, 0),
  (.return_, 46, .return_, 1, 0)]
/-- 142: WakeOrderModel.putIn(II)V -/
def lr142 : List LRow := [(.aload 0, 0, .aload_n 0, 1, 0),
  (.getfield 710, 1, .getfield 19, 3, 863),
  (.iconst 6, 4, .bipush 6, 2, 0),
  (.iaload, 6, .iaload, 1, 0),
  (.istore 3, 7, .istore_n 3, 1, 0),
  (.nop, 8, .iload_n 3, 0, 0),
  (.iload 3, 8, .iload_n 3, 1, 0),
  (.iload 2, 9, .iload_n 2, 1, 0),
  (.if_icmp .le 21, 10, .if_icmp .le 23, 3, 0),
  (.aload 0, 13, .aload_n 0, 1, 0),
  (.getfield 710, 14, .getfield 19, 3, 863),
  (.iload 3, 17, .iload_n 3, 1, 0),
  (.aload 0, 18, .aload_n 0, 1, 0),
  (.getfield 710, 19, .getfield 19, 3, 863),
  (.iload 3, 22, .iload_n 3, 1, 0),
  (.iconst 1, 23, .iconst 1, 1, 0),
  (.isub, 24, .isub, 1, 0),
  (.iaload, 25, .iaload, 1, 0),
  (.iastore, 26, .iastore, 1, 0),
  (.iinc 3 (-1), 27, .iinc 3 (-1), 3, 0),
  (.goto 5, 30, .goto (-22), 3, 0),
  (.aload 0, 33, .aload_n 0, 1, 0),
  (.getfield 710, 34, .getfield 19, 3, 863),
  (.iload 2, 37, .iload_n 2, 1, 0),
  (.iload 1, 38, .iload_n 1, 1, 0),
  (.iastore, 39, .iastore, 1, 0),
  (.aload 0, 40, .aload_n 0, 1, 0),
  (.getfield 710, 41, .getfield 19, 3, 863),
  (.iconst 6, 44, .bipush 6, 2, 0),
  (.dup2, 46, .dup2, 1, 0),
  (.iaload, 47, .iaload, 1, 0),
  (.iconst 1, 48, .iconst 1, 1, 0),
  (.iadd, 49, .iadd, 1, 0),
  (.iastore, 50, .iastore, 1, 0),
  (.return_, 51, .return_, 1, 0)]
/-- 143: WakeOrderModel.rank(II)I -/
def lr143 : List LRow := [(.aload 0, 0, .aload_n 0, 1, 0),
  (.iload 1, 1, .iload_n 1, 1, 0),
  (.invokestatic 113, 2, .invokevirtual 193, 3, 1073),
  (.ifCond .ne 6, 5, .ifCond .ne 6, 3, 0),
  (.iconst (-1000000001), 8, .ldc 197, 2, 1077),
  (.ireturn, 10, .ireturn, 1, 0),
  (.iload 2, 11, .iload_n 2, 1, 0),
  (.i2l, 12, .i2l, 1, 0),
  (.jsr_w 0, 13, .lconst 0, 1, 0),
  (.aload 0, 14, .aload_n 0, 1, 0),
  (.getfield 710, 15, .getfield 19, 3, 863),
  (.iconst 6, 18, .bipush 6, 2, 0),
  (.iaload, 20, .iaload, 1, 0),
  (.iconst 1, 21, .iconst 1, 1, 0),
  (.isub, 22, .isub, 1, 0),
  (.i2l, 23, .i2l, 1, 0),
  (.invokestatic 110, 24, .invokestatic 93, 3, 983),
  (.ifCond .ne 20, 27, .ifCond .ne 6, 3, 0),
  (.iconst (-1000000002), 30, .ldc 102, 2, 986),
  (.ireturn, 32, .ireturn, 1, 0),
  (.aload 0, 33, .aload_n 0, 1, 0),
  (.iload 1, 34, .iload_n 1, 1, 0),
  (.invokestatic 135, 35, .invokevirtual 198, 3, 1078),
  (.istore 3, 38, .istore_n 3, 1, 0),
  (.iload 3, 39, .iload_n 3, 1, 0),
  (.ifCond .ge 28, 40, .ifCond .ge 6, 3, 0),
  (.iconst (-1000000003), 43, .ldc 207, 2, 1102),
  (.ireturn, 45, .ireturn, 1, 0),
  (.aload 0, 46, .aload_n 0, 1, 0),
  (.invokestatic 140, 47, .invokevirtual 208, 3, 1103),
  (.aload 0, 50, .aload_n 0, 1, 0),
  (.iload 3, 51, .iload_n 3, 1, 0),
  (.invokestatic 141, 52, .invokevirtual 211, 3, 1107),
  (.aload 0, 55, .aload_n 0, 1, 0),
  (.iload 1, 56, .iload_n 1, 1, 0),
  (.iload 2, 57, .iload_n 2, 1, 0),
  (.invokestatic 142, 58, .invokevirtual 215, 3, 1111),
  (.iload 3, 61, .iload_n 3, 1, 0),
  (.ireturn, 62, .ireturn, 1, 0)]
/-- 144: WakeOrderModel.eyes(IZ)I -/
def lr144 : List LRow := [(.aload 0, 0, .aload_n 0, 1, 0),
  (.iload 1, 1, .iload_n 1, 1, 0),
  (.invokestatic 113, 2, .invokevirtual 193, 3, 1073),
  (.ifCond .ne 6, 5, .ifCond .ne 6, 3, 0),
  (.iconst (-1000000001), 8, .ldc 197, 2, 1077),
  (.ireturn, 10, .ireturn, 1, 0),
  (.aload 0, 11, .aload_n 0, 1, 0),
  (.invokestatic 140, 12, .invokevirtual 208, 3, 1103),
  (.aload 0, 15, .aload_n 0, 1, 0),
  (.getfield 710, 16, .getfield 19, 3, 863),
  (.iconst 7, 19, .bipush 7, 2, 0),
  (.iaload, 21, .iaload, 1, 0),
  (.iload 1, 22, .iload_n 1, 1, 0),
  (.ishr, 23, .ishr, 1, 0),
  (.iconst 1, 24, .iconst 1, 1, 0),
  (.iand, 25, .iand, 1, 0),
  (.istore 3, 26, .istore_n 3, 1, 0),
  (.aload 0, 27, .aload_n 0, 1, 0),
  (.getfield 710, 28, .getfield 19, 3, 863),
  (.iconst 7, 31, .bipush 7, 2, 0),
  (.iload 2, 33, .iload_n 2, 1, 0),
  (.ifCond .eq 31, 34, .ifCond .eq 17, 3, 0),
  (.aload 0, 37, .aload_n 0, 1, 0),
  (.getfield 710, 38, .getfield 19, 3, 863),
  (.iconst 7, 41, .bipush 7, 2, 0),
  (.iaload, 43, .iaload, 1, 0),
  (.iconst 1, 44, .iconst 1, 1, 0),
  (.iload 1, 45, .iload_n 1, 1, 0),
  (.ishl, 46, .ishl, 1, 0),
  (.ior, 47, .ior, 1, 0),
  (.goto 41, 48, .goto 16, 3, 0),
  (.aload 0, 51, .aload_n 0, 1, 0),
  (.getfield 710, 52, .getfield 19, 3, 863),
  (.iconst 7, 55, .bipush 7, 2, 0),
  (.iaload, 57, .iaload, 1, 0),
  (.iconst 1, 58, .iconst 1, 1, 0),
  (.iload 1, 59, .iload_n 1, 1, 0),
  (.ishl, 60, .ishl, 1, 0),
  (.iconst (-1), 61, .iconst (-1), 1, 0),
  (.ixor, 62, .ixor, 1, 0),
  (.iand, 63, .iand, 1, 0),
  (.iastore, 64, .iastore, 1, 0),
  (.iload 3, 65, .iload_n 3, 1, 0),
  (.ireturn, 66, .ireturn, 1, 0)]
/-- 145: WakeOrderModel.hand(II)I -/
def lr145 : List LRow := [(.aload 0, 0, .aload_n 0, 1, 0),
  (.iload 1, 1, .iload_n 1, 1, 0),
  (.invokestatic 114, 2, .invokevirtual 204, 3, 1090),
  (.ifCond .eq 8, 5, .ifCond .eq 11, 3, 0),
  (.aload 0, 8, .aload_n 0, 1, 0),
  (.iload 2, 9, .iload_n 2, 1, 0),
  (.invokestatic 113, 10, .invokevirtual 193, 3, 1073),
  (.ifCond .ne 10, 13, .ifCond .ne 6, 3, 0),
  (.iconst (-1000000001), 16, .ldc 197, 2, 1077),
  (.ireturn, 18, .ireturn, 1, 0),
  (.aload 0, 19, .aload_n 0, 1, 0),
  (.invokestatic 140, 20, .invokevirtual 208, 3, 1103),
  (.aload 0, 23, .aload_n 0, 1, 0),
  (.getfield 710, 24, .getfield 19, 3, 863),
  (.iconst 9, 27, .bipush 9, 2, 0),
  (.iload 1, 29, .iload_n 1, 1, 0),
  (.iadd, 30, .iadd, 1, 0),
  (.iaload, 31, .iaload, 1, 0),
  (.istore 3, 32, .istore_n 3, 1, 0),
  (.aload 0, 33, .aload_n 0, 1, 0),
  (.getfield 710, 34, .getfield 19, 3, 863),
  (.iconst 9, 37, .bipush 9, 2, 0),
  (.iload 1, 39, .iload_n 1, 1, 0),
  (.iadd, 40, .iadd, 1, 0),
  (.iload 2, 41, .iload_n 2, 1, 0),
  (.iastore, 42, .iastore, 1, 0),
  (.iload 3, 43, .iload_n 3, 1, 0),
  (.ireturn, 44, .ireturn, 1, 0)]
/-- 146: WakeOrderModel.dismissNow(I)V -/
def lr146 : List LRow := [(.aload 0, 0, .aload_n 0, 1, 0),
  (.aload 0, 1, .aload_n 0, 1, 0),
  (.iload 1, 2, .iload_n 1, 1, 0),
  (.invokestatic 135, 3, .invokevirtual 198, 3, 1078),
  (.invokestatic 141, 6, .invokevirtual 211, 3, 1107),
  (.aload 0, 9, .aload_n 0, 1, 0),
  (.getfield 710, 10, .getfield 19, 3, 863),
  (.iconst 8, 13, .bipush 8, 2, 0),
  (.dup2, 15, .dup2, 1, 0),
  (.iaload, 16, .iaload, 1, 0),
  (.iconst 1, 17, .iconst 1, 1, 0),
  (.iload 1, 18, .iload_n 1, 1, 0),
  (.ishl, 19, .ishl, 1, 0),
  (.ior, 20, .ior, 1, 0),
  (.iastore, 21, .iastore, 1, 0),
  (.return_, 22, .return_, 1, 0)]
/-- 147: WakeOrderModel.dismiss(I)I -/
def lr147 : List LRow := [(.aload 0, 0, .aload_n 0, 1, 0),
  (.iload 1, 1, .iload_n 1, 1, 0),
  (.invokestatic 113, 2, .invokevirtual 193, 3, 1073),
  (.ifCond .ne 6, 5, .ifCond .ne 6, 3, 0),
  (.iconst (-1000000001), 8, .ldc 197, 2, 1077),
  (.ireturn, 10, .ireturn, 1, 0),
  (.aload 0, 11, .aload_n 0, 1, 0),
  (.getfield 710, 12, .getfield 19, 3, 863),
  (.iconst 8, 15, .bipush 8, 2, 0),
  (.iaload, 17, .iaload, 1, 0),
  (.iload 1, 18, .iload_n 1, 1, 0),
  (.invokestatic 111, 19, .invokestatic 169, 3, 1050),
  (.ifCond .eq 15, 22, .ifCond .eq 6, 3, 0),
  (.iconst (-1000000003), 25, .ldc 207, 2, 1102),
  (.ireturn, 27, .ireturn, 1, 0),
  (.aload 0, 28, .aload_n 0, 1, 0),
  (.invokestatic 140, 29, .invokevirtual 208, 3, 1103),
  (.aload 0, 32, .aload_n 0, 1, 0),
  (.iload 1, 33, .iload_n 1, 1, 0),
  (.invokestatic 146, 34, .invokevirtual 219, 3, 1127),
  (.aload 0, 37, .aload_n 0, 1, 0),
  (.getfield 710, 38, .getfield 19, 3, 863),
  (.iconst 6, 41, .bipush 6, 2, 0),
  (.iaload, 43, .iaload, 1, 0),
  (.ireturn, 44, .ireturn, 1, 0)]
/-- 148: WakeOrderModel.wake(II)I -/
def lr148 : List LRow := [(.aload 0, 0, .aload_n 0, 1, 0),
  (.iload 1, 1, .iload_n 1, 1, 0),
  (.invokestatic 113, 2, .invokevirtual 193, 3, 1073),
  (.ifCond .ne 6, 5, .ifCond .ne 6, 3, 0),
  (.iconst (-1000000001), 8, .ldc 197, 2, 1077),
  (.ireturn, 10, .ireturn, 1, 0),
  (.iload 2, 11, .iload_n 2, 1, 0),
  (.i2l, 12, .i2l, 1, 0),
  (.jsr_w 0, 13, .lconst 0, 1, 0),
  (.jsr_w 999, 14, .ldc2_w 222, 3, 1135),
  (.invokestatic 110, 17, .invokestatic 93, 3, 983),
  (.ifCond .ne 14, 20, .ifCond .ne 6, 3, 0),
  (.iconst (-1000000002), 23, .ldc 102, 2, 986),
  (.ireturn, 25, .ireturn, 1, 0),
  (.aload 0, 26, .aload_n 0, 1, 0),
  (.invokestatic 140, 27, .invokevirtual 208, 3, 1103),
  (.aload 0, 30, .aload_n 0, 1, 0),
  (.getfield 710, 31, .getfield 19, 3, 863),
  (.iconst 17, 34, .bipush 17, 2, 0),
  (.iload 1, 36, .iload_n 1, 1, 0),
  (.iadd, 37, .iadd, 1, 0),
  (.iaload, 38, .iaload, 1, 0),
  (.istore 3, 39, .istore_n 3, 1, 0),
  (.aload 0, 40, .aload_n 0, 1, 0),
  (.getfield 710, 41, .getfield 19, 3, 863),
  (.iconst 17, 44, .bipush 17, 2, 0),
  (.iload 1, 46, .iload_n 1, 1, 0),
  (.iadd, 47, .iadd, 1, 0),
  (.iload 2, 48, .iload_n 2, 1, 0),
  (.iastore, 49, .iastore, 1, 0),
  (.iload 3, 50, .iload_n 3, 1, 0),
  (.ireturn, 51, .ireturn, 1, 0)]
/-- 149: WakeOrderModel.draw(I)I -/
def lr149 : List LRow := [(.aload 0, 0, .aload_n 0, 1, 0),
  (.aload 0, 1, .aload_n 0, 1, 0),
  (.getfield 711, 2, .getfield 224, 3, 864),
  (.i2l, 5, .i2l, 1, 0),
  (.jsr_w 1103515245, 6, .ldc2_w 227, 3, 1145),
  (.lmul, 9, .lmul, 1, 0),
  (.jsr_w 12345, 10, .ldc2_w 229, 3, 1146),
  (.ladd, 13, .ladd, 1, 0),
  (.jsr_w 2147483648, 14, .ldc2_w 231, 3, 1147),
  (.lrem, 17, .lrem, 1, 0),
  (.l2i, 18, .l2i, 1, 0),
  (.putfield 711, 19, .putfield 224, 3, 864),
  (.aload 0, 22, .aload_n 0, 1, 0),
  (.getfield 711, 23, .getfield 224, 3, 864),
  (.iconst 65536, 26, .ldc 233, 2, 1148),
  (.idiv, 28, .idiv, 1, 0),
  (.iload 1, 29, .iload_n 1, 1, 0),
  (.irem, 30, .irem, 1, 0),
  (.ireturn, 31, .ireturn, 1, 0)]
/-- 150: WakeOrderModel.drift(I)I -/
def lr150 : List LRow := [(.iload 1, 0, .iload_n 1, 1, 0),
  (.i2l, 1, .i2l, 1, 0),
  (.jsr_w 1, 2, .lconst 1, 1, 0),
  (.jsr_w 40, 3, .ldc2_w 234, 3, 1140),
  (.invokestatic 110, 6, .invokestatic 93, 3, 983),
  (.ifCond .ne 8, 9, .ifCond .ne 6, 3, 0),
  (.iconst (-1000000002), 12, .ldc 102, 2, 986),
  (.ireturn, 14, .ireturn, 1, 0),
  (.aload 0, 15, .aload_n 0, 1, 0),
  (.getfield 704, 16, .getfield 87, 3, 857),
  (.ifCond .ne 13, 19, .ifCond .ne 6, 3, 0),
  (.iconst (-1000000003), 22, .ldc 207, 2, 1102),
  (.ireturn, 24, .ireturn, 1, 0),
  (.aload 0, 25, .aload_n 0, 1, 0),
  (.getfield 710, 26, .getfield 19, 3, 863),
  (.iconst 23, 29, .bipush 23, 2, 0),
  (.iaload, 31, .iaload, 1, 0),
  (.iconst 9000, 32, .sipush 9000, 3, 0),
  (.if_icmp .le 21, 35, .if_icmp .le 6, 3, 0),
  (.iconst (-1000000004), 38, .ldc 106, 2, 987),
  (.ireturn, 40, .ireturn, 1, 0),
  (.aload 0, 41, .aload_n 0, 1, 0),
  (.invokestatic 140, 42, .invokevirtual 208, 3, 1103),
  (.iconst 0, 45, .iconst 0, 1, 0),
  (.istore 2, 46, .istore_n 2, 1, 0),
  (.nop, 47, .iload_n 2, 0, 0),
  (.iload 2, 47, .iload_n 2, 1, 0),
  (.iload 1, 48, .iload_n 1, 1, 0),
  (.if_icmp .ge 58, 49, .if_icmp .ge 53, 3, 0),
  (.iconst 0, 52, .iconst 0, 1, 0),
  (.istore 3, 53, .istore_n 3, 1, 0),
  (.nop, 54, .iload_n 3, 0, 0),
  (.iload 3, 54, .iload_n 3, 1, 0),
  (.aload 0, 55, .aload_n 0, 1, 0),
  (.getfield 705, 56, .getfield 90, 3, 858),
  (.if_icmp .ge 48, 59, .if_icmp .ge 26, 3, 0),
  (.aload 0, 62, .aload_n 0, 1, 0),
  (.getfield 710, 63, .getfield 19, 3, 863),
  (.iconst 17, 66, .bipush 17, 2, 0),
  (.iload 3, 68, .iload_n 3, 1, 0),
  (.iadd, 69, .iadd, 1, 0),
  (.aload 0, 70, .aload_n 0, 1, 0),
  (.aload 0, 71, .aload_n 0, 1, 0),
  (.getfield 704, 72, .getfield 87, 3, 857),
  (.invokestatic 149, 75, .invokevirtual 236, 3, 1141),
  (.iastore, 78, .iastore, 1, 0),
  (.iinc 3 1, 79, .iinc 3 1, 3, 0),
  (.goto 31, 82, .goto (-28), 3, 0),
  (.aload 0, 85, .aload_n 0, 1, 0),
  (.getfield 710, 86, .getfield 19, 3, 863),
  (.iconst 23, 89, .bipush 23, 2, 0),
  (.dup2, 91, .dup2, 1, 0),
  (.iaload, 92, .iaload, 1, 0),
  (.iconst 1, 93, .iconst 1, 1, 0),
  (.iadd, 94, .iadd, 1, 0),
  (.iastore, 95, .iastore, 1, 0),
  (.iinc 2 1, 96, .iinc 2 1, 3, 0),
  (.goto 25, 99, .goto (-52), 3, 0),
  (.aload 0, 102, .aload_n 0, 1, 0),
  (.getfield 710, 103, .getfield 19, 3, 863),
  (.iconst 23, 106, .bipush 23, 2, 0),
  (.iaload, 108, .iaload, 1, 0),
  (.ireturn, 109, .ireturn, 1, 0)]
/-- 151: WakeOrderModel.undo()I -/
def lr151 : List LRow := [(.aload 0, 0, .aload_n 0, 1, 0),
  (.getfield 728, 1, .getfield 162, 3, 881),
  (.ifCond .ne 5, 4, .ifCond .ne 6, 3, 0),
  (.iconst (-1000000003), 7, .ldc 207, 2, 1102),
  (.ireturn, 9, .ireturn, 1, 0),
  (.aload 0, 10, .aload_n 0, 1, 0),
  (.dup, 11, .dup, 1, 0),
  (.getfield 728, 12, .getfield 162, 3, 881),
  (.iconst 1, 15, .iconst 1, 1, 0),
  (.isub, 16, .isub, 1, 0),
  (.putfield 728, 17, .putfield 162, 3, 881),
  (.iconst 0, 20, .iconst 0, 1, 0),
  (.istore 1, 21, .istore_n 1, 1, 0),
  (.nop, 22, .iload_n 1, 0, 0),
  (.iload 1, 22, .iload_n 1, 1, 0),
  (.iconst 24, 23, .bipush 24, 2, 0),
  (.if_icmp .ge 32, 25, .if_icmp .ge 29, 3, 0),
  (.aload 0, 28, .aload_n 0, 1, 0),
  (.getfield 710, 29, .getfield 19, 3, 863),
  (.iload 1, 32, .iload_n 1, 1, 0),
  (.aload 0, 33, .aload_n 0, 1, 0),
  (.getfield 729, 34, .getfield 53, 3, 882),
  (.iconst 24, 37, .bipush 24, 2, 0),
  (.aload 0, 39, .aload_n 0, 1, 0),
  (.getfield 728, 40, .getfield 162, 3, 881),
  (.imul, 43, .imul, 1, 0),
  (.iload 1, 44, .iload_n 1, 1, 0),
  (.iadd, 45, .iadd, 1, 0),
  (.iaload, 46, .iaload, 1, 0),
  (.iastore, 47, .iastore, 1, 0),
  (.iinc 1 1, 48, .iinc 1 1, 3, 0),
  (.goto 13, 51, .goto (-29), 3, 0),
  (.aload 0, 54, .aload_n 0, 1, 0),
  (.getfield 728, 55, .getfield 162, 3, 881),
  (.ireturn, 58, .ireturn, 1, 0)]
/-- 152: WakeOrderModel.save()V -/
def lr152 : List LRow := [(.iconst 0, 0, .iconst 0, 1, 0),
  (.istore 1, 1, .istore_n 1, 1, 0),
  (.nop, 2, .iload_n 1, 0, 0),
  (.iload 1, 2, .iload_n 1, 1, 0),
  (.iconst 24, 3, .bipush 24, 2, 0),
  (.if_icmp .ge 16, 5, .if_icmp .ge 21, 3, 0),
  (.aload 0, 8, .aload_n 0, 1, 0),
  (.getfield 730, 9, .getfield 56, 3, 883),
  (.iload 1, 12, .iload_n 1, 1, 0),
  (.aload 0, 13, .aload_n 0, 1, 0),
  (.getfield 710, 14, .getfield 19, 3, 863),
  (.iload 1, 17, .iload_n 1, 1, 0),
  (.iaload, 18, .iaload, 1, 0),
  (.iastore, 19, .iastore, 1, 0),
  (.iinc 1 1, 20, .iinc 1 1, 3, 0),
  (.goto 2, 23, .goto (-21), 3, 0),
  (.return_, 26, .return_, 1, 0)]
/-- 153: WakeOrderModel.putBack()V -/
def lr153 : List LRow := [(.iconst 0, 0, .iconst 0, 1, 0),
  (.istore 1, 1, .istore_n 1, 1, 0),
  (.nop, 2, .iload_n 1, 0, 0),
  (.iload 1, 2, .iload_n 1, 1, 0),
  (.iconst 24, 3, .bipush 24, 2, 0),
  (.if_icmp .ge 16, 5, .if_icmp .ge 21, 3, 0),
  (.aload 0, 8, .aload_n 0, 1, 0),
  (.getfield 710, 9, .getfield 19, 3, 863),
  (.iload 1, 12, .iload_n 1, 1, 0),
  (.aload 0, 13, .aload_n 0, 1, 0),
  (.getfield 730, 14, .getfield 56, 3, 883),
  (.iload 1, 17, .iload_n 1, 1, 0),
  (.iaload, 18, .iaload, 1, 0),
  (.iastore, 19, .iastore, 1, 0),
  (.iinc 1 1, 20, .iinc 1 1, 3, 0),
  (.goto 2, 23, .goto (-21), 3, 0),
  (.return_, 26, .return_, 1, 0)]
/-- 154: WakeOrderModel.firstOrder()V -/
def lr154 : List LRow := [(.iconst 0, 0, .iconst 0, 1, 0),
  (.istore 1, 1, .istore_n 1, 1, 0),
  (.iconst 0, 2, .iconst 0, 1, 0),
  (.istore 2, 3, .istore_n 2, 1, 0),
  (.nop, 4, .iload_n 2, 0, 0),
  (.iload 2, 4, .iload_n 2, 1, 0),
  (.aload 0, 5, .aload_n 0, 1, 0),
  (.getfield 705, 6, .getfield 90, 3, 858),
  (.if_icmp .ge 24, 9, .if_icmp .ge 33, 3, 0),
  (.aload 0, 12, .aload_n 0, 1, 0),
  (.getfield 710, 13, .getfield 19, 3, 863),
  (.iconst 8, 16, .bipush 8, 2, 0),
  (.iaload, 18, .iaload, 1, 0),
  (.iload 2, 19, .iload_n 2, 1, 0),
  (.invokestatic 111, 20, .invokestatic 169, 3, 1050),
  (.ifCond .ne 22, 23, .ifCond .ne 13, 3, 0),
  (.aload 0, 26, .aload_n 0, 1, 0),
  (.getfield 710, 27, .getfield 19, 3, 863),
  (.iload 1, 30, .iload_n 1, 1, 0),
  (.iload 2, 31, .iload_n 2, 1, 0),
  (.iastore, 32, .iastore, 1, 0),
  (.iinc 1 1, 33, .iinc 1 1, 3, 0),
  (.iinc 2 1, 36, .iinc 2 1, 3, 0),
  (.goto 4, 39, .goto (-35), 3, 0),
  (.return_, 42, .return_, 1, 0)]
/-- 155: WakeOrderModel.swap(II)V -/
def lr155 : List LRow := [(.aload 0, 0, .aload_n 0, 1, 0),
  (.getfield 710, 1, .getfield 19, 3, 863),
  (.iload 1, 4, .iload_n 1, 1, 0),
  (.iaload, 5, .iaload, 1, 0),
  (.istore 3, 6, .istore_n 3, 1, 0),
  (.aload 0, 7, .aload_n 0, 1, 0),
  (.getfield 710, 8, .getfield 19, 3, 863),
  (.iload 1, 11, .iload_n 1, 1, 0),
  (.aload 0, 12, .aload_n 0, 1, 0),
  (.getfield 710, 13, .getfield 19, 3, 863),
  (.iload 2, 16, .iload_n 2, 1, 0),
  (.iaload, 17, .iaload, 1, 0),
  (.iastore, 18, .iastore, 1, 0),
  (.aload 0, 19, .aload_n 0, 1, 0),
  (.getfield 710, 20, .getfield 19, 3, 863),
  (.iload 2, 23, .iload_n 2, 1, 0),
  (.iload 3, 24, .iload_n 3, 1, 0),
  (.iastore, 25, .iastore, 1, 0),
  (.return_, 26, .return_, 1, 0)]
/-- 156: WakeOrderModel.nextOrder()Z -/
def lr156 : List LRow := [(.aload 0, 0, .aload_n 0, 1, 0),
  (.getfield 710, 1, .getfield 19, 3, 863),
  (.iconst 6, 4, .bipush 6, 2, 0),
  (.iaload, 6, .iaload, 1, 0),
  (.istore 1, 7, .istore_n 1, 1, 0),
  (.iload 1, 8, .iload_n 1, 1, 0),
  (.iconst 2, 9, .iconst 2, 1, 0),
  (.isub, 10, .isub, 1, 0),
  (.istore 2, 11, .istore_n 2, 1, 0),
  (.nop, 12, .iload_n 2, 0, 0),
  (.iload 2, 12, .iload_n 2, 1, 0),
  (.ifCond .lt 25, 13, .ifCond .lt 26, 3, 0),
  (.aload 0, 16, .aload_n 0, 1, 0),
  (.getfield 710, 17, .getfield 19, 3, 863),
  (.iload 2, 20, .iload_n 2, 1, 0),
  (.iaload, 21, .iaload, 1, 0),
  (.aload 0, 22, .aload_n 0, 1, 0),
  (.getfield 710, 23, .getfield 19, 3, 863),
  (.iload 2, 26, .iload_n 2, 1, 0),
  (.iconst 1, 27, .iconst 1, 1, 0),
  (.iadd, 28, .iadd, 1, 0),
  (.iaload, 29, .iaload, 1, 0),
  (.if_icmp .le 25, 30, .if_icmp .le 9, 3, 0),
  (.iinc 2 (-1), 33, .iinc 2 (-1), 3, 0),
  (.goto 9, 36, .goto (-24), 3, 0),
  (.iload 2, 39, .iload_n 2, 1, 0),
  (.ifCond .ge 29, 40, .ifCond .ge 5, 3, 0),
  (.iconst 0, 43, .iconst 0, 1, 0),
  (.areturn, 44, .ireturn, 1, 0),
  (.iload 1, 45, .iload_n 1, 1, 0),
  (.iconst 1, 46, .iconst 1, 1, 0),
  (.isub, 47, .isub, 1, 0),
  (.istore 3, 48, .istore_n 3, 1, 0),
  (.nop, 49, .aload_n 0, 0, 0),
  (.aload 0, 49, .aload_n 0, 1, 0),
  (.getfield 710, 50, .getfield 19, 3, 863),
  (.iload 3, 53, .iload_n 3, 1, 0),
  (.iaload, 54, .iaload, 1, 0),
  (.aload 0, 55, .aload_n 0, 1, 0),
  (.getfield 710, 56, .getfield 19, 3, 863),
  (.iload 2, 59, .iload_n 2, 1, 0),
  (.iaload, 60, .iaload, 1, 0),
  (.if_icmp .ge 45, 61, .if_icmp .ge 9, 3, 0),
  (.iinc 3 (-1), 64, .iinc 3 (-1), 3, 0),
  (.goto 33, 67, .goto (-18), 3, 0),
  (.aload 0, 70, .aload_n 0, 1, 0),
  (.iload 2, 71, .iload_n 2, 1, 0),
  (.iload 3, 72, .iload_n 3, 1, 0),
  (.invokestatic 155, 73, .invokevirtual 239, 3, 1185),
  (.iload 2, 76, .iload_n 2, 1, 0),
  (.iconst 1, 77, .iconst 1, 1, 0),
  (.iadd, 78, .iadd, 1, 0),
  (.istore 4, 79, .istore 4, 2, 0),
  (.iload 1, 81, .iload_n 1, 1, 0),
  (.iconst 1, 82, .iconst 1, 1, 0),
  (.isub, 83, .isub, 1, 0),
  (.istore 5, 84, .istore 5, 2, 0),
  (.nop, 86, .iload 4, 0, 0),
  (.iload 4, 86, .iload 4, 2, 0),
  (.iload 5, 88, .iload 5, 2, 0),
  (.if_icmp .ge 68, 90, .if_icmp .ge 20, 3, 0),
  (.aload 0, 93, .aload_n 0, 1, 0),
  (.iload 4, 94, .iload 4, 2, 0),
  (.iload 5, 96, .iload 5, 2, 0),
  (.invokestatic 155, 98, .invokevirtual 239, 3, 1185),
  (.iinc 4 1, 101, .iinc 4 1, 3, 0),
  (.iinc 5 (-1), 104, .iinc 5 (-1), 3, 0),
  (.goto 57, 107, .goto (-21), 3, 0),
  (.iconst 1, 110, .iconst 1, 1, 0),
  (.areturn, 111, .ireturn, 1, 0)]
/-- 157: WakeOrderModel.wasPlace(I)I -/
def lr157 : List LRow := [(.iconst (-1), 0, .iconst (-1), 1, 0),
  (.istore 2, 1, .istore_n 2, 1, 0),
  (.iconst 0, 2, .iconst 0, 1, 0),
  (.istore 3, 3, .istore_n 3, 1, 0),
  (.nop, 4, .iload_n 3, 0, 0),
  (.iload 3, 4, .iload_n 3, 1, 0),
  (.aload 0, 5, .aload_n 0, 1, 0),
  (.getfield 730, 6, .getfield 56, 3, 883),
  (.iconst 6, 9, .bipush 6, 2, 0),
  (.iaload, 11, .iaload, 1, 0),
  (.if_icmp .ge 23, 12, .if_icmp .ge 25, 3, 0),
  (.aload 0, 15, .aload_n 0, 1, 0),
  (.getfield 730, 16, .getfield 56, 3, 883),
  (.iload 3, 19, .iload_n 3, 1, 0),
  (.iaload, 20, .iaload, 1, 0),
  (.iload 1, 21, .iload_n 1, 1, 0),
  (.if_icmp .ne 19, 22, .if_icmp .ne 7, 3, 0),
  (.iload 3, 25, .iload_n 3, 1, 0),
  (.goto 20, 26, .goto 4, 3, 0),
  (.iload 2, 29, .iload_n 2, 1, 0),
  (.istore 2, 30, .istore_n 2, 1, 0),
  (.iinc 3 1, 31, .iinc 3 1, 3, 0),
  (.goto 4, 34, .goto (-30), 3, 0),
  (.iload 2, 37, .iload_n 2, 1, 0),
  (.ireturn, 38, .ireturn, 1, 0)]
/-- 158: WakeOrderModel.nearer()I -/
def lr158 : List LRow := [(.iconst 0, 0, .iconst 0, 1, 0),
  (.istore 1, 1, .istore_n 1, 1, 0),
  (.iconst 0, 2, .iconst 0, 1, 0),
  (.istore 2, 3, .istore_n 2, 1, 0),
  (.nop, 4, .iload_n 2, 0, 0),
  (.iload 2, 4, .iload_n 2, 1, 0),
  (.aload 0, 5, .aload_n 0, 1, 0),
  (.getfield 710, 6, .getfield 19, 3, 863),
  (.iconst 6, 9, .bipush 6, 2, 0),
  (.iaload, 11, .iaload, 1, 0),
  (.if_icmp .ge 27, 12, .if_icmp .ge 31, 3, 0),
  (.iload 1, 15, .iload_n 1, 1, 0),
  (.iload 2, 16, .iload_n 2, 1, 0),
  (.aload 0, 17, .aload_n 0, 1, 0),
  (.aload 0, 18, .aload_n 0, 1, 0),
  (.getfield 710, 19, .getfield 19, 3, 863),
  (.iload 2, 22, .iload_n 2, 1, 0),
  (.iaload, 23, .iaload, 1, 0),
  (.invokestatic 157, 24, .invokevirtual 242, 3, 1173),
  (.if_icmp .ge 22, 27, .if_icmp .ge 7, 3, 0),
  (.iconst 1, 30, .iconst 1, 1, 0),
  (.goto 23, 31, .goto 4, 3, 0),
  (.iconst 0, 34, .iconst 0, 1, 0),
  (.iadd, 35, .iadd, 1, 0),
  (.istore 1, 36, .istore_n 1, 1, 0),
  (.iinc 2 1, 37, .iinc 2 1, 3, 0),
  (.goto 4, 40, .goto (-36), 3, 0),
  (.iload 1, 43, .iload_n 1, 1, 0),
  (.ireturn, 44, .ireturn, 1, 0)]
/-- 159: WakeOrderModel.areDone(II)Z -/
def lr159 : List LRow := [(.iconst 1, 0, .iconst 1, 1, 0),
  (.istore 3, 1, .istore_n 3, 1, 0),
  (.iconst 0, 2, .iconst 0, 1, 0),
  (.istore 4, 3, .istore 4, 2, 0),
  (.nop, 5, .iload 4, 0, 0),
  (.iload 4, 5, .iload 4, 2, 0),
  (.aload 0, 7, .aload_n 0, 1, 0),
  (.getfield 706, 8, .getfield 97, 3, 859),
  (.if_icmp .ge 27, 11, .if_icmp .ge 39, 3, 0),
  (.iload 3, 14, .iload_n 3, 1, 0),
  (.ifCond .eq 23, 15, .ifCond .eq 27, 3, 0),
  (.iload 1, 18, .iload_n 1, 1, 0),
  (.iload 4, 19, .iload 4, 2, 0),
  (.invokestatic 111, 21, .invokestatic 169, 3, 1050),
  (.ifCond .eq 21, 24, .ifCond .eq 14, 3, 0),
  (.aload 0, 27, .aload_n 0, 1, 0),
  (.getfield 727, 28, .getfield 50, 3, 880),
  (.iload 4, 31, .iload 4, 2, 0),
  (.iaload, 33, .iaload, 1, 0),
  (.iload 2, 34, .iload_n 2, 1, 0),
  (.if_icmp .gt 23, 35, .if_icmp .gt 7, 3, 0),
  (.iconst 1, 38, .iconst 1, 1, 0),
  (.goto 24, 39, .goto 4, 3, 0),
  (.iconst 0, 42, .iconst 0, 1, 0),
  (.istore 3, 43, .istore_n 3, 1, 0),
  (.iinc 4 1, 44, .iinc 4 1, 3, 0),
  (.goto 4, 47, .goto (-42), 3, 0),
  (.iload 3, 50, .iload_n 3, 1, 0),
  (.areturn, 51, .ireturn, 1, 0)]
/-- 160: WakeOrderModel.findRaise(II)V -/
def lr160 : List LRow := [(.aload 0, 0, .aload_n 0, 1, 0),
  (.invokestatic 152, 1, .invokevirtual 245, 3, 1161),
  (.aload 0, 4, .aload_n 0, 1, 0),
  (.iconst (-1), 5, .iconst (-1), 1, 0),
  (.putfield 732, 6, .putfield 248, 3, 885),
  (.aload 0, 9, .aload_n 0, 1, 0),
  (.invokestatic 154, 10, .invokevirtual 251, 3, 1165),
  (.iconst 1, 13, .iconst 1, 1, 0),
  (.istore 3, 14, .istore_n 3, 1, 0),
  (.nop, 15, .iload_n 3, 0, 0),
  (.iload 3, 15, .iload_n 3, 1, 0),
  (.ifCond .eq 55, 16, .ifCond .eq 87, 3, 0),
  (.aload 0, 19, .aload_n 0, 1, 0),
  (.invokestatic 158, 20, .invokevirtual 254, 3, 1169),
  (.istore 4, 23, .istore 4, 2, 0),
  (.aload 0, 25, .aload_n 0, 1, 0),
  (.getfield 732, 26, .getfield 248, 3, 885),
  (.ifCond .lt 22, 29, .ifCond .lt 12, 3, 0),
  (.iload 4, 32, .iload 4, 2, 0),
  (.aload 0, 34, .aload_n 0, 1, 0),
  (.getfield 732, 35, .getfield 248, 3, 885),
  (.if_icmp .ge 51, 38, .if_icmp .ge 57, 3, 0),
  (.aload 0, 41, .aload_n 0, 1, 0),
  (.invokestatic 131, 42, .invokevirtual 184, 3, 1038),
  (.aload 0, 45, .aload_n 0, 1, 0),
  (.iload 1, 46, .iload_n 1, 1, 0),
  (.iload 2, 47, .iload_n 2, 1, 0),
  (.invokestatic 159, 48, .invokevirtual 257, 3, 1177),
  (.ifCond .eq 51, 51, .ifCond .eq 44, 3, 0),
  (.aload 0, 54, .aload_n 0, 1, 0),
  (.iload 4, 55, .iload 4, 2, 0),
  (.putfield 732, 57, .putfield 248, 3, 885),
  (.iconst 0, 60, .iconst 0, 1, 0),
  (.istore 5, 61, .istore 5, 2, 0),
  (.nop, 63, .iload 5, 0, 0),
  (.iload 5, 63, .iload 5, 2, 0),
  (.aload 0, 65, .aload_n 0, 1, 0),
  (.getfield 710, 66, .getfield 19, 3, 863),
  (.iconst 6, 69, .bipush 6, 2, 0),
  (.iaload, 71, .iaload, 1, 0),
  (.if_icmp .ge 51, 72, .if_icmp .ge 23, 3, 0),
  (.aload 0, 75, .aload_n 0, 1, 0),
  (.getfield 731, 76, .getfield 59, 3, 884),
  (.iload 5, 79, .iload 5, 2, 0),
  (.aload 0, 81, .aload_n 0, 1, 0),
  (.getfield 710, 82, .getfield 19, 3, 863),
  (.iload 5, 85, .iload 5, 2, 0),
  (.iaload, 87, .iaload, 1, 0),
  (.iastore, 88, .iastore, 1, 0),
  (.iinc 5 1, 89, .iinc 5 1, 3, 0),
  (.goto 34, 92, .goto (-29), 3, 0),
  (.aload 0, 95, .aload_n 0, 1, 0),
  (.invokestatic 156, 96, .invokevirtual 260, 3, 1181),
  (.istore 3, 99, .istore_n 3, 1, 0),
  (.goto 9, 100, .goto (-85), 3, 0),
  (.aload 0, 103, .aload_n 0, 1, 0),
  (.invokestatic 153, 104, .invokevirtual 263, 3, 1189),
  (.return_, 107, .return_, 1, 0)]
/-- 161: WakeOrderModel.raise(III)I -/
def lr161 : List LRow := [(.iload 1, 0, .iload_n 1, 1, 0),
  (.i2l, 1, .i2l, 1, 0),
  (.jsr_w 0, 2, .lconst 0, 1, 0),
  (.iconst 1, 3, .iconst 1, 1, 0),
  (.aload 0, 4, .aload_n 0, 1, 0),
  (.getfield 706, 5, .getfield 97, 3, 859),
  (.ishl, 8, .ishl, 1, 0),
  (.iconst 1, 9, .iconst 1, 1, 0),
  (.isub, 10, .isub, 1, 0),
  (.i2l, 11, .i2l, 1, 0),
  (.invokestatic 110, 12, .invokestatic 93, 3, 983),
  (.ifCond .ne 14, 15, .ifCond .ne 6, 3, 0),
  (.iconst (-1000000001), 18, .ldc 197, 2, 1077),
  (.ireturn, 20, .ireturn, 1, 0),
  (.iload 2, 21, .iload_n 2, 1, 0),
  (.i2l, 22, .i2l, 1, 0),
  (.jsr_w 0, 23, .lconst 0, 1, 0),
  (.jsr_w 999, 24, .ldc2_w 222, 3, 1135),
  (.invokestatic 110, 27, .invokestatic 93, 3, 983),
  (.ifCond .ne 22, 30, .ifCond .ne 6, 3, 0),
  (.iconst (-1000000002), 33, .ldc 102, 2, 986),
  (.ireturn, 35, .ireturn, 1, 0),
  (.aload 0, 36, .aload_n 0, 1, 0),
  (.iload 1, 37, .iload_n 1, 1, 0),
  (.iload 2, 38, .iload_n 2, 1, 0),
  (.invokestatic 160, 39, .invokevirtual 266, 3, 1157),
  (.aload 0, 42, .aload_n 0, 1, 0),
  (.getfield 732, 43, .getfield 248, 3, 885),
  (.ifCond .lt 32, 46, .ifCond .lt 8, 3, 0),
  (.iload 3, 49, .iload_n 3, 1, 0),
  (.iconst (-1), 50, .iconst (-1), 1, 0),
  (.if_icmp .ne 35, 51, .if_icmp .ne 10, 3, 0),
  (.aload 0, 54, .aload_n 0, 1, 0),
  (.getfield 732, 55, .getfield 248, 3, 885),
  (.goto 53, 58, .goto 32, 3, 0),
  (.iload 3, 61, .iload_n 3, 1, 0),
  (.i2l, 62, .i2l, 1, 0),
  (.jsr_w 0, 63, .lconst 0, 1, 0),
  (.aload 0, 64, .aload_n 0, 1, 0),
  (.getfield 710, 65, .getfield 19, 3, 863),
  (.iconst 6, 68, .bipush 6, 2, 0),
  (.iaload, 70, .iaload, 1, 0),
  (.iconst 1, 71, .iconst 1, 1, 0),
  (.isub, 72, .isub, 1, 0),
  (.i2l, 73, .i2l, 1, 0),
  (.invokestatic 110, 74, .invokestatic 93, 3, 983),
  (.ifCond .eq 52, 77, .ifCond .eq 12, 3, 0),
  (.aload 0, 80, .aload_n 0, 1, 0),
  (.getfield 731, 81, .getfield 59, 3, 884),
  (.iload 3, 84, .iload_n 3, 1, 0),
  (.iaload, 85, .iaload, 1, 0),
  (.goto 53, 86, .goto 4, 3, 0),
  (.iconst (-1), 89, .iconst (-1), 1, 0),
  (.ireturn, 90, .ireturn, 1, 0)]
/-- 162: WakeOrderModel.allUpsBut(I)I -/
def lr162 : List LRow := [(.iconst 0, 0, .iconst 0, 1, 0),
  (.istore 2, 1, .istore_n 2, 1, 0),
  (.iconst 0, 2, .iconst 0, 1, 0),
  (.istore 3, 3, .istore_n 3, 1, 0),
  (.nop, 4, .iload_n 3, 0, 0),
  (.iload 3, 4, .iload_n 3, 1, 0),
  (.aload 0, 5, .aload_n 0, 1, 0),
  (.getfield 710, 6, .getfield 19, 3, 863),
  (.iconst 6, 9, .bipush 6, 2, 0),
  (.iaload, 11, .iaload, 1, 0),
  (.if_icmp .ge 39, 12, .if_icmp .ge 56, 3, 0),
  (.aload 0, 15, .aload_n 0, 1, 0),
  (.getfield 710, 16, .getfield 19, 3, 863),
  (.iload 3, 19, .iload_n 3, 1, 0),
  (.iaload, 20, .iaload, 1, 0),
  (.istore 4, 21, .istore 4, 2, 0),
  (.iload 2, 23, .iload_n 2, 1, 0),
  (.iload 4, 24, .iload 4, 2, 0),
  (.iload 1, 26, .iload_n 1, 1, 0),
  (.if_icmp .ne 22, 27, .if_icmp .ne 7, 3, 0),
  (.iconst 0, 30, .iconst 0, 1, 0),
  (.goto 35, 31, .goto 29, 3, 0),
  (.aload 0, 34, .aload_n 0, 1, 0),
  (.getfield 726, 35, .getfield 47, 3, 879),
  (.iload 4, 38, .iload 4, 2, 0),
  (.iaload, 40, .iaload, 1, 0),
  (.iconst 1000000, 41, .ldc 165, 2, 1042),
  (.if_icmp .ne 31, 43, .if_icmp .ne 10, 3, 0),
  (.aload 0, 46, .aload_n 0, 1, 0),
  (.getfield 704, 47, .getfield 87, 3, 857),
  (.goto 35, 50, .goto 10, 3, 0),
  (.aload 0, 53, .aload_n 0, 1, 0),
  (.getfield 726, 54, .getfield 47, 3, 879),
  (.iload 4, 57, .iload 4, 2, 0),
  (.iaload, 59, .iaload, 1, 0),
  (.iadd, 60, .iadd, 1, 0),
  (.istore 2, 61, .istore_n 2, 1, 0),
  (.iinc 3 1, 62, .iinc 3 1, 3, 0),
  (.goto 4, 65, .goto (-61), 3, 0),
  (.iload 2, 68, .iload_n 2, 1, 0),
  (.ireturn, 69, .ireturn, 1, 0)]
/-- 163: WakeOrderModel.leastHarm(II)I -/
def lr163 : List LRow := [(.aload 0, 0, .aload_n 0, 1, 0),
  (.iload 1, 1, .iload_n 1, 1, 0),
  (.invokestatic 113, 2, .invokevirtual 193, 3, 1073),
  (.ifCond .ne 6, 5, .ifCond .ne 6, 3, 0),
  (.iconst (-1000000001), 8, .ldc 197, 2, 1077),
  (.ireturn, 10, .ireturn, 1, 0),
  (.iload 2, 11, .iload_n 2, 1, 0),
  (.i2l, 12, .i2l, 1, 0),
  (.jsr_w 0, 13, .lconst 0, 1, 0),
  (.jsr_w 1, 14, .lconst 1, 1, 0),
  (.invokestatic 110, 15, .invokestatic 93, 3, 983),
  (.ifCond .ne 14, 18, .ifCond .ne 6, 3, 0),
  (.iconst (-1000000002), 21, .ldc 102, 2, 986),
  (.ireturn, 23, .ireturn, 1, 0),
  (.aload 0, 24, .aload_n 0, 1, 0),
  (.iload 1, 25, .iload_n 1, 1, 0),
  (.invokestatic 135, 26, .invokevirtual 198, 3, 1078),
  (.istore 3, 29, .istore_n 3, 1, 0),
  (.iload 3, 30, .iload_n 3, 1, 0),
  (.ifCond .ge 22, 31, .ifCond .ge 5, 3, 0),
  (.iconst (-1), 34, .iconst (-1), 1, 0),
  (.ireturn, 35, .ireturn, 1, 0),
  (.aload 0, 36, .aload_n 0, 1, 0),
  (.invokestatic 152, 37, .invokevirtual 245, 3, 1161),
  (.iconst (-1), 40, .iconst (-1), 1, 0),
  (.istore 4, 41, .istore 4, 2, 0),
  (.iconst 0, 43, .iconst 0, 1, 0),
  (.istore 5, 44, .istore 5, 2, 0),
  (.iconst 0, 46, .iconst 0, 1, 0),
  (.istore 6, 47, .istore 6, 2, 0),
  (.nop, 49, .iload 6, 0, 0),
  (.iload 6, 49, .iload 6, 2, 0),
  (.aload 0, 51, .aload_n 0, 1, 0),
  (.getfield 730, 52, .getfield 56, 3, 883),
  (.iconst 6, 55, .bipush 6, 2, 0),
  (.iaload, 57, .iaload, 1, 0),
  (.if_icmp .ge 75, 58, .if_icmp .ge 83, 3, 0),
  (.aload 0, 61, .aload_n 0, 1, 0),
  (.iload 3, 62, .iload_n 3, 1, 0),
  (.invokestatic 141, 63, .invokevirtual 211, 3, 1107),
  (.aload 0, 66, .aload_n 0, 1, 0),
  (.iload 1, 67, .iload_n 1, 1, 0),
  (.iload 6, 68, .iload 6, 2, 0),
  (.invokestatic 142, 70, .invokevirtual 215, 3, 1111),
  (.aload 0, 73, .aload_n 0, 1, 0),
  (.invokestatic 131, 74, .invokevirtual 184, 3, 1038),
  (.aload 0, 77, .aload_n 0, 1, 0),
  (.iload 1, 78, .iload_n 1, 1, 0),
  (.invokestatic 162, 79, .invokevirtual 269, 3, 1197),
  (.istore 7, 82, .istore 7, 2, 0),
  (.iload 4, 84, .iload 4, 2, 0),
  (.ifCond .lt 55, 86, .ifCond .lt 10, 3, 0),
  (.iload 7, 89, .iload 7, 2, 0),
  (.iload 5, 91, .iload 5, 2, 0),
  (.if_icmp .ge 57, 93, .if_icmp .ge 7, 3, 0),
  (.iconst 1, 96, .iconst 1, 1, 0),
  (.goto 58, 97, .goto 4, 3, 0),
  (.iconst 0, 100, .iconst 0, 1, 0),
  (.istore 8, 101, .istore 8, 2, 0),
  (.iload 8, 103, .iload 8, 2, 0),
  (.ifCond .eq 63, 105, .ifCond .eq 8, 3, 0),
  (.iload 6, 108, .iload 6, 2, 0),
  (.goto 64, 110, .goto 5, 3, 0),
  (.iload 4, 113, .iload 4, 2, 0),
  (.istore 4, 115, .istore 4, 2, 0),
  (.iload 8, 117, .iload 8, 2, 0),
  (.ifCond .eq 69, 119, .ifCond .eq 8, 3, 0),
  (.iload 7, 122, .iload 7, 2, 0),
  (.goto 70, 124, .goto 5, 3, 0),
  (.iload 5, 127, .iload 5, 2, 0),
  (.istore 5, 129, .istore 5, 2, 0),
  (.aload 0, 131, .aload_n 0, 1, 0),
  (.invokestatic 153, 132, .invokevirtual 263, 3, 1189),
  (.iinc 6 1, 135, .iinc 6 1, 3, 0),
  (.goto 30, 138, .goto (-89), 3, 0),
  (.iload 2, 141, .iload_n 2, 1, 0),
  (.ifCond .ne 79, 142, .ifCond .ne 8, 3, 0),
  (.iload 4, 145, .iload 4, 2, 0),
  (.goto 80, 147, .goto 5, 3, 0),
  (.iload 5, 150, .iload 5, 2, 0),
  (.ireturn, 152, .ireturn, 1, 0)]
/-- 164: WakeOrderModel.doneOrLast(I)I -/
def lr164 : List LRow := [(.aload 0, 0, .aload_n 0, 1, 0),
  (.getfield 727, 1, .getfield 50, 3, 880),
  (.iload 1, 4, .iload_n 1, 1, 0),
  (.iaload, 5, .iaload, 1, 0),
  (.iconst 1000000, 6, .ldc 165, 2, 1042),
  (.if_icmp .ne 9, 8, .if_icmp .ne 10, 3, 0),
  (.aload 0, 11, .aload_n 0, 1, 0),
  (.getfield 704, 12, .getfield 87, 3, 857),
  (.goto 13, 15, .goto 9, 3, 0),
  (.aload 0, 18, .aload_n 0, 1, 0),
  (.getfield 727, 19, .getfield 50, 3, 880),
  (.iload 1, 22, .iload_n 1, 1, 0),
  (.iaload, 23, .iaload, 1, 0),
  (.ireturn, 24, .ireturn, 1, 0)]
/-- 165: WakeOrderModel.bread(I)I -/
def lr165 : List LRow := [(.aload 0, 0, .aload_n 0, 1, 0),
  (.iload 1, 1, .iload_n 1, 1, 0),
  (.invokestatic 114, 2, .invokevirtual 204, 3, 1090),
  (.ifCond .ne 6, 5, .ifCond .ne 6, 3, 0),
  (.iconst (-1000000001), 8, .ldc 197, 2, 1077),
  (.ireturn, 10, .ireturn, 1, 0),
  (.aload 0, 11, .aload_n 0, 1, 0),
  (.invokestatic 131, 12, .invokevirtual 184, 3, 1038),
  (.aload 0, 15, .aload_n 0, 1, 0),
  (.iload 1, 16, .iload_n 1, 1, 0),
  (.invokestatic 164, 17, .invokevirtual 272, 3, 1205),
  (.istore 2, 20, .istore_n 2, 1, 0),
  (.aload 0, 21, .aload_n 0, 1, 0),
  (.getfield 710, 22, .getfield 19, 3, 863),
  (.iconst 7, 25, .bipush 7, 2, 0),
  (.iaload, 27, .iaload, 1, 0),
  (.istore 3, 28, .istore_n 3, 1, 0),
  (.aload 0, 29, .aload_n 0, 1, 0),
  (.getfield 710, 30, .getfield 19, 3, 863),
  (.iconst 7, 33, .bipush 7, 2, 0),
  (.iconst 1, 35, .iconst 1, 1, 0),
  (.aload 0, 36, .aload_n 0, 1, 0),
  (.getfield 705, 37, .getfield 90, 3, 858),
  (.ishl, 40, .ishl, 1, 0),
  (.iconst 1, 41, .iconst 1, 1, 0),
  (.isub, 42, .isub, 1, 0),
  (.iastore, 43, .iastore, 1, 0),
  (.aload 0, 44, .aload_n 0, 1, 0),
  (.invokestatic 131, 45, .invokevirtual 184, 3, 1038),
  (.aload 0, 48, .aload_n 0, 1, 0),
  (.getfield 710, 49, .getfield 19, 3, 863),
  (.iconst 7, 52, .bipush 7, 2, 0),
  (.iload 3, 54, .iload_n 3, 1, 0),
  (.iastore, 55, .iastore, 1, 0),
  (.iload 2, 56, .iload_n 2, 1, 0),
  (.aload 0, 57, .aload_n 0, 1, 0),
  (.iload 1, 58, .iload_n 1, 1, 0),
  (.invokestatic 164, 59, .invokevirtual 272, 3, 1205),
  (.isub, 62, .isub, 1, 0),
  (.ireturn, 63, .ireturn, 1, 0)]
/-- 166: WakeOrderModel.free(I)I -/
def lr166 : List LRow := [(.iload 1, 0, .iload_n 1, 1, 0),
  (.i2l, 1, .i2l, 1, 0),
  (.jsr_w 0, 2, .lconst 0, 1, 0),
  (.jsr_w 1, 3, .lconst 1, 1, 0),
  (.invokestatic 110, 4, .invokestatic 93, 3, 983),
  (.ifCond .ne 8, 7, .ifCond .ne 6, 3, 0),
  (.iconst (-1000000002), 10, .ldc 102, 2, 986),
  (.ireturn, 12, .ireturn, 1, 0),
  (.aload 0, 13, .aload_n 0, 1, 0),
  (.invokestatic 152, 14, .invokevirtual 245, 3, 1161),
  (.iconst (-1), 17, .iconst (-1), 1, 0),
  (.istore 2, 18, .istore_n 2, 1, 0),
  (.iconst 0, 19, .iconst 0, 1, 0),
  (.istore 3, 20, .istore_n 3, 1, 0),
  (.nop, 21, .iload_n 3, 0, 0),
  (.iload 3, 21, .iload_n 3, 1, 0),
  (.iconst 1, 22, .iconst 1, 1, 0),
  (.aload 0, 23, .aload_n 0, 1, 0),
  (.getfield 705, 24, .getfield 90, 3, 858),
  (.ishl, 27, .ishl, 1, 0),
  (.if_icmp .ge 64, 28, .if_icmp .ge 90, 3, 0),
  (.iload 3, 31, .iload_n 3, 1, 0),
  (.aload 0, 32, .aload_n 0, 1, 0),
  (.getfield 730, 33, .getfield 56, 3, 883),
  (.iconst 8, 36, .bipush 8, 2, 0),
  (.iaload, 38, .iaload, 1, 0),
  (.iand, 39, .iand, 1, 0),
  (.ifCond .ne 62, 40, .ifCond .ne 72, 3, 0),
  (.iload 2, 43, .iload_n 2, 1, 0),
  (.ifCond .lt 35, 44, .ifCond .lt 14, 3, 0),
  (.iload 3, 47, .iload_n 3, 1, 0),
  (.invokestatic 112, 48, .invokestatic 275, 3, 1213),
  (.iload 2, 51, .iload_n 2, 1, 0),
  (.invokestatic 112, 52, .invokestatic 275, 3, 1213),
  (.if_icmp .ge 62, 55, .if_icmp .ge 57, 3, 0),
  (.iconst 0, 58, .iconst 0, 1, 0),
  (.istore 4, 59, .istore 4, 2, 0),
  (.nop, 61, .iload 4, 0, 0),
  (.iload 4, 61, .iload 4, 2, 0),
  (.aload 0, 63, .aload_n 0, 1, 0),
  (.getfield 705, 64, .getfield 90, 3, 858),
  (.if_icmp .ge 51, 67, .if_icmp .ge 24, 3, 0),
  (.iload 3, 70, .iload_n 3, 1, 0),
  (.iload 4, 71, .iload 4, 2, 0),
  (.invokestatic 111, 73, .invokestatic 169, 3, 1050),
  (.ifCond .eq 49, 76, .ifCond .eq 9, 3, 0),
  (.aload 0, 79, .aload_n 0, 1, 0),
  (.iload 4, 80, .iload 4, 2, 0),
  (.invokestatic 146, 82, .invokevirtual 219, 3, 1127),
  (.iinc 4 1, 85, .iinc 4 1, 3, 0),
  (.goto 37, 88, .goto (-27), 3, 0),
  (.aload 0, 91, .aload_n 0, 1, 0),
  (.invokestatic 131, 92, .invokevirtual 184, 3, 1038),
  (.aload 0, 95, .aload_n 0, 1, 0),
  (.invokestatic 132, 96, .invokevirtual 187, 3, 1061),
  (.ifCond .ne 58, 99, .ifCond .ne 7, 3, 0),
  (.iload 3, 102, .iload_n 3, 1, 0),
  (.goto 59, 103, .goto 4, 3, 0),
  (.iload 2, 106, .iload_n 2, 1, 0),
  (.istore 2, 107, .istore_n 2, 1, 0),
  (.aload 0, 108, .aload_n 0, 1, 0),
  (.invokestatic 153, 109, .invokevirtual 263, 3, 1189),
  (.iinc 3 1, 112, .iinc 3 1, 3, 0),
  (.goto 14, 115, .goto (-94), 3, 0),
  (.iload 1, 118, .iload_n 1, 1, 0),
  (.ifCond .ne 69, 119, .ifCond .ne 10, 3, 0),
  (.iload 2, 122, .iload_n 2, 1, 0),
  (.invokestatic 112, 123, .invokestatic 275, 3, 1213),
  (.goto 70, 126, .goto 4, 3, 0),
  (.iload 2, 129, .iload_n 2, 1, 0),
  (.ireturn, 130, .ireturn, 1, 0)]
/-- 167: WakeOrderModel.sleeps(II)I -/
def lr167 : List LRow := [(.iload 1, 0, .iload_n 1, 1, 0),
  (.i2l, 1, .i2l, 1, 0),
  (.jsr_w 0, 2, .lconst 0, 1, 0),
  (.jsr_w 60, 3, .ldc2_w 278, 3, 1220),
  (.invokestatic 110, 6, .invokestatic 93, 3, 983),
  (.ifCond .eq 12, 9, .ifCond .eq 15, 3, 0),
  (.iload 2, 12, .iload_n 2, 1, 0),
  (.i2l, 13, .i2l, 1, 0),
  (.jsr_w 0, 14, .lconst 0, 1, 0),
  (.jsr_w 100, 15, .ldc2_w 280, 3, 1221),
  (.invokestatic 110, 18, .invokestatic 93, 3, 983),
  (.ifCond .ne 14, 21, .ifCond .ne 6, 3, 0),
  (.iconst (-1000000002), 24, .ldc 102, 2, 986),
  (.ireturn, 26, .ireturn, 1, 0),
  (.jsr_w 1000000000, 27, .ldc2_w 282, 3, 1222),
  (.lstore 3, 30, .lstore_n 3, 1, 0),
  (.iconst 0, 31, .iconst 0, 1, 0),
  (.istore 5, 32, .istore 5, 2, 0),
  (.nop, 34, .iload 5, 0, 0),
  (.iload 5, 34, .iload 5, 2, 0),
  (.iload 1, 36, .iload_n 1, 1, 0),
  (.if_icmp .ge 33, 37, .if_icmp .ge 21, 3, 0),
  (.lload 3, 40, .lload_n 3, 1, 0),
  (.iconst 100, 41, .bipush 100, 2, 0),
  (.iload 2, 43, .iload_n 2, 1, 0),
  (.isub, 44, .isub, 1, 0),
  (.i2l, 45, .i2l, 1, 0),
  (.lmul, 46, .lmul, 1, 0),
  (.jsr_w 100, 47, .ldc2_w 280, 3, 1221),
  (.ldiv, 50, .ldiv, 1, 0),
  (.lstore 3, 51, .lstore_n 3, 1, 0),
  (.iinc 5 1, 52, .iinc 5 1, 3, 0),
  (.goto 18, 55, .goto (-21), 3, 0),
  (.lload 3, 58, .lload_n 3, 1, 0),
  (.l2i, 59, .l2i, 1, 0),
  (.ireturn, 60, .ireturn, 1, 0)]
/-- 168: WakeOrderModel.see(II)I -/
def lr168 : List LRow := [(.aload 0, 0, .aload_n 0, 1, 0),
  (.iload 1, 1, .iload_n 1, 1, 0),
  (.invokestatic 113, 2, .invokevirtual 193, 3, 1073),
  (.ifCond .eq 11, 5, .ifCond .eq 16, 3, 0),
  (.aload 0, 8, .aload_n 0, 1, 0),
  (.iload 2, 9, .iload_n 2, 1, 0),
  (.invokestatic 113, 10, .invokevirtual 193, 3, 1073),
  (.ifCond .eq 11, 13, .ifCond .eq 8, 3, 0),
  (.iload 1, 16, .iload_n 1, 1, 0),
  (.iload 2, 17, .iload_n 2, 1, 0),
  (.if_icmp .ne 13, 18, .if_icmp .ne 6, 3, 0),
  (.iconst (-1000000001), 21, .ldc 197, 2, 1077),
  (.ireturn, 23, .ireturn, 1, 0),
  (.aload 0, 24, .aload_n 0, 1, 0),
  (.getfield 733, 25, .getfield 156, 3, 886),
  (.iconst 6, 28, .bipush 6, 2, 0),
  (.if_icmp .ne 19, 30, .if_icmp .ne 6, 3, 0),
  (.iconst (-1000000004), 33, .ldc 106, 2, 987),
  (.ireturn, 35, .ireturn, 1, 0),
  (.aload 0, 36, .aload_n 0, 1, 0),
  (.getfield 734, 37, .getfield 62, 3, 887),
  (.aload 0, 40, .aload_n 0, 1, 0),
  (.getfield 733, 41, .getfield 156, 3, 886),
  (.iload 1, 44, .iload_n 1, 1, 0),
  (.iastore, 45, .iastore, 1, 0),
  (.aload 0, 46, .aload_n 0, 1, 0),
  (.getfield 735, 47, .getfield 65, 3, 888),
  (.aload 0, 50, .aload_n 0, 1, 0),
  (.getfield 733, 51, .getfield 156, 3, 886),
  (.iload 2, 54, .iload_n 2, 1, 0),
  (.iastore, 55, .iastore, 1, 0),
  (.aload 0, 56, .aload_n 0, 1, 0),
  (.dup, 57, .dup, 1, 0),
  (.getfield 733, 58, .getfield 156, 3, 886),
  (.iconst 1, 61, .iconst 1, 1, 0),
  (.iadd, 62, .iadd, 1, 0),
  (.putfield 733, 63, .putfield 156, 3, 886),
  (.aload 0, 66, .aload_n 0, 1, 0),
  (.getfield 733, 67, .getfield 156, 3, 886),
  (.ireturn, 70, .ireturn, 1, 0)]
/-- 169: WakeOrderModel.allSeen()Z -/
def lr169 : List LRow := [(.iconst 1, 0, .iconst 1, 1, 0),
  (.istore 1, 1, .istore_n 1, 1, 0),
  (.iconst 0, 2, .iconst 0, 1, 0),
  (.istore 2, 3, .istore_n 2, 1, 0),
  (.nop, 4, .iload_n 2, 0, 0),
  (.iload 2, 4, .iload_n 2, 1, 0),
  (.aload 0, 5, .aload_n 0, 1, 0),
  (.getfield 733, 6, .getfield 156, 3, 886),
  (.if_icmp .ge 32, 9, .if_icmp .ge 44, 3, 0),
  (.iload 1, 12, .iload_n 1, 1, 0),
  (.ifCond .eq 28, 13, .ifCond .eq 32, 3, 0),
  (.aload 0, 16, .aload_n 0, 1, 0),
  (.getfield 726, 17, .getfield 47, 3, 879),
  (.aload 0, 20, .aload_n 0, 1, 0),
  (.getfield 734, 21, .getfield 62, 3, 887),
  (.iload 2, 24, .iload_n 2, 1, 0),
  (.iaload, 25, .iaload, 1, 0),
  (.iaload, 26, .iaload, 1, 0),
  (.aload 0, 27, .aload_n 0, 1, 0),
  (.getfield 726, 28, .getfield 47, 3, 879),
  (.aload 0, 31, .aload_n 0, 1, 0),
  (.getfield 735, 32, .getfield 65, 3, 888),
  (.iload 2, 35, .iload_n 2, 1, 0),
  (.iaload, 36, .iaload, 1, 0),
  (.iaload, 37, .iaload, 1, 0),
  (.if_icmp .ge 28, 38, .if_icmp .ge 7, 3, 0),
  (.iconst 1, 41, .iconst 1, 1, 0),
  (.goto 29, 42, .goto 4, 3, 0),
  (.iconst 0, 45, .iconst 0, 1, 0),
  (.istore 1, 46, .istore_n 1, 1, 0),
  (.iinc 2 1, 47, .iinc 2 1, 3, 0),
  (.goto 4, 50, .goto (-46), 3, 0),
  (.iload 1, 53, .iload_n 1, 1, 0),
  (.areturn, 54, .ireturn, 1, 0)]
/-- 170: WakeOrderModel.countOrder()V -/
def lr170 : List LRow := [(.iconst 0, 0, .iconst 0, 1, 0),
  (.istore 1, 1, .istore_n 1, 1, 0),
  (.nop, 2, .iload_n 1, 0, 0),
  (.iload 1, 2, .iload_n 1, 1, 0),
  (.aload 0, 3, .aload_n 0, 1, 0),
  (.getfield 710, 4, .getfield 19, 3, 863),
  (.iconst 6, 7, .bipush 6, 2, 0),
  (.iaload, 9, .iaload, 1, 0),
  (.if_icmp .ge 32, 10, .if_icmp .ge 45, 3, 0),
  (.aload 0, 13, .aload_n 0, 1, 0),
  (.getfield 710, 14, .getfield 19, 3, 863),
  (.iload 1, 17, .iload_n 1, 1, 0),
  (.iaload, 18, .iaload, 1, 0),
  (.istore 2, 19, .istore_n 2, 1, 0),
  (.aload 0, 20, .aload_n 0, 1, 0),
  (.getfield 737, 21, .getfield 68, 3, 890),
  (.iload 2, 24, .iload_n 2, 1, 0),
  (.aload 0, 25, .aload_n 0, 1, 0),
  (.getfield 736, 26, .getfield 284, 3, 889),
  (.ifCond .eq 26, 29, .ifCond .eq 13, 3, 0),
  (.aload 0, 32, .aload_n 0, 1, 0),
  (.getfield 737, 33, .getfield 68, 3, 890),
  (.iload 2, 36, .iload_n 2, 1, 0),
  (.iaload, 37, .iaload, 1, 0),
  (.iload 1, 38, .iload_n 1, 1, 0),
  (.if_icmp .ne 28, 39, .if_icmp .ne 7, 3, 0),
  (.iload 1, 42, .iload_n 1, 1, 0),
  (.goto 29, 43, .goto 5, 3, 0),
  (.iconst 6, 46, .bipush 6, 2, 0),
  (.iastore, 48, .iastore, 1, 0),
  (.iinc 1 1, 49, .iinc 1 1, 3, 0),
  (.goto 2, 52, .goto (-50), 3, 0),
  (.iconst 0, 55, .iconst 0, 1, 0),
  (.istore 1, 56, .istore_n 1, 1, 0),
  (.nop, 57, .iload_n 1, 0, 0),
  (.iload 1, 57, .iload_n 1, 1, 0),
  (.iconst 36, 58, .bipush 36, 2, 0),
  (.if_icmp .ge 63, 60, .if_icmp .ge 44, 3, 0),
  (.aload 0, 63, .aload_n 0, 1, 0),
  (.getfield 738, 64, .getfield 71, 3, 891),
  (.iload 1, 67, .iload_n 1, 1, 0),
  (.dup2, 68, .dup2, 1, 0),
  (.iaload, 69, .iaload, 1, 0),
  (.aload 0, 70, .aload_n 0, 1, 0),
  (.getfield 726, 71, .getfield 47, 3, 879),
  (.iload 1, 74, .iload_n 1, 1, 0),
  (.iconst 6, 75, .bipush 6, 2, 0),
  (.idiv, 77, .idiv, 1, 0),
  (.iaload, 78, .iaload, 1, 0),
  (.aload 0, 79, .aload_n 0, 1, 0),
  (.getfield 726, 80, .getfield 47, 3, 879),
  (.iload 1, 83, .iload_n 1, 1, 0),
  (.iconst 6, 84, .bipush 6, 2, 0),
  (.irem, 86, .irem, 1, 0),
  (.iaload, 87, .iaload, 1, 0),
  (.if_icmp .ge 58, 88, .if_icmp .ge 7, 3, 0),
  (.iconst 1, 91, .iconst 1, 1, 0),
  (.goto 59, 92, .goto 4, 3, 0),
  (.iconst 0, 95, .iconst 0, 1, 0),
  (.iadd, 96, .iadd, 1, 0),
  (.iastore, 97, .iastore, 1, 0),
  (.iinc 1 1, 98, .iinc 1 1, 3, 0),
  (.goto 34, 101, .goto (-44), 3, 0),
  (.aload 0, 104, .aload_n 0, 1, 0),
  (.dup, 105, .dup, 1, 0),
  (.getfield 736, 106, .getfield 284, 3, 889),
  (.iconst 1, 109, .iconst 1, 1, 0),
  (.iadd, 110, .iadd, 1, 0),
  (.putfield 736, 111, .putfield 284, 3, 889),
  (.return_, 114, .return_, 1, 0)]
/-- 171: WakeOrderModel.findOrders()V -/
def lr171 : List LRow := [(.aload 0, 0, .aload_n 0, 1, 0),
  (.iconst 0, 1, .iconst 0, 1, 0),
  (.putfield 736, 2, .putfield 284, 3, 889),
  (.iconst 0, 5, .iconst 0, 1, 0),
  (.istore 1, 6, .istore_n 1, 1, 0),
  (.nop, 7, .iload_n 1, 0, 0),
  (.iload 1, 7, .iload_n 1, 1, 0),
  (.iconst 36, 8, .bipush 36, 2, 0),
  (.if_icmp .ge 16, 10, .if_icmp .ge 16, 3, 0),
  (.aload 0, 13, .aload_n 0, 1, 0),
  (.getfield 738, 14, .getfield 71, 3, 891),
  (.iload 1, 17, .iload_n 1, 1, 0),
  (.iconst 0, 18, .iconst 0, 1, 0),
  (.iastore, 19, .iastore, 1, 0),
  (.iinc 1 1, 20, .iinc 1 1, 3, 0),
  (.goto 5, 23, .goto (-16), 3, 0),
  (.aload 0, 26, .aload_n 0, 1, 0),
  (.invokestatic 152, 27, .invokevirtual 245, 3, 1161),
  (.aload 0, 30, .aload_n 0, 1, 0),
  (.invokestatic 154, 31, .invokevirtual 251, 3, 1165),
  (.iconst 1, 34, .iconst 1, 1, 0),
  (.istore 1, 35, .istore_n 1, 1, 0),
  (.nop, 36, .iload_n 1, 0, 0),
  (.iload 1, 36, .iload_n 1, 1, 0),
  (.ifCond .eq 36, 37, .ifCond .eq 26, 3, 0),
  (.aload 0, 40, .aload_n 0, 1, 0),
  (.invokestatic 131, 41, .invokevirtual 184, 3, 1038),
  (.aload 0, 44, .aload_n 0, 1, 0),
  (.invokestatic 169, 45, .invokevirtual 287, 3, 1235),
  (.ifCond .eq 32, 48, .ifCond .eq 7, 3, 0),
  (.aload 0, 51, .aload_n 0, 1, 0),
  (.invokestatic 170, 52, .invokevirtual 290, 3, 1239),
  (.aload 0, 55, .aload_n 0, 1, 0),
  (.invokestatic 156, 56, .invokevirtual 260, 3, 1181),
  (.istore 1, 59, .istore_n 1, 1, 0),
  (.goto 22, 60, .goto (-24), 3, 0),
  (.aload 0, 63, .aload_n 0, 1, 0),
  (.invokestatic 153, 64, .invokevirtual 263, 3, 1189),
  (.return_, 67, .return_, 1, 0)]
/-- 172: WakeOrderModel.orders(I)I -/
def lr172 : List LRow := [(.iload 1, 0, .iload_n 1, 1, 0),
  (.iconst (-1), 1, .iconst (-1), 1, 0),
  (.if_icmp .eq 9, 2, .if_icmp .eq 14, 3, 0),
  (.aload 0, 5, .aload_n 0, 1, 0),
  (.iload 1, 6, .iload_n 1, 1, 0),
  (.invokestatic 113, 7, .invokevirtual 193, 3, 1073),
  (.ifCond .ne 9, 10, .ifCond .ne 6, 3, 0),
  (.iconst (-1000000001), 13, .ldc 197, 2, 1077),
  (.ireturn, 15, .ireturn, 1, 0),
  (.aload 0, 16, .aload_n 0, 1, 0),
  (.invokestatic 171, 17, .invokevirtual 293, 3, 1231),
  (.iload 1, 20, .iload_n 1, 1, 0),
  (.iconst (-1), 21, .iconst (-1), 1, 0),
  (.if_icmp .ne 17, 22, .if_icmp .ne 8, 3, 0),
  (.aload 0, 25, .aload_n 0, 1, 0),
  (.getfield 736, 26, .getfield 284, 3, 889),
  (.ireturn, 29, .ireturn, 1, 0),
  (.aload 0, 30, .aload_n 0, 1, 0),
  (.getfield 736, 31, .getfield 284, 3, 889),
  (.ifCond .eq 33, 34, .ifCond .eq 28, 3, 0),
  (.aload 0, 37, .aload_n 0, 1, 0),
  (.getfield 710, 38, .getfield 19, 3, 863),
  (.iconst 8, 41, .bipush 8, 2, 0),
  (.iaload, 43, .iaload, 1, 0),
  (.iload 1, 44, .iload_n 1, 1, 0),
  (.invokestatic 111, 45, .invokestatic 169, 3, 1050),
  (.ifCond .ne 33, 48, .ifCond .ne 14, 3, 0),
  (.aload 0, 51, .aload_n 0, 1, 0),
  (.getfield 737, 52, .getfield 68, 3, 890),
  (.iload 1, 55, .iload_n 1, 1, 0),
  (.iaload, 56, .iaload, 1, 0),
  (.iconst 6, 57, .bipush 6, 2, 0),
  (.if_icmp .ne 35, 59, .if_icmp .ne 7, 3, 0),
  (.iconst (-1), 62, .iconst (-1), 1, 0),
  (.goto 39, 63, .goto 9, 3, 0),
  (.aload 0, 66, .aload_n 0, 1, 0),
  (.getfield 737, 67, .getfield 68, 3, 890),
  (.iload 1, 70, .iload_n 1, 1, 0),
  (.iaload, 71, .iaload, 1, 0),
  (.ireturn, 72, .ireturn, 1, 0)]
/-- 173: WakeOrderModel.lookNext()I -/
def lr173 : List LRow := [(.aload 0, 0, .aload_n 0, 1, 0),
  (.invokestatic 171, 1, .invokevirtual 293, 3, 1231),
  (.iconst (-1), 4, .iconst (-1), 1, 0),
  (.istore 1, 5, .istore_n 1, 1, 0),
  (.aload 0, 6, .aload_n 0, 1, 0),
  (.getfield 736, 7, .getfield 284, 3, 889),
  (.istore 2, 10, .istore_n 2, 1, 0),
  (.iconst 0, 11, .iconst 0, 1, 0),
  (.istore 3, 12, .istore_n 3, 1, 0),
  (.nop, 13, .iload_n 3, 0, 0),
  (.iload 3, 13, .iload_n 3, 1, 0),
  (.iconst 36, 14, .bipush 36, 2, 0),
  (.if_icmp .ge 66, 16, .if_icmp .ge 97, 3, 0),
  (.iload 3, 19, .iload_n 3, 1, 0),
  (.iconst 6, 20, .bipush 6, 2, 0),
  (.idiv, 22, .idiv, 1, 0),
  (.istore 4, 23, .istore 4, 2, 0),
  (.iload 3, 25, .iload_n 3, 1, 0),
  (.iconst 6, 26, .bipush 6, 2, 0),
  (.irem, 28, .irem, 1, 0),
  (.istore 5, 29, .istore 5, 2, 0),
  (.aload 0, 31, .aload_n 0, 1, 0),
  (.getfield 738, 32, .getfield 71, 3, 891),
  (.iload 3, 35, .iload_n 3, 1, 0),
  (.iaload, 36, .iaload, 1, 0),
  (.aload 0, 37, .aload_n 0, 1, 0),
  (.getfield 736, 38, .getfield 284, 3, 889),
  (.aload 0, 41, .aload_n 0, 1, 0),
  (.getfield 738, 42, .getfield 71, 3, 891),
  (.iload 3, 45, .iload_n 3, 1, 0),
  (.iaload, 46, .iaload, 1, 0),
  (.isub, 47, .isub, 1, 0),
  (.if_icmp .le 38, 48, .if_icmp .le 12, 3, 0),
  (.aload 0, 51, .aload_n 0, 1, 0),
  (.getfield 738, 52, .getfield 71, 3, 891),
  (.iload 3, 55, .iload_n 3, 1, 0),
  (.iaload, 56, .iaload, 1, 0),
  (.goto 45, 57, .goto 14, 3, 0),
  (.aload 0, 60, .aload_n 0, 1, 0),
  (.getfield 736, 61, .getfield 284, 3, 889),
  (.aload 0, 64, .aload_n 0, 1, 0),
  (.getfield 738, 65, .getfield 71, 3, 891),
  (.iload 3, 68, .iload_n 3, 1, 0),
  (.iaload, 69, .iaload, 1, 0),
  (.isub, 70, .isub, 1, 0),
  (.istore 6, 71, .istore 6, 2, 0),
  (.iload 4, 73, .iload 4, 2, 0),
  (.iload 5, 75, .iload 5, 2, 0),
  (.if_icmp .ge 64, 77, .if_icmp .ge 30, 3, 0),
  (.iload 5, 80, .iload 5, 2, 0),
  (.aload 0, 82, .aload_n 0, 1, 0),
  (.getfield 705, 83, .getfield 90, 3, 858),
  (.if_icmp .ge 64, 86, .if_icmp .ge 21, 3, 0),
  (.iload 6, 89, .iload 6, 2, 0),
  (.iload 2, 91, .iload_n 2, 1, 0),
  (.if_icmp .ge 64, 92, .if_icmp .ge 15, 3, 0),
  (.iconst 10, 95, .bipush 10, 2, 0),
  (.iload 4, 97, .iload 4, 2, 0),
  (.imul, 99, .imul, 1, 0),
  (.iload 5, 100, .iload 5, 2, 0),
  (.iadd, 102, .iadd, 1, 0),
  (.istore 1, 103, .istore_n 1, 1, 0),
  (.iload 6, 104, .iload 6, 2, 0),
  (.istore 2, 106, .istore_n 2, 1, 0),
  (.iinc 3 1, 107, .iinc 3 1, 3, 0),
  (.goto 9, 110, .goto (-97), 3, 0),
  (.iload 1, 113, .iload_n 1, 1, 0),
  (.ireturn, 114, .ireturn, 1, 0)]
/-- 174: WakeOrderModel.write(II)I -/
def lr174 : List LRow := [(.aload 0, 0, .aload_n 0, 1, 0),
  (.iload 1, 1, .iload_n 1, 1, 0),
  (.invokestatic 114, 2, .invokevirtual 204, 3, 1090),
  (.ifCond .ne 6, 5, .ifCond .ne 6, 3, 0),
  (.iconst (-1000000001), 8, .ldc 197, 2, 1077),
  (.ireturn, 10, .ireturn, 1, 0),
  (.iload 2, 11, .iload_n 2, 1, 0),
  (.i2l, 12, .i2l, 1, 0),
  (.jsr_w (-1), 13, .ldc2_w 296, 3, 1251),
  (.jsr_w 999, 16, .ldc2_w 222, 3, 1135),
  (.invokestatic 110, 19, .invokestatic 93, 3, 983),
  (.ifCond .ne 14, 22, .ifCond .ne 6, 3, 0),
  (.iconst (-1000000002), 25, .ldc 102, 2, 986),
  (.ireturn, 27, .ireturn, 1, 0),
  (.aload 0, 28, .aload_n 0, 1, 0),
  (.getfield 739, 29, .getfield 159, 3, 892),
  (.iconst 15, 32, .bipush 15, 2, 0),
  (.if_icmp .ne 20, 34, .if_icmp .ne 6, 3, 0),
  (.iconst (-1000000004), 37, .ldc 106, 2, 987),
  (.ireturn, 39, .ireturn, 1, 0),
  (.aload 0, 40, .aload_n 0, 1, 0),
  (.getfield 740, 41, .getfield 74, 3, 893),
  (.aload 0, 44, .aload_n 0, 1, 0),
  (.getfield 739, 45, .getfield 159, 3, 892),
  (.iload 1, 48, .iload_n 1, 1, 0),
  (.iastore, 49, .iastore, 1, 0),
  (.aload 0, 50, .aload_n 0, 1, 0),
  (.getfield 741, 51, .getfield 77, 3, 894),
  (.aload 0, 54, .aload_n 0, 1, 0),
  (.getfield 739, 55, .getfield 159, 3, 892),
  (.iload 2, 58, .iload_n 2, 1, 0),
  (.iastore, 59, .iastore, 1, 0),
  (.aload 0, 60, .aload_n 0, 1, 0),
  (.dup, 61, .dup, 1, 0),
  (.getfield 739, 62, .getfield 159, 3, 892),
  (.iconst 1, 65, .iconst 1, 1, 0),
  (.iadd, 66, .iadd, 1, 0),
  (.putfield 739, 67, .putfield 159, 3, 892),
  (.aload 0, 70, .aload_n 0, 1, 0),
  (.getfield 739, 71, .getfield 159, 3, 892),
  (.ireturn, 74, .ireturn, 1, 0)]
/-- 175: WakeOrderModel.tear()I -/
def lr175 : List LRow := [(.aload 0, 0, .aload_n 0, 1, 0),
  (.getfield 733, 1, .getfield 156, 3, 886),
  (.aload 0, 4, .aload_n 0, 1, 0),
  (.getfield 739, 5, .getfield 159, 3, 892),
  (.iadd, 8, .iadd, 1, 0),
  (.istore 1, 9, .istore_n 1, 1, 0),
  (.aload 0, 10, .aload_n 0, 1, 0),
  (.iconst 0, 11, .iconst 0, 1, 0),
  (.putfield 733, 12, .putfield 156, 3, 886),
  (.aload 0, 15, .aload_n 0, 1, 0),
  (.iconst 0, 16, .iconst 0, 1, 0),
  (.putfield 739, 17, .putfield 159, 3, 892),
  (.iload 1, 20, .iload_n 1, 1, 0),
  (.ireturn, 21, .ireturn, 1, 0)]
/-- 176: WakeOrderModel.judge()I -/
def lr176 : List LRow := [(.aload 0, 0, .aload_n 0, 1, 0),
  (.invokestatic 131, 1, .invokevirtual 184, 3, 1038),
  (.iconst 0, 4, .iconst 0, 1, 0),
  (.istore 1, 5, .istore_n 1, 1, 0),
  (.nop, 6, .iload_n 1, 0, 0),
  (.iload 1, 6, .iload_n 1, 1, 0),
  (.aload 0, 7, .aload_n 0, 1, 0),
  (.getfield 739, 8, .getfield 159, 3, 892),
  (.if_icmp .ge 38, 11, .if_icmp .ge 53, 3, 0),
  (.aload 0, 14, .aload_n 0, 1, 0),
  (.getfield 727, 15, .getfield 50, 3, 880),
  (.aload 0, 18, .aload_n 0, 1, 0),
  (.getfield 740, 19, .getfield 74, 3, 893),
  (.iload 1, 22, .iload_n 1, 1, 0),
  (.iaload, 23, .iaload, 1, 0),
  (.iaload, 24, .iaload, 1, 0),
  (.iconst 1000000, 25, .ldc 165, 2, 1042),
  (.if_icmp .ne 20, 27, .if_icmp .ne 7, 3, 0),
  (.iconst (-1), 30, .iconst (-1), 1, 0),
  (.goto 27, 31, .goto 14, 3, 0),
  (.aload 0, 34, .aload_n 0, 1, 0),
  (.getfield 727, 35, .getfield 50, 3, 880),
  (.aload 0, 38, .aload_n 0, 1, 0),
  (.getfield 740, 39, .getfield 74, 3, 893),
  (.iload 1, 42, .iload_n 1, 1, 0),
  (.iaload, 43, .iaload, 1, 0),
  (.iaload, 44, .iaload, 1, 0),
  (.istore 2, 45, .istore_n 2, 1, 0),
  (.iload 2, 46, .iload_n 2, 1, 0),
  (.aload 0, 47, .aload_n 0, 1, 0),
  (.getfield 741, 48, .getfield 77, 3, 894),
  (.iload 1, 51, .iload_n 1, 1, 0),
  (.iaload, 52, .iaload, 1, 0),
  (.if_icmp .eq 36, 53, .if_icmp .eq 5, 3, 0),
  (.iload 1, 56, .iload_n 1, 1, 0),
  (.ireturn, 57, .ireturn, 1, 0),
  (.iinc 1 1, 58, .iinc 1 1, 3, 0),
  (.goto 4, 61, .goto (-55), 3, 0),
  (.iconst (-1), 64, .iconst (-1), 1, 0),
  (.ireturn, 65, .ireturn, 1, 0)]
/-- 177: WakeOrderModel.seed(I)I -/
def lr177 : List LRow := [(.iload 1, 0, .iload_n 1, 1, 0),
  (.ifCond .ge 4, 1, .ifCond .ge 6, 3, 0),
  (.iconst (-1000000002), 4, .ldc 102, 2, 986),
  (.ireturn, 6, .ireturn, 1, 0),
  (.aload 0, 7, .aload_n 0, 1, 0),
  (.getfield 711, 8, .getfield 224, 3, 864),
  (.istore 2, 11, .istore_n 2, 1, 0),
  (.aload 0, 12, .aload_n 0, 1, 0),
  (.iload 1, 13, .iload_n 1, 1, 0),
  (.putfield 711, 14, .putfield 224, 3, 864),
  (.iload 2, 17, .iload_n 2, 1, 0),
  (.ireturn, 18, .ireturn, 1, 0)]
/-- 178: WakeOrderModel.keep(I)I -/
def lr178 : List LRow := [(.iload 1, 0, .iload_n 1, 1, 0),
  (.i2l, 1, .i2l, 1, 0),
  (.jsr_w 0, 2, .lconst 0, 1, 0),
  (.jsr_w 1, 3, .lconst 1, 1, 0),
  (.invokestatic 110, 4, .invokestatic 93, 3, 983),
  (.ifCond .ne 8, 7, .ifCond .ne 6, 3, 0),
  (.iconst (-1000000001), 10, .ldc 197, 2, 1077),
  (.ireturn, 12, .ireturn, 1, 0),
  (.iconst 0, 13, .iconst 0, 1, 0),
  (.istore 2, 14, .istore_n 2, 1, 0),
  (.nop, 15, .iload_n 2, 0, 0),
  (.iload 2, 15, .iload_n 2, 1, 0),
  (.iconst 24, 16, .bipush 24, 2, 0),
  (.if_icmp .ge 28, 18, .if_icmp .ge 26, 3, 0),
  (.aload 0, 21, .aload_n 0, 1, 0),
  (.getfield 742, 22, .getfield 80, 3, 895),
  (.iconst 25, 25, .bipush 25, 2, 0),
  (.iload 1, 27, .iload_n 1, 1, 0),
  (.imul, 28, .imul, 1, 0),
  (.iload 2, 29, .iload_n 2, 1, 0),
  (.iadd, 30, .iadd, 1, 0),
  (.aload 0, 31, .aload_n 0, 1, 0),
  (.getfield 710, 32, .getfield 19, 3, 863),
  (.iload 2, 35, .iload_n 2, 1, 0),
  (.iaload, 36, .iaload, 1, 0),
  (.iastore, 37, .iastore, 1, 0),
  (.iinc 2 1, 38, .iinc 2 1, 3, 0),
  (.goto 10, 41, .goto (-26), 3, 0),
  (.aload 0, 44, .aload_n 0, 1, 0),
  (.getfield 742, 45, .getfield 80, 3, 895),
  (.iconst 25, 48, .bipush 25, 2, 0),
  (.iload 1, 50, .iload_n 1, 1, 0),
  (.imul, 51, .imul, 1, 0),
  (.iconst 24, 52, .bipush 24, 2, 0),
  (.iadd, 54, .iadd, 1, 0),
  (.aload 0, 55, .aload_n 0, 1, 0),
  (.getfield 711, 56, .getfield 224, 3, 864),
  (.iastore, 59, .iastore, 1, 0),
  (.aload 0, 60, .aload_n 0, 1, 0),
  (.getfield 743, 61, .getfield 83, 3, 896),
  (.iload 1, 64, .iload_n 1, 1, 0),
  (.iconst 1, 65, .iconst 1, 1, 0),
  (.bastore, 66, .bastore, 1, 0),
  (.aload 0, 67, .aload_n 0, 1, 0),
  (.iconst 0, 68, .iconst 0, 1, 0),
  (.putfield 728, 69, .putfield 162, 3, 881),
  (.iconst 1, 72, .iconst 1, 1, 0),
  (.ireturn, 73, .ireturn, 1, 0)]
/-- 179: WakeOrderModel.goBack(I)I -/
def lr179 : List LRow := [(.iload 1, 0, .iload_n 1, 1, 0),
  (.i2l, 1, .i2l, 1, 0),
  (.jsr_w 0, 2, .lconst 0, 1, 0),
  (.jsr_w 1, 3, .lconst 1, 1, 0),
  (.invokestatic 110, 4, .invokestatic 93, 3, 983),
  (.ifCond .ne 8, 7, .ifCond .ne 6, 3, 0),
  (.iconst (-1000000001), 10, .ldc 197, 2, 1077),
  (.ireturn, 12, .ireturn, 1, 0),
  (.aload 0, 13, .aload_n 0, 1, 0),
  (.getfield 743, 14, .getfield 83, 3, 896),
  (.iload 1, 17, .iload_n 1, 1, 0),
  (.baload, 18, .baload, 1, 0),
  (.ifCond .ne 15, 19, .ifCond .ne 6, 3, 0),
  (.iconst (-1000000003), 22, .ldc 207, 2, 1102),
  (.ireturn, 24, .ireturn, 1, 0),
  (.iconst 0, 25, .iconst 0, 1, 0),
  (.istore 2, 26, .istore_n 2, 1, 0),
  (.nop, 27, .iload_n 2, 0, 0),
  (.iload 2, 27, .iload_n 2, 1, 0),
  (.iconst 24, 28, .bipush 24, 2, 0),
  (.if_icmp .ge 35, 30, .if_icmp .ge 26, 3, 0),
  (.aload 0, 33, .aload_n 0, 1, 0),
  (.getfield 710, 34, .getfield 19, 3, 863),
  (.iload 2, 37, .iload_n 2, 1, 0),
  (.aload 0, 38, .aload_n 0, 1, 0),
  (.getfield 742, 39, .getfield 80, 3, 895),
  (.iconst 25, 42, .bipush 25, 2, 0),
  (.iload 1, 44, .iload_n 1, 1, 0),
  (.imul, 45, .imul, 1, 0),
  (.iload 2, 46, .iload_n 2, 1, 0),
  (.iadd, 47, .iadd, 1, 0),
  (.iaload, 48, .iaload, 1, 0),
  (.iastore, 49, .iastore, 1, 0),
  (.iinc 2 1, 50, .iinc 2 1, 3, 0),
  (.goto 17, 53, .goto (-26), 3, 0),
  (.aload 0, 56, .aload_n 0, 1, 0),
  (.aload 0, 57, .aload_n 0, 1, 0),
  (.getfield 742, 58, .getfield 80, 3, 895),
  (.iconst 25, 61, .bipush 25, 2, 0),
  (.iload 1, 63, .iload_n 1, 1, 0),
  (.imul, 64, .imul, 1, 0),
  (.iconst 24, 65, .bipush 24, 2, 0),
  (.iadd, 67, .iadd, 1, 0),
  (.iaload, 68, .iaload, 1, 0),
  (.putfield 711, 69, .putfield 224, 3, 864),
  (.aload 0, 72, .aload_n 0, 1, 0),
  (.iconst 0, 73, .iconst 0, 1, 0),
  (.putfield 728, 74, .putfield 162, 3, 881),
  (.iconst 1, 77, .iconst 1, 1, 0),
  (.ireturn, 78, .ireturn, 1, 0)]
/-- 180: java/lang/Integer.bitCount(I)I -/
def lr180 : List LRow := [(.iload 0, 0, .iload_n 0, 1, 0),
  (.iload 0, 1, .iload_n 0, 1, 0),
  (.iconst 1, 2, .iconst 1, 1, 0),
  (.iushr, 3, .iushr, 1, 0),
  (.iconst 1431655765, 4, .ldc_w 265, 3, 746),
  (.iand, 7, .iand, 1, 0),
  (.isub, 8, .isub, 1, 0),
  (.istore 0, 9, .istore_n 0, 1, 0),
  (.iload 0, 10, .iload_n 0, 1, 0),
  (.iconst 858993459, 11, .ldc_w 266, 3, 747),
  (.iand, 14, .iand, 1, 0),
  (.iload 0, 15, .iload_n 0, 1, 0),
  (.iconst 2, 16, .iconst 2, 1, 0),
  (.iushr, 17, .iushr, 1, 0),
  (.iconst 858993459, 18, .ldc_w 266, 3, 747),
  (.iand, 21, .iand, 1, 0),
  (.iadd, 22, .iadd, 1, 0),
  (.istore 0, 23, .istore_n 0, 1, 0),
  (.iload 0, 24, .iload_n 0, 1, 0),
  (.iload 0, 25, .iload_n 0, 1, 0),
  (.iconst 4, 26, .iconst 4, 1, 0),
  (.iushr, 27, .iushr, 1, 0),
  (.iadd, 28, .iadd, 1, 0),
  (.iconst 252645135, 29, .ldc_w 267, 3, 748),
  (.iand, 32, .iand, 1, 0),
  (.istore 0, 33, .istore_n 0, 1, 0),
  (.iload 0, 34, .iload_n 0, 1, 0),
  (.iload 0, 35, .iload_n 0, 1, 0),
  (.iconst 8, 36, .bipush 8, 2, 0),
  (.iushr, 38, .iushr, 1, 0),
  (.iadd, 39, .iadd, 1, 0),
  (.istore 0, 40, .istore_n 0, 1, 0),
  (.iload 0, 41, .iload_n 0, 1, 0),
  (.iload 0, 42, .iload_n 0, 1, 0),
  (.iconst 16, 43, .bipush 16, 2, 0),
  (.iushr, 45, .iushr, 1, 0),
  (.iadd, 46, .iadd, 1, 0),
  (.istore 0, 47, .istore_n 0, 1, 0),
  (.iload 0, 48, .iload_n 0, 1, 0),
  (.iconst 63, 49, .bipush 63, 2, 0),
  (.iand, 51, .iand, 1, 0),
  (.ireturn, 52, .ireturn, 1, 0)]
/-- 181: java/lang/Math.max(II)I -/
def lr181 : List LRow := [(.iload 0, 0, .iload_n 0, 1, 0),
  (.iload 1, 1, .iload_n 1, 1, 0),
  (.if_icmp .lt 5, 2, .if_icmp .lt 7, 3, 0),
  (.iload 0, 5, .iload_n 0, 1, 0),
  (.goto 6, 6, .goto 4, 3, 0),
  (.iload 1, 9, .iload_n 1, 1, 0),
  (.ireturn, 10, .ireturn, 1, 0)]
/-- 182: java/lang/Math.min(II)I -/
def lr182 : List LRow := [(.iload 0, 0, .iload_n 0, 1, 0),
  (.iload 1, 1, .iload_n 1, 1, 0),
  (.if_icmp .gt 5, 2, .if_icmp .gt 7, 3, 0),
  (.iload 0, 5, .iload_n 0, 1, 0),
  (.goto 6, 6, .goto 4, 3, 0),
  (.iload 1, 9, .iload_n 1, 1, 0),
  (.ireturn, 10, .ireturn, 1, 0)]
/-- 183: java/util/Arrays.fill([II)V -/
def lr183 : List LRow := [(.iconst 0, 0, .iconst 0, 1, 0),
  (.istore 2, 1, .istore_n 2, 1, 0),
  (.aload 0, 2, .aload_n 0, 1, 0),
  (.arraylength, 3, .arraylength, 1, 0),
  (.istore 3, 4, .istore_n 3, 1, 0),
  (.nop, 5, .iload_n 2, 0, 0),
  (.iload 2, 5, .iload_n 2, 1, 0),
  (.iload 3, 6, .iload_n 3, 1, 0),
  (.if_icmp .ge 15, 7, .if_icmp .ge 13, 3, 0),
  (.aload 0, 10, .aload_n 0, 1, 0),
  (.iload 2, 11, .iload_n 2, 1, 0),
  (.iload 1, 12, .iload_n 1, 1, 0),
  (.iastore, 13, .iastore, 1, 0),
  (.iinc 2 1, 14, .iinc 2 1, 3, 0),
  (.goto 5, 17, .goto (-12), 3, 0),
  (.return_, 20, .return_, 1, 0)]
/-- 184: WakeOrderLaw.law([I)Z -/
def lr184 : List LRow := [(.new 10, 0, .new 7, 3, 81),
  (.dup, 3, .dup, 1, 0),
  (.invokestatic 70, 4, .invokespecial 9, 3, 83),
  (.astore 1, 7, .astore_n 1, 1, 0),
  (.new 11, 8, .new 10, 3, 851),
  (.dup, 11, .dup, 1, 0),
  (.invokestatic 109, 12, .invokespecial 12, 3, 853),
  (.astore 2, 15, .astore_n 2, 1, 0),
  (.iconst 0, 16, .iconst 0, 1, 0),
  (.istore 3, 17, .istore_n 3, 1, 0),
  (.nop, 18, .iload_n 3, 0, 0),
  (.iload 3, 18, .iload_n 3, 1, 0),
  (.aload 0, 19, .aload_n 0, 1, 0),
  (.arraylength, 20, .arraylength, 1, 0),
  (.iconst 4, 21, .iconst 4, 1, 0),
  (.isub, 22, .isub, 1, 0),
  (.if_icmp .gt 569, 23, .if_icmp .gt 863, 3, 0),
  (.aload 0, 26, .aload_n 0, 1, 0),
  (.iload 3, 27, .iload_n 3, 1, 0),
  (.iaload, 28, .iaload, 1, 0),
  (.iconst 31, 29, .bipush 31, 2, 0),
  (.iand, 31, .iand, 1, 0),
  (.tableswitch 567 0 27 #[23, 40, 47, 54, 71, 98, 125, 142, 169, 204, 231, 248, 275, 292, 299, 336, 363, 380, 397, 424, 451, 468, 475, 502, 509, 516, 533, 550], 32, .tableswitch 848 0 27 #[128, 151, 164, 177, 200, 233, 266, 289, 322, 371, 404, 427, 460, 483, 496, 539, 572, 595, 618, 651, 684, 707, 720, 753, 766, 779, 802, 825], 128, 0),
  (.aload 1, 160, .aload_n 1, 1, 0),
  (.aload 0, 161, .aload_n 0, 1, 0),
  (.iload 3, 162, .iload_n 3, 1, 0),
  (.iconst 1, 163, .iconst 1, 1, 0),
  (.iadd, 164, .iadd, 1, 0),
  (.iaload, 165, .iaload, 1, 0),
  (.invokestatic 71, 166, .invokevirtual 13, 3, 402),
  (.aload 2, 169, .aload_n 2, 1, 0),
  (.aload 0, 170, .aload_n 0, 1, 0),
  (.iload 3, 171, .iload_n 3, 1, 0),
  (.iconst 1, 172, .iconst 1, 1, 0),
  (.iadd, 173, .iadd, 1, 0),
  (.iaload, 174, .iaload, 1, 0),
  (.invokestatic 115, 175, .invokevirtual 17, 3, 978),
  (.if_icmp .eq 567, 178, .if_icmp .eq 702, 3, 0),
  (.iconst 0, 181, .iconst 0, 1, 0),
  (.areturn, 182, .ireturn, 1, 0),
  (.aload 1, 183, .aload_n 1, 1, 0),
  (.invokestatic 72, 184, .invokevirtual 18, 3, 412),
  (.aload 2, 187, .aload_n 2, 1, 0),
  (.invokestatic 125, 188, .invokevirtual 22, 3, 988),
  (.if_icmp .eq 567, 191, .if_icmp .eq 689, 3, 0),
  (.iconst 0, 194, .iconst 0, 1, 0),
  (.areturn, 195, .ireturn, 1, 0),
  (.aload 1, 196, .aload_n 1, 1, 0),
  (.invokestatic 73, 197, .invokevirtual 23, 3, 513),
  (.aload 2, 200, .aload_n 2, 1, 0),
  (.invokestatic 126, 201, .invokevirtual 26, 3, 1030),
  (.if_icmp .eq 567, 204, .if_icmp .eq 676, 3, 0),
  (.iconst 0, 207, .iconst 0, 1, 0),
  (.areturn, 208, .ireturn, 1, 0),
  (.aload 1, 209, .aload_n 1, 1, 0),
  (.aload 0, 210, .aload_n 0, 1, 0),
  (.iload 3, 211, .iload_n 3, 1, 0),
  (.iconst 1, 212, .iconst 1, 1, 0),
  (.iadd, 213, .iadd, 1, 0),
  (.iaload, 214, .iaload, 1, 0),
  (.invokestatic 74, 215, .invokevirtual 27, 3, 517),
  (.aload 2, 218, .aload_n 2, 1, 0),
  (.aload 0, 219, .aload_n 0, 1, 0),
  (.iload 3, 220, .iload_n 3, 1, 0),
  (.iconst 1, 221, .iconst 1, 1, 0),
  (.iadd, 222, .iadd, 1, 0),
  (.iaload, 223, .iaload, 1, 0),
  (.invokestatic 134, 224, .invokevirtual 30, 3, 1034),
  (.if_icmp .eq 567, 227, .if_icmp .eq 653, 3, 0),
  (.iconst 0, 230, .iconst 0, 1, 0),
  (.areturn, 231, .ireturn, 1, 0),
  (.aload 1, 232, .aload_n 1, 1, 0),
  (.aload 0, 233, .aload_n 0, 1, 0),
  (.iload 3, 234, .iload_n 3, 1, 0),
  (.iconst 1, 235, .iconst 1, 1, 0),
  (.iadd, 236, .iadd, 1, 0),
  (.iaload, 237, .iaload, 1, 0),
  (.aload 0, 238, .aload_n 0, 1, 0),
  (.iload 3, 239, .iload_n 3, 1, 0),
  (.iconst 2, 240, .iconst 2, 1, 0),
  (.iadd, 241, .iadd, 1, 0),
  (.iaload, 242, .iaload, 1, 0),
  (.invokestatic 75, 243, .invokevirtual 31, 3, 579),
  (.aload 2, 246, .aload_n 2, 1, 0),
  (.aload 0, 247, .aload_n 0, 1, 0),
  (.iload 3, 248, .iload_n 3, 1, 0),
  (.iconst 1, 249, .iconst 1, 1, 0),
  (.iadd, 250, .iadd, 1, 0),
  (.iaload, 251, .iaload, 1, 0),
  (.aload 0, 252, .aload_n 0, 1, 0),
  (.iload 3, 253, .iload_n 3, 1, 0),
  (.iconst 2, 254, .iconst 2, 1, 0),
  (.iadd, 255, .iadd, 1, 0),
  (.iaload, 256, .iaload, 1, 0),
  (.invokestatic 137, 257, .invokevirtual 35, 3, 1069),
  (.if_icmp .eq 567, 260, .if_icmp .eq 620, 3, 0),
  (.iconst 0, 263, .iconst 0, 1, 0),
  (.areturn, 264, .ireturn, 1, 0),
  (.aload 1, 265, .aload_n 1, 1, 0),
  (.aload 0, 266, .aload_n 0, 1, 0),
  (.iload 3, 267, .iload_n 3, 1, 0),
  (.iconst 1, 268, .iconst 1, 1, 0),
  (.iadd, 269, .iadd, 1, 0),
  (.iaload, 270, .iaload, 1, 0),
  (.aload 0, 271, .aload_n 0, 1, 0),
  (.iload 3, 272, .iload_n 3, 1, 0),
  (.iconst 2, 273, .iconst 2, 1, 0),
  (.iadd, 274, .iadd, 1, 0),
  (.iaload, 275, .iaload, 1, 0),
  (.invokestatic 76, 276, .invokevirtual 36, 3, 596),
  (.aload 2, 279, .aload_n 2, 1, 0),
  (.aload 0, 280, .aload_n 0, 1, 0),
  (.iload 3, 281, .iload_n 3, 1, 0),
  (.iconst 1, 282, .iconst 1, 1, 0),
  (.iadd, 283, .iadd, 1, 0),
  (.iaload, 284, .iaload, 1, 0),
  (.aload 0, 285, .aload_n 0, 1, 0),
  (.iload 3, 286, .iload_n 3, 1, 0),
  (.iconst 2, 287, .iconst 2, 1, 0),
  (.iadd, 288, .iadd, 1, 0),
  (.iaload, 289, .iaload, 1, 0),
  (.invokestatic 138, 290, .invokevirtual 39, 3, 1086),
  (.if_icmp .eq 567, 293, .if_icmp .eq 587, 3, 0),
  (.iconst 0, 296, .iconst 0, 1, 0),
  (.areturn, 297, .ireturn, 1, 0),
  (.aload 1, 298, .aload_n 1, 1, 0),
  (.aload 0, 299, .aload_n 0, 1, 0),
  (.iload 3, 300, .iload_n 3, 1, 0),
  (.iconst 1, 301, .iconst 1, 1, 0),
  (.iadd, 302, .iadd, 1, 0),
  (.iaload, 303, .iaload, 1, 0),
  (.invokestatic 77, 304, .invokevirtual 40, 3, 604),
  (.aload 2, 307, .aload_n 2, 1, 0),
  (.aload 0, 308, .aload_n 0, 1, 0),
  (.iload 3, 309, .iload_n 3, 1, 0),
  (.iconst 1, 310, .iconst 1, 1, 0),
  (.iadd, 311, .iadd, 1, 0),
  (.iaload, 312, .iaload, 1, 0),
  (.invokestatic 139, 313, .invokevirtual 43, 3, 1094),
  (.if_icmp .eq 567, 316, .if_icmp .eq 564, 3, 0),
  (.iconst 0, 319, .iconst 0, 1, 0),
  (.areturn, 320, .ireturn, 1, 0),
  (.aload 1, 321, .aload_n 1, 1, 0),
  (.aload 0, 322, .aload_n 0, 1, 0),
  (.iload 3, 323, .iload_n 3, 1, 0),
  (.iconst 1, 324, .iconst 1, 1, 0),
  (.iadd, 325, .iadd, 1, 0),
  (.iaload, 326, .iaload, 1, 0),
  (.aload 0, 327, .aload_n 0, 1, 0),
  (.iload 3, 328, .iload_n 3, 1, 0),
  (.iconst 2, 329, .iconst 2, 1, 0),
  (.iadd, 330, .iadd, 1, 0),
  (.iaload, 331, .iaload, 1, 0),
  (.invokestatic 78, 332, .invokevirtual 44, 3, 609),
  (.aload 2, 335, .aload_n 2, 1, 0),
  (.aload 0, 336, .aload_n 0, 1, 0),
  (.iload 3, 337, .iload_n 3, 1, 0),
  (.iconst 1, 338, .iconst 1, 1, 0),
  (.iadd, 339, .iadd, 1, 0),
  (.iaload, 340, .iaload, 1, 0),
  (.aload 0, 341, .aload_n 0, 1, 0),
  (.iload 3, 342, .iload_n 3, 1, 0),
  (.iconst 2, 343, .iconst 2, 1, 0),
  (.iadd, 344, .iadd, 1, 0),
  (.iaload, 345, .iaload, 1, 0),
  (.invokestatic 143, 346, .invokevirtual 47, 3, 1098),
  (.if_icmp .eq 567, 349, .if_icmp .eq 531, 3, 0),
  (.iconst 0, 352, .iconst 0, 1, 0),
  (.areturn, 353, .ireturn, 1, 0),
  (.aload 1, 354, .aload_n 1, 1, 0),
  (.aload 0, 355, .aload_n 0, 1, 0),
  (.iload 3, 356, .iload_n 3, 1, 0),
  (.iconst 1, 357, .iconst 1, 1, 0),
  (.iadd, 358, .iadd, 1, 0),
  (.iaload, 359, .iaload, 1, 0),
  (.aload 0, 360, .aload_n 0, 1, 0),
  (.iload 3, 361, .iload_n 3, 1, 0),
  (.iconst 2, 362, .iconst 2, 1, 0),
  (.iadd, 363, .iadd, 1, 0),
  (.iaload, 364, .iaload, 1, 0),
  (.ifCond .eq 183, 365, .ifCond .eq 7, 3, 0),
  (.iconst 1, 368, .iconst 1, 1, 0),
  (.goto 184, 369, .goto 4, 3, 0),
  (.iconst 0, 372, .iconst 0, 1, 0),
  (.invokestatic 79, 373, .invokevirtual 48, 3, 636),
  (.aload 2, 376, .aload_n 2, 1, 0),
  (.aload 0, 377, .aload_n 0, 1, 0),
  (.iload 3, 378, .iload_n 3, 1, 0),
  (.iconst 1, 379, .iconst 1, 1, 0),
  (.iadd, 380, .iadd, 1, 0),
  (.iaload, 381, .iaload, 1, 0),
  (.aload 0, 382, .aload_n 0, 1, 0),
  (.iload 3, 383, .iload_n 3, 1, 0),
  (.iconst 2, 384, .iconst 2, 1, 0),
  (.iadd, 385, .iadd, 1, 0),
  (.iaload, 386, .iaload, 1, 0),
  (.ifCond .eq 199, 387, .ifCond .eq 7, 3, 0),
  (.iconst 1, 390, .iconst 1, 1, 0),
  (.goto 200, 391, .goto 4, 3, 0),
  (.iconst 0, 394, .iconst 0, 1, 0),
  (.invokestatic 144, 395, .invokevirtual 52, 3, 1115),
  (.if_icmp .eq 567, 398, .if_icmp .eq 482, 3, 0),
  (.iconst 0, 401, .iconst 0, 1, 0),
  (.areturn, 402, .ireturn, 1, 0),
  (.aload 1, 403, .aload_n 1, 1, 0),
  (.aload 0, 404, .aload_n 0, 1, 0),
  (.iload 3, 405, .iload_n 3, 1, 0),
  (.iconst 1, 406, .iconst 1, 1, 0),
  (.iadd, 407, .iadd, 1, 0),
  (.iaload, 408, .iaload, 1, 0),
  (.aload 0, 409, .aload_n 0, 1, 0),
  (.iload 3, 410, .iload_n 3, 1, 0),
  (.iconst 2, 411, .iconst 2, 1, 0),
  (.iadd, 412, .iadd, 1, 0),
  (.iaload, 413, .iaload, 1, 0),
  (.invokestatic 80, 414, .invokevirtual 53, 3, 640),
  (.aload 2, 417, .aload_n 2, 1, 0),
  (.aload 0, 418, .aload_n 0, 1, 0),
  (.iload 3, 419, .iload_n 3, 1, 0),
  (.iconst 1, 420, .iconst 1, 1, 0),
  (.iadd, 421, .iadd, 1, 0),
  (.iaload, 422, .iaload, 1, 0),
  (.aload 0, 423, .aload_n 0, 1, 0),
  (.iload 3, 424, .iload_n 3, 1, 0),
  (.iconst 2, 425, .iconst 2, 1, 0),
  (.iadd, 426, .iadd, 1, 0),
  (.iaload, 427, .iaload, 1, 0),
  (.invokestatic 145, 428, .invokevirtual 56, 3, 1119),
  (.if_icmp .eq 567, 431, .if_icmp .eq 449, 3, 0),
  (.iconst 0, 434, .iconst 0, 1, 0),
  (.areturn, 435, .ireturn, 1, 0),
  (.aload 1, 436, .aload_n 1, 1, 0),
  (.aload 0, 437, .aload_n 0, 1, 0),
  (.iload 3, 438, .iload_n 3, 1, 0),
  (.iconst 1, 439, .iconst 1, 1, 0),
  (.iadd, 440, .iadd, 1, 0),
  (.iaload, 441, .iaload, 1, 0),
  (.invokestatic 81, 442, .invokevirtual 57, 3, 644),
  (.aload 2, 445, .aload_n 2, 1, 0),
  (.aload 0, 446, .aload_n 0, 1, 0),
  (.iload 3, 447, .iload_n 3, 1, 0),
  (.iconst 1, 448, .iconst 1, 1, 0),
  (.iadd, 449, .iadd, 1, 0),
  (.iaload, 450, .iaload, 1, 0),
  (.invokestatic 147, 451, .invokevirtual 60, 3, 1123),
  (.if_icmp .eq 567, 454, .if_icmp .eq 426, 3, 0),
  (.iconst 0, 457, .iconst 0, 1, 0),
  (.areturn, 458, .ireturn, 1, 0),
  (.aload 1, 459, .aload_n 1, 1, 0),
  (.aload 0, 460, .aload_n 0, 1, 0),
  (.iload 3, 461, .iload_n 3, 1, 0),
  (.iconst 1, 462, .iconst 1, 1, 0),
  (.iadd, 463, .iadd, 1, 0),
  (.iaload, 464, .iaload, 1, 0),
  (.aload 0, 465, .aload_n 0, 1, 0),
  (.iload 3, 466, .iload_n 3, 1, 0),
  (.iconst 2, 467, .iconst 2, 1, 0),
  (.iadd, 468, .iadd, 1, 0),
  (.iaload, 469, .iaload, 1, 0),
  (.invokestatic 82, 470, .invokevirtual 61, 3, 648),
  (.aload 2, 473, .aload_n 2, 1, 0),
  (.aload 0, 474, .aload_n 0, 1, 0),
  (.iload 3, 475, .iload_n 3, 1, 0),
  (.iconst 1, 476, .iconst 1, 1, 0),
  (.iadd, 477, .iadd, 1, 0),
  (.iaload, 478, .iaload, 1, 0),
  (.aload 0, 479, .aload_n 0, 1, 0),
  (.iload 3, 480, .iload_n 3, 1, 0),
  (.iconst 2, 481, .iconst 2, 1, 0),
  (.iadd, 482, .iadd, 1, 0),
  (.iaload, 483, .iaload, 1, 0),
  (.invokestatic 148, 484, .invokevirtual 64, 3, 1131),
  (.if_icmp .eq 567, 487, .if_icmp .eq 393, 3, 0),
  (.iconst 0, 490, .iconst 0, 1, 0),
  (.areturn, 491, .ireturn, 1, 0),
  (.aload 1, 492, .aload_n 1, 1, 0),
  (.aload 0, 493, .aload_n 0, 1, 0),
  (.iload 3, 494, .iload_n 3, 1, 0),
  (.iconst 1, 495, .iconst 1, 1, 0),
  (.iadd, 496, .iadd, 1, 0),
  (.iaload, 497, .iaload, 1, 0),
  (.invokestatic 83, 498, .invokevirtual 65, 3, 652),
  (.aload 2, 501, .aload_n 2, 1, 0),
  (.aload 0, 502, .aload_n 0, 1, 0),
  (.iload 3, 503, .iload_n 3, 1, 0),
  (.iconst 1, 504, .iconst 1, 1, 0),
  (.iadd, 505, .iadd, 1, 0),
  (.iaload, 506, .iaload, 1, 0),
  (.invokestatic 150, 507, .invokevirtual 68, 3, 1136),
  (.if_icmp .eq 567, 510, .if_icmp .eq 370, 3, 0),
  (.iconst 0, 513, .iconst 0, 1, 0),
  (.areturn, 514, .ireturn, 1, 0),
  (.aload 1, 515, .aload_n 1, 1, 0),
  (.invokestatic 84, 516, .invokevirtual 69, 3, 668),
  (.aload 2, 519, .aload_n 2, 1, 0),
  (.invokestatic 151, 520, .invokevirtual 72, 3, 1149),
  (.if_icmp .eq 567, 523, .if_icmp .eq 357, 3, 0),
  (.iconst 0, 526, .iconst 0, 1, 0),
  (.areturn, 527, .ireturn, 1, 0),
  (.aload 1, 528, .aload_n 1, 1, 0),
  (.aload 0, 529, .aload_n 0, 1, 0),
  (.iload 3, 530, .iload_n 3, 1, 0),
  (.iconst 1, 531, .iconst 1, 1, 0),
  (.iadd, 532, .iadd, 1, 0),
  (.iaload, 533, .iaload, 1, 0),
  (.aload 0, 534, .aload_n 0, 1, 0),
  (.iload 3, 535, .iload_n 3, 1, 0),
  (.iconst 2, 536, .iconst 2, 1, 0),
  (.iadd, 537, .iadd, 1, 0),
  (.iaload, 538, .iaload, 1, 0),
  (.aload 0, 539, .aload_n 0, 1, 0),
  (.iload 3, 540, .iload_n 3, 1, 0),
  (.iconst 3, 541, .iconst 3, 1, 0),
  (.iadd, 542, .iadd, 1, 0),
  (.iaload, 543, .iaload, 1, 0),
  (.invokestatic 85, 544, .invokevirtual 73, 3, 676),
  (.aload 2, 547, .aload_n 2, 1, 0),
  (.aload 0, 548, .aload_n 0, 1, 0),
  (.iload 3, 549, .iload_n 3, 1, 0),
  (.iconst 1, 550, .iconst 1, 1, 0),
  (.iadd, 551, .iadd, 1, 0),
  (.iaload, 552, .iaload, 1, 0),
  (.aload 0, 553, .aload_n 0, 1, 0),
  (.iload 3, 554, .iload_n 3, 1, 0),
  (.iconst 2, 555, .iconst 2, 1, 0),
  (.iadd, 556, .iadd, 1, 0),
  (.iaload, 557, .iaload, 1, 0),
  (.aload 0, 558, .aload_n 0, 1, 0),
  (.iload 3, 559, .iload_n 3, 1, 0),
  (.iconst 3, 560, .iconst 3, 1, 0),
  (.iadd, 561, .iadd, 1, 0),
  (.iaload, 562, .iaload, 1, 0),
  (.invokestatic 161, 563, .invokevirtual 77, 3, 1153),
  (.if_icmp .eq 567, 566, .if_icmp .eq 314, 3, 0),
  (.iconst 0, 569, .iconst 0, 1, 0),
  (.areturn, 570, .ireturn, 1, 0),
  (.aload 1, 571, .aload_n 1, 1, 0),
  (.aload 0, 572, .aload_n 0, 1, 0),
  (.iload 3, 573, .iload_n 3, 1, 0),
  (.iconst 1, 574, .iconst 1, 1, 0),
  (.iadd, 575, .iadd, 1, 0),
  (.iaload, 576, .iaload, 1, 0),
  (.aload 0, 577, .aload_n 0, 1, 0),
  (.iload 3, 578, .iload_n 3, 1, 0),
  (.iconst 2, 579, .iconst 2, 1, 0),
  (.iadd, 580, .iadd, 1, 0),
  (.iaload, 581, .iaload, 1, 0),
  (.invokestatic 86, 582, .invokevirtual 78, 3, 710),
  (.aload 2, 585, .aload_n 2, 1, 0),
  (.aload 0, 586, .aload_n 0, 1, 0),
  (.iload 3, 587, .iload_n 3, 1, 0),
  (.iconst 1, 588, .iconst 1, 1, 0),
  (.iadd, 589, .iadd, 1, 0),
  (.iaload, 590, .iaload, 1, 0),
  (.aload 0, 591, .aload_n 0, 1, 0),
  (.iload 3, 592, .iload_n 3, 1, 0),
  (.iconst 2, 593, .iconst 2, 1, 0),
  (.iadd, 594, .iadd, 1, 0),
  (.iaload, 595, .iaload, 1, 0),
  (.invokestatic 163, 596, .invokevirtual 81, 3, 1193),
  (.if_icmp .eq 567, 599, .if_icmp .eq 281, 3, 0),
  (.iconst 0, 602, .iconst 0, 1, 0),
  (.areturn, 603, .ireturn, 1, 0),
  (.aload 1, 604, .aload_n 1, 1, 0),
  (.aload 0, 605, .aload_n 0, 1, 0),
  (.iload 3, 606, .iload_n 3, 1, 0),
  (.iconst 1, 607, .iconst 1, 1, 0),
  (.iadd, 608, .iadd, 1, 0),
  (.iaload, 609, .iaload, 1, 0),
  (.invokestatic 87, 610, .invokevirtual 82, 3, 729),
  (.aload 2, 613, .aload_n 2, 1, 0),
  (.aload 0, 614, .aload_n 0, 1, 0),
  (.iload 3, 615, .iload_n 3, 1, 0),
  (.iconst 1, 616, .iconst 1, 1, 0),
  (.iadd, 617, .iadd, 1, 0),
  (.iaload, 618, .iaload, 1, 0),
  (.invokestatic 165, 619, .invokevirtual 85, 3, 1201),
  (.if_icmp .eq 567, 622, .if_icmp .eq 258, 3, 0),
  (.iconst 0, 625, .iconst 0, 1, 0),
  (.areturn, 626, .ireturn, 1, 0),
  (.aload 1, 627, .aload_n 1, 1, 0),
  (.aload 0, 628, .aload_n 0, 1, 0),
  (.iload 3, 629, .iload_n 3, 1, 0),
  (.iconst 1, 630, .iconst 1, 1, 0),
  (.iadd, 631, .iadd, 1, 0),
  (.iaload, 632, .iaload, 1, 0),
  (.invokestatic 88, 633, .invokevirtual 86, 3, 735),
  (.aload 2, 636, .aload_n 2, 1, 0),
  (.aload 0, 637, .aload_n 0, 1, 0),
  (.iload 3, 638, .iload_n 3, 1, 0),
  (.iconst 1, 639, .iconst 1, 1, 0),
  (.iadd, 640, .iadd, 1, 0),
  (.iaload, 641, .iaload, 1, 0),
  (.invokestatic 166, 642, .invokevirtual 89, 3, 1209),
  (.if_icmp .eq 567, 645, .if_icmp .eq 235, 3, 0),
  (.iconst 0, 648, .iconst 0, 1, 0),
  (.areturn, 649, .ireturn, 1, 0),
  (.aload 1, 650, .aload_n 1, 1, 0),
  (.aload 0, 651, .aload_n 0, 1, 0),
  (.iload 3, 652, .iload_n 3, 1, 0),
  (.iconst 1, 653, .iconst 1, 1, 0),
  (.iadd, 654, .iadd, 1, 0),
  (.iaload, 655, .iaload, 1, 0),
  (.aload 0, 656, .aload_n 0, 1, 0),
  (.iload 3, 657, .iload_n 3, 1, 0),
  (.iconst 2, 658, .iconst 2, 1, 0),
  (.iadd, 659, .iadd, 1, 0),
  (.iaload, 660, .iaload, 1, 0),
  (.invokestatic 89, 661, .invokevirtual 90, 3, 755),
  (.aload 2, 664, .aload_n 2, 1, 0),
  (.aload 0, 665, .aload_n 0, 1, 0),
  (.iload 3, 666, .iload_n 3, 1, 0),
  (.iconst 1, 667, .iconst 1, 1, 0),
  (.iadd, 668, .iadd, 1, 0),
  (.iaload, 669, .iaload, 1, 0),
  (.aload 0, 670, .aload_n 0, 1, 0),
  (.iload 3, 671, .iload_n 3, 1, 0),
  (.iconst 2, 672, .iconst 2, 1, 0),
  (.iadd, 673, .iadd, 1, 0),
  (.iaload, 674, .iaload, 1, 0),
  (.invokestatic 167, 675, .invokevirtual 93, 3, 1216),
  (.if_icmp .eq 567, 678, .if_icmp .eq 202, 3, 0),
  (.iconst 0, 681, .iconst 0, 1, 0),
  (.areturn, 682, .ireturn, 1, 0),
  (.aload 1, 683, .aload_n 1, 1, 0),
  (.aload 0, 684, .aload_n 0, 1, 0),
  (.iload 3, 685, .iload_n 3, 1, 0),
  (.iconst 1, 686, .iconst 1, 1, 0),
  (.iadd, 687, .iadd, 1, 0),
  (.iaload, 688, .iaload, 1, 0),
  (.aload 0, 689, .aload_n 0, 1, 0),
  (.iload 3, 690, .iload_n 3, 1, 0),
  (.iconst 2, 691, .iconst 2, 1, 0),
  (.iadd, 692, .iadd, 1, 0),
  (.iaload, 693, .iaload, 1, 0),
  (.invokestatic 90, 694, .invokevirtual 94, 3, 761),
  (.aload 2, 697, .aload_n 2, 1, 0),
  (.aload 0, 698, .aload_n 0, 1, 0),
  (.iload 3, 699, .iload_n 3, 1, 0),
  (.iconst 1, 700, .iconst 1, 1, 0),
  (.iadd, 701, .iadd, 1, 0),
  (.iaload, 702, .iaload, 1, 0),
  (.aload 0, 703, .aload_n 0, 1, 0),
  (.iload 3, 704, .iload_n 3, 1, 0),
  (.iconst 2, 705, .iconst 2, 1, 0),
  (.iadd, 706, .iadd, 1, 0),
  (.iaload, 707, .iaload, 1, 0),
  (.invokestatic 168, 708, .invokevirtual 97, 3, 1223),
  (.if_icmp .eq 567, 711, .if_icmp .eq 169, 3, 0),
  (.iconst 0, 714, .iconst 0, 1, 0),
  (.areturn, 715, .ireturn, 1, 0),
  (.aload 1, 716, .aload_n 1, 1, 0),
  (.aload 0, 717, .aload_n 0, 1, 0),
  (.iload 3, 718, .iload_n 3, 1, 0),
  (.iconst 1, 719, .iconst 1, 1, 0),
  (.iadd, 720, .iadd, 1, 0),
  (.iaload, 721, .iaload, 1, 0),
  (.invokestatic 91, 722, .invokevirtual 98, 3, 769),
  (.aload 2, 725, .aload_n 2, 1, 0),
  (.aload 0, 726, .aload_n 0, 1, 0),
  (.iload 3, 727, .iload_n 3, 1, 0),
  (.iconst 1, 728, .iconst 1, 1, 0),
  (.iadd, 729, .iadd, 1, 0),
  (.iaload, 730, .iaload, 1, 0),
  (.invokestatic 172, 731, .invokevirtual 101, 3, 1227),
  (.if_icmp .eq 567, 734, .if_icmp .eq 146, 3, 0),
  (.iconst 0, 737, .iconst 0, 1, 0),
  (.areturn, 738, .ireturn, 1, 0),
  (.aload 1, 739, .aload_n 1, 1, 0),
  (.invokestatic 92, 740, .invokevirtual 102, 3, 800),
  (.aload 2, 743, .aload_n 2, 1, 0),
  (.invokestatic 173, 744, .invokevirtual 105, 3, 1243),
  (.if_icmp .eq 567, 747, .if_icmp .eq 133, 3, 0),
  (.iconst 0, 750, .iconst 0, 1, 0),
  (.areturn, 751, .ireturn, 1, 0),
  (.aload 1, 752, .aload_n 1, 1, 0),
  (.aload 0, 753, .aload_n 0, 1, 0),
  (.iload 3, 754, .iload_n 3, 1, 0),
  (.iconst 1, 755, .iconst 1, 1, 0),
  (.iadd, 756, .iadd, 1, 0),
  (.iaload, 757, .iaload, 1, 0),
  (.aload 0, 758, .aload_n 0, 1, 0),
  (.iload 3, 759, .iload_n 3, 1, 0),
  (.iconst 2, 760, .iconst 2, 1, 0),
  (.iadd, 761, .iadd, 1, 0),
  (.iaload, 762, .iaload, 1, 0),
  (.invokestatic 93, 763, .invokevirtual 106, 3, 809),
  (.aload 2, 766, .aload_n 2, 1, 0),
  (.aload 0, 767, .aload_n 0, 1, 0),
  (.iload 3, 768, .iload_n 3, 1, 0),
  (.iconst 1, 769, .iconst 1, 1, 0),
  (.iadd, 770, .iadd, 1, 0),
  (.iaload, 771, .iaload, 1, 0),
  (.aload 0, 772, .aload_n 0, 1, 0),
  (.iload 3, 773, .iload_n 3, 1, 0),
  (.iconst 2, 774, .iconst 2, 1, 0),
  (.iadd, 775, .iadd, 1, 0),
  (.iaload, 776, .iaload, 1, 0),
  (.invokestatic 174, 777, .invokevirtual 109, 3, 1247),
  (.if_icmp .eq 567, 780, .if_icmp .eq 100, 3, 0),
  (.iconst 0, 783, .iconst 0, 1, 0),
  (.areturn, 784, .ireturn, 1, 0),
  (.aload 1, 785, .aload_n 1, 1, 0),
  (.invokestatic 94, 786, .invokevirtual 110, 3, 817),
  (.aload 2, 789, .aload_n 2, 1, 0),
  (.invokestatic 175, 790, .invokevirtual 113, 3, 1252),
  (.if_icmp .eq 567, 793, .if_icmp .eq 87, 3, 0),
  (.iconst 0, 796, .iconst 0, 1, 0),
  (.areturn, 797, .ireturn, 1, 0),
  (.aload 1, 798, .aload_n 1, 1, 0),
  (.invokestatic 95, 799, .invokevirtual 114, 3, 821),
  (.aload 2, 802, .aload_n 2, 1, 0),
  (.invokestatic 176, 803, .invokevirtual 117, 3, 1256),
  (.if_icmp .eq 567, 806, .if_icmp .eq 74, 3, 0),
  (.iconst 0, 809, .iconst 0, 1, 0),
  (.areturn, 810, .ireturn, 1, 0),
  (.aload 1, 811, .aload_n 1, 1, 0),
  (.aload 0, 812, .aload_n 0, 1, 0),
  (.iload 3, 813, .iload_n 3, 1, 0),
  (.iconst 1, 814, .iconst 1, 1, 0),
  (.iadd, 815, .iadd, 1, 0),
  (.iaload, 816, .iaload, 1, 0),
  (.invokestatic 96, 817, .invokevirtual 118, 3, 830),
  (.aload 2, 820, .aload_n 2, 1, 0),
  (.aload 0, 821, .aload_n 0, 1, 0),
  (.iload 3, 822, .iload_n 3, 1, 0),
  (.iconst 1, 823, .iconst 1, 1, 0),
  (.iadd, 824, .iadd, 1, 0),
  (.iaload, 825, .iaload, 1, 0),
  (.invokestatic 177, 826, .invokevirtual 121, 3, 1260),
  (.if_icmp .eq 567, 829, .if_icmp .eq 51, 3, 0),
  (.iconst 0, 832, .iconst 0, 1, 0),
  (.areturn, 833, .ireturn, 1, 0),
  (.aload 1, 834, .aload_n 1, 1, 0),
  (.aload 0, 835, .aload_n 0, 1, 0),
  (.iload 3, 836, .iload_n 3, 1, 0),
  (.iconst 1, 837, .iconst 1, 1, 0),
  (.iadd, 838, .iadd, 1, 0),
  (.iaload, 839, .iaload, 1, 0),
  (.invokestatic 97, 840, .invokevirtual 122, 3, 834),
  (.aload 2, 843, .aload_n 2, 1, 0),
  (.aload 0, 844, .aload_n 0, 1, 0),
  (.iload 3, 845, .iload_n 3, 1, 0),
  (.iconst 1, 846, .iconst 1, 1, 0),
  (.iadd, 847, .iadd, 1, 0),
  (.iaload, 848, .iaload, 1, 0),
  (.invokestatic 178, 849, .invokevirtual 125, 3, 1264),
  (.if_icmp .eq 567, 852, .if_icmp .eq 28, 3, 0),
  (.iconst 0, 855, .iconst 0, 1, 0),
  (.areturn, 856, .ireturn, 1, 0),
  (.aload 1, 857, .aload_n 1, 1, 0),
  (.aload 0, 858, .aload_n 0, 1, 0),
  (.iload 3, 859, .iload_n 3, 1, 0),
  (.iconst 1, 860, .iconst 1, 1, 0),
  (.iadd, 861, .iadd, 1, 0),
  (.iaload, 862, .iaload, 1, 0),
  (.invokestatic 98, 863, .invokevirtual 126, 3, 843),
  (.aload 2, 866, .aload_n 2, 1, 0),
  (.aload 0, 867, .aload_n 0, 1, 0),
  (.iload 3, 868, .iload_n 3, 1, 0),
  (.iconst 1, 869, .iconst 1, 1, 0),
  (.iadd, 870, .iadd, 1, 0),
  (.iaload, 871, .iaload, 1, 0),
  (.invokestatic 179, 872, .invokevirtual 129, 3, 1268),
  (.if_icmp .eq 567, 875, .if_icmp .eq 5, 3, 0),
  (.iconst 0, 878, .iconst 0, 1, 0),
  (.areturn, 879, .ireturn, 1, 0),
  (.iinc 3 4, 880, .iinc 3 4, 3, 0),
  (.goto 10, 883, .goto (-865), 3, 0),
  (.iconst 1, 886, .iconst 1, 1, 0),
  (.areturn, 887, .ireturn, 1, 0)]
def tRows : List (List LRow) := [lr0, lr1, lr2, lr3, lr4, lr5, lr6, lr7, lr8, lr9, lr10, lr11, lr12, lr13, lr14, lr15, lr16, lr17, lr18, lr19, lr20, lr21, lr22, lr23, lr24, lr25, lr26, lr27, lr28, lr29, lr30, lr31, lr32, lr33, lr34, lr35, lr36, lr37, lr38, lr39, lr40, lr41, lr42, lr43, lr44, lr45, lr46, lr47, lr48, lr49, lr50, lr51, lr52, lr53, lr54, lr55, lr56, lr57, lr58, lr59, lr60, lr61, lr62, lr63, lr64, lr65, lr66, lr67, lr68, lr69, lr70, lr71, lr72, lr73, lr74, lr75, lr76, lr77, lr78, lr79, lr80, lr81, lr82, lr83, lr84, lr85, lr86, lr87, lr88, lr89, lr90, lr91, lr92, lr93, lr94, lr95, lr96, lr97, lr98, lr99, lr100, lr101, lr102, lr103, lr104, lr105, lr106, lr107, lr108, lr109, lr110, lr111, lr112, lr113, lr114, lr115, lr116, lr117, lr118, lr119, lr120, lr121, lr122, lr123, lr124, lr125, lr126, lr127, lr128, lr129, lr130, lr131, lr132, lr133, lr134, lr135, lr136, lr137, lr138, lr139, lr140, lr141, lr142, lr143, lr144, lr145, lr146, lr147, lr148, lr149, lr150, lr151, lr152, lr153, lr154, lr155, lr156, lr157, lr158, lr159, lr160, lr161, lr162, lr163, lr164, lr165, lr166, lr167, lr168, lr169, lr170, lr171, lr172, lr173, lr174, lr175, lr176, lr177, lr178, lr179, lr180, lr181, lr182, lr183, lr184]
def tY : List MethodName := [yX0_init, yX0_append, yX0_firstWrong, yX1_init, yX1_reckonNow, yX1_reckon, yX1_rouse, yX1_wakesAt, yX1_work, yX1_inMorning, yX1_orMorningsEnd, yX1_stuckIn, yX1_undoneJobs, yX1_isEarlier, yX1_allDoneBy, yX1_upOfOthers, yX2_init, yX2_clear, yX2_become, yX2_addPerson, yX2_addJob, yX3_init, yX3_remember, yX3_takeBack, yX3_forget, yX4_init, yX4_store, yX4_restore, yX4_forget, yX5_init, yX5_append, yX5_readText, yX5_readClause, yX5_readMorning, yX5_readPerson, yX5_readJob, yX5_readWaiting, yX5_skipBlanks, yX5_letter, yX5_atFigure, yX5_number, yX5_endClause, yX5_blame, yX6_init, yX6_at, yX6_placeOf, yX6_members, yX6_become, yX6_line, yX6_takeOut, yX6_putIn, yX6_raisedAgainst, yX6_advance, yX6_swap, yX7_init, yX7_begin, yX7_become, yX8_init, yX8_tryRaising, yX8_trialDoes, yX8_tryPlaces, yX8_fewestToDismiss, yX8_nobodyStuckWithout, yX9_init, yX9_append, yX9_survey, yX9_fits, yX9_countTrial, yX9_sureOf, yX9_bestPair, yX10_init, yX10_feed, yX10_city, yX10_fault, yX10_told, yX10_person, yX10_job, yX10_order, yX10_rank, yX10_eyes, yX10_hand, yX10_dismiss, yX10_wake, yX10_drift, yX10_undo, yX10_raise, yX10_leastHarm, yX10_bread, yX10_free, yX10_sleeps, yX10_see, yX10_orders, yX10_lookNext, yX10_write, yX10_tear, yX10_judge, yX10_seed, yX10_keep, yX10_goBack, yX10_isPerson, yX10_isJob, yX10_lowBits, yX10_dismissedOnes, yX10_jobsOf, yX10_drawMorning, yX10_drawBelow, yX10_holds, yX10_valueAt, yX10_laterOf, yX11_init, yX11_in, yX11_has, yX11_bits, yX11_isPerson, yX11_isJob, yX11_feed, yX11_here, yX11_fails, yX11_takeNumber, yX11_into, yX11_takePerson, yX11_takeJob, yX11_takeWait, yX11_takeClause, yX11_takeRead, yX11_city, yX11_fault, yX11_inTime, yX11_later, yX11_settleUps, yX11_settleJobs, yX11_settle, yX11_stuckSet, yX11_undoneSet, yX11_told, yX11_placeOf, yX11_manyOf, yX11_person, yX11_job, yX11_order, yX11_remember, yX11_takeOut, yX11_putIn, yX11_rank, yX11_eyes, yX11_hand, yX11_dismissNow, yX11_dismiss, yX11_wake, yX11_draw, yX11_drift, yX11_undo, yX11_save, yX11_putBack, yX11_firstOrder, yX11_swap, yX11_nextOrder, yX11_wasPlace, yX11_nearer, yX11_areDone, yX11_findRaise, yX11_raise, yX11_allUpsBut, yX11_leastHarm, yX11_doneOrLast, yX11_bread, yX11_free, yX11_sleeps, yX11_see, yX11_allSeen, yX11_countOrder, yX11_findOrders, yX11_orders, yX11_lookNext, yX11_write, yX11_tear, yX11_judge, yX11_seed, yX11_keep, yX11_goBack, yJ6_bitCount_0f7a4, yJ9_max_7cf53, yJ9_min_7cf53, yJ7_fill_53178, yL_law]
def tB : List ByteArray := [cX0_init, cX0_append, cX0_firstWrong, cX1_init, cX1_reckonNow, cX1_reckon, cX1_rouse, cX1_wakesAt, cX1_work, cX1_inMorning, cX1_orMorningsEnd, cX1_stuckIn, cX1_undoneJobs, cX1_isEarlier, cX1_allDoneBy, cX1_upOfOthers, cX2_init, cX2_clear, cX2_become, cX2_addPerson, cX2_addJob, cX3_init, cX3_remember, cX3_takeBack, cX3_forget, cX4_init, cX4_store, cX4_restore, cX4_forget, cX5_init, cX5_append, cX5_readText, cX5_readClause, cX5_readMorning, cX5_readPerson, cX5_readJob, cX5_readWaiting, cX5_skipBlanks, cX5_letter, cX5_atFigure, cX5_number, cX5_endClause, cX5_blame, cX6_init, cX6_at, cX6_placeOf, cX6_members, cX6_become, cX6_line, cX6_takeOut, cX6_putIn, cX6_raisedAgainst, cX6_advance, cX6_swap, cX7_init, cX7_begin, cX7_become, cX8_init, cX8_tryRaising, cX8_trialDoes, cX8_tryPlaces, cX8_fewestToDismiss, cX8_nobodyStuckWithout, cX9_init, cX9_append, cX9_survey, cX9_fits, cX9_countTrial, cX9_sureOf, cX9_bestPair, cX10_init, cX10_feed, cX10_city, cX10_fault, cX10_told, cX10_person, cX10_job, cX10_order, cX10_rank, cX10_eyes, cX10_hand, cX10_dismiss, cX10_wake, cX10_drift, cX10_undo, cX10_raise, cX10_leastHarm, cX10_bread, cX10_free, cX10_sleeps, cX10_see, cX10_orders, cX10_lookNext, cX10_write, cX10_tear, cX10_judge, cX10_seed, cX10_keep, cX10_goBack, cX10_isPerson, cX10_isJob, cX10_lowBits, cX10_dismissedOnes, cX10_jobsOf, cX10_drawMorning, cX10_drawBelow, cX10_holds, cX10_valueAt, cX10_laterOf, cX11_init, cX11_in, cX11_has, cX11_bits, cX11_isPerson, cX11_isJob, cX11_feed, cX11_here, cX11_fails, cX11_takeNumber, cX11_into, cX11_takePerson, cX11_takeJob, cX11_takeWait, cX11_takeClause, cX11_takeRead, cX11_city, cX11_fault, cX11_inTime, cX11_later, cX11_settleUps, cX11_settleJobs, cX11_settle, cX11_stuckSet, cX11_undoneSet, cX11_told, cX11_placeOf, cX11_manyOf, cX11_person, cX11_job, cX11_order, cX11_remember, cX11_takeOut, cX11_putIn, cX11_rank, cX11_eyes, cX11_hand, cX11_dismissNow, cX11_dismiss, cX11_wake, cX11_draw, cX11_drift, cX11_undo, cX11_save, cX11_putBack, cX11_firstOrder, cX11_swap, cX11_nextOrder, cX11_wasPlace, cX11_nearer, cX11_areDone, cX11_findRaise, cX11_raise, cX11_allUpsBut, cX11_leastHarm, cX11_doneOrLast, cX11_bread, cX11_free, cX11_sleeps, cX11_see, cX11_allSeen, cX11_countOrder, cX11_findOrders, cX11_orders, cX11_lookNext, cX11_write, cX11_tear, cX11_judge, cX11_seed, cX11_keep, cX11_goBack, cJ6_bitCount_0f7a4, cJ9_max_7cf53, cJ9_min_7cf53, cJ7_fill_53178, cL_law]
def tL : List Nat := [1, 3, 3, 1, 1, 6, 8, 4, 5, 2, 2, 5, 3, 5, 4, 6, 1, 1, 2, 2, 4, 2, 3, 3, 1, 2, 5, 4, 2, 1, 2, 2, 3, 3, 3, 5, 3, 1, 1, 2, 4, 1, 3, 1, 2, 3, 3, 2, 3, 4, 4, 4, 5, 4, 1, 2, 2, 1, 7, 4, 6, 6, 4, 1, 3, 3, 3, 5, 2, 8, 1, 2, 1, 1, 2, 3, 3, 2, 4, 4, 4, 2, 4, 3, 1, 4, 3, 3, 3, 6, 3, 2, 1, 3, 2, 1, 3, 2, 2, 2, 2, 1, 1, 4, 2, 2, 2, 2, 2, 1, 6, 2, 3, 2, 2, 2, 1, 3, 4, 6, 2, 3, 3, 5, 2, 2, 1, 2, 2, 8, 5, 3, 3, 3, 2, 4, 4, 3, 3, 2, 2, 3, 4, 4, 4, 4, 2, 2, 4, 2, 4, 2, 2, 2, 3, 4, 6, 4, 3, 5, 6, 4, 5, 9, 2, 4, 5, 6, 3, 3, 3, 2, 2, 7, 3, 2, 3, 3, 3, 3, 1, 2, 2, 4, 4]
def tRet : List (Option FieldType) := [none, (some .boolean), (some .int), none, none, none, (some .int), (some .int), (some .int), (some .int), (some .int), (some .int), (some .int), (some .boolean), (some .boolean), (some .int), none, none, none, none, none, none, none, (some .boolean), none, none, none, none, none, none, (some .boolean), none, none, none, none, none, none, none, (some .int), (some .boolean), (some .int), none, none, none, (some .int), (some .int), (some .int), none, none, none, none, (some .int), (some .boolean), none, none, none, none, none, none, (some .boolean), none, (some .int), (some .boolean), none, (some .boolean), none, (some .boolean), none, (some .int), (some .int), none, (some .int), (some .int), (some .int), (some .int), (some .int), (some .int), (some .int), (some .int), (some .int), (some .int), (some .int), (some .int), (some .int), (some .int), (some .int), (some .int), (some .int), (some .int), (some .int), (some .int), (some .int), (some .int), (some .int), (some .int), (some .int), (some .int), (some .int), (some .int), (some .boolean), (some .boolean), (some .int), (some .int), (some .int), none, (some .int), (some .boolean), (some .int), (some .int), none, (some .boolean), (some .boolean), (some .int), (some .boolean), (some .boolean), (some .int), (some .int), (some .int), (some .int), (some .int), (some .int), (some .int), (some .int), (some .int), none, (some .int), (some .int), (some .int), (some .int), (some .boolean), (some .boolean), none, (some .int), (some .int), (some .int), (some .int), (some .int), (some .int), (some .int), (some .int), none, none, none, (some .int), (some .int), (some .int), none, (some .int), (some .int), (some .int), (some .int), (some .int), none, none, none, none, (some .boolean), (some .int), (some .int), (some .boolean), none, (some .int), (some .int), (some .int), (some .int), (some .int), (some .int), (some .int), (some .int), (some .boolean), none, none, (some .int), (some .int), (some .int), (some .int), (some .int), (some .int), (some .int), (some .int), (some .int), (some .int), (some .int), none, (some .boolean)]
def tKind : List Nat := [2, 1, 1, 2, 1, 1, 1, 1, 1, 1, 1, 1, 1, 1, 1, 1, 2, 1, 1, 1, 1, 2, 1, 1, 1, 2, 1, 1, 1, 2, 1, 1, 1, 1, 1, 1, 1, 1, 1, 1, 1, 1, 1, 2, 1, 1, 1, 1, 1, 1, 1, 1, 1, 1, 2, 1, 1, 2, 1, 1, 1, 1, 1, 2, 1, 1, 1, 1, 1, 1, 2, 1, 1, 1, 1, 1, 1, 1, 1, 1, 1, 1, 1, 1, 1, 1, 1, 1, 1, 1, 1, 1, 1, 1, 1, 1, 1, 1, 1, 1, 1, 0, 1, 1, 1, 1, 0, 0, 0, 2, 0, 0, 0, 1, 1, 1, 1, 1, 1, 1, 1, 1, 1, 1, 1, 1, 1, 1, 0, 1, 1, 1, 1, 1, 1, 1, 1, 1, 1, 1, 1, 1, 1, 1, 1, 1, 1, 1, 1, 1, 1, 1, 1, 1, 1, 1, 1, 1, 1, 1, 1, 1, 1, 1, 1, 1, 1, 1, 1, 1, 1, 1, 1, 1, 1, 1, 1, 1, 1, 1, 0, 0, 0, 0, 0]
def tCi : List Nat := [0, 0, 0, 1, 1, 1, 1, 1, 1, 1, 1, 1, 1, 1, 1, 1, 2, 2, 2, 2, 2, 3, 3, 3, 3, 4, 4, 4, 4, 5, 5, 5, 5, 5, 5, 5, 5, 5, 5, 5, 5, 5, 5, 6, 6, 6, 6, 6, 6, 6, 6, 6, 6, 6, 7, 7, 7, 8, 8, 8, 8, 8, 8, 9, 9, 9, 9, 9, 9, 9, 10, 10, 10, 10, 10, 10, 10, 10, 10, 10, 10, 10, 10, 10, 10, 10, 10, 10, 10, 10, 10, 10, 10, 10, 10, 10, 10, 10, 10, 10, 10, 10, 10, 10, 10, 10, 10, 10, 10, 11, 11, 11, 11, 11, 11, 11, 11, 11, 11, 11, 11, 11, 11, 11, 11, 11, 11, 11, 11, 11, 11, 11, 11, 11, 11, 11, 11, 11, 11, 11, 11, 11, 11, 11, 11, 11, 11, 11, 11, 11, 11, 11, 11, 11, 11, 11, 11, 11, 11, 11, 11, 11, 11, 11, 11, 11, 11, 11, 11, 11, 11, 11, 11, 11, 11, 11, 11, 11, 11, 11, 0, 0, 0, 0, 0]
def tNa : List Nat := [1, 3, 2, 1, 1, 3, 3, 2, 1, 2, 2, 2, 1, 3, 3, 3, 1, 1, 2, 2, 4, 1, 2, 2, 1, 1, 4, 3, 1, 1, 2, 1, 1, 2, 2, 2, 1, 1, 1, 1, 3, 1, 3, 1, 2, 2, 1, 2, 2, 2, 3, 2, 1, 3, 1, 2, 2, 1, 4, 4, 3, 2, 3, 1, 3, 2, 2, 2, 2, 2, 1, 2, 1, 1, 2, 3, 3, 2, 3, 3, 3, 2, 3, 2, 1, 4, 3, 2, 2, 3, 3, 2, 1, 3, 1, 1, 2, 2, 2, 2, 2, 1, 1, 2, 1, 2, 2, 2, 2, 1, 3, 2, 1, 2, 2, 2, 1, 3, 3, 5, 1, 1, 1, 1, 1, 1, 1, 2, 2, 1, 1, 1, 1, 1, 2, 2, 2, 3, 3, 2, 1, 2, 3, 3, 3, 3, 2, 2, 3, 2, 2, 1, 1, 1, 1, 3, 1, 2, 1, 3, 3, 4, 2, 3, 2, 2, 2, 3, 3, 1, 1, 1, 2, 1, 3, 1, 1, 2, 2, 2, 1, 2, 2, 2, 1]
def tNp : List Nat := [0, 2, 1, 0, 0, 2, 2, 1, 0, 1, 1, 1, 0, 2, 2, 2, 0, 0, 1, 1, 3, 0, 1, 1, 0, 0, 3, 2, 0, 0, 1, 0, 0, 1, 1, 1, 0, 0, 0, 0, 2, 0, 2, 0, 1, 1, 0, 1, 1, 1, 2, 1, 0, 2, 0, 1, 1, 0, 3, 3, 2, 1, 2, 0, 2, 1, 1, 1, 1, 1, 0, 1, 0, 0, 1, 2, 2, 1, 2, 2, 2, 1, 2, 1, 0, 3, 2, 1, 1, 2, 2, 1, 0, 2, 0, 0, 1, 1, 1, 1, 1, 1, 0, 1, 0, 1, 2, 2, 2, 0, 3, 2, 1, 1, 1, 1, 0, 2, 2, 4, 0, 0, 0, 0, 0, 0, 0, 1, 2, 0, 0, 0, 0, 0, 1, 1, 1, 2, 2, 1, 0, 1, 2, 2, 2, 2, 1, 1, 2, 1, 1, 0, 0, 0, 0, 2, 0, 1, 0, 2, 2, 3, 1, 2, 1, 1, 1, 2, 2, 0, 0, 0, 1, 0, 2, 0, 0, 1, 1, 1, 1, 2, 2, 2, 1]
def tHc : List Nat := [358, 816, 828, 175, 524, 528, 535, 545, 560, 556, 728, 574, 578, 788, 699, 724, 99, 423, 485, 463, 471, 257, 617, 675, 508, 277, 841, 850, 512, 93, 410, 419, 435, 443, 459, 467, 475, 427, 431, 451, 447, 455, 439, 189, 539, 591, 570, 625, 499, 633, 503, 689, 704, 708, 183, 492, 621, 298, 683, 694, 717, 742, 752, 326, 768, 776, 784, 792, 798, 807, 85, 405, 415, 516, 520, 582, 599, 607, 612, 639, 643, 647, 651, 655, 671, 679, 713, 732, 738, 758, 764, 772, 803, 812, 820, 824, 833, 837, 846, 586, 603, 495, 565, 595, 659, 663, 481, 478, 549, 855, 985, 1052, 1215, 1076, 1093, 981, 995, 1003, 1011, 1007, 1017, 1021, 1025, 999, 1029, 991, 1033, 1056, 1049, 1046, 1060, 1041, 1064, 1068, 1037, 1081, 1085, 1072, 1089, 1097, 1106, 1110, 1114, 1101, 1118, 1122, 1130, 1126, 1134, 1144, 1139, 1152, 1164, 1192, 1168, 1188, 1184, 1176, 1172, 1180, 1160, 1156, 1200, 1196, 1208, 1204, 1212, 1219, 1226, 1238, 1242, 1234, 1230, 1246, 1250, 1255, 1259, 1263, 1267, 1271, 745, 552, 629, 531, 0]
def tHi : List Nat := [75, 75, 75, 68, 68, 68, 68, 68, 68, 68, 68, 68, 68, 68, 68, 68, 67, 67, 67, 67, 67, 71, 71, 71, 71, 72, 72, 72, 72, 66, 66, 66, 66, 66, 66, 66, 66, 66, 66, 66, 66, 66, 66, 70, 70, 70, 70, 70, 70, 70, 70, 70, 70, 70, 69, 69, 69, 73, 73, 73, 73, 73, 73, 74, 74, 74, 74, 74, 74, 74, 65, 65, 65, 65, 65, 65, 65, 65, 65, 65, 65, 65, 65, 65, 65, 65, 65, 65, 65, 65, 65, 65, 65, 65, 65, 65, 65, 65, 65, 65, 65, 65, 65, 65, 65, 65, 65, 65, 65, 76, 76, 76, 76, 76, 76, 76, 76, 76, 76, 76, 76, 76, 76, 76, 76, 76, 76, 76, 76, 76, 76, 76, 76, 76, 76, 76, 76, 76, 76, 76, 76, 76, 76, 76, 76, 76, 76, 76, 76, 76, 76, 76, 76, 76, 76, 76, 76, 76, 76, 76, 76, 76, 76, 76, 76, 76, 76, 76, 76, 76, 76, 76, 76, 76, 76, 76, 76, 76, 76, 76, 80, 79, 79, 78, 64]
def tHm : List Nat := [357, 814, 826, 174, 522, 526, 534, 544, 559, 555, 726, 572, 576, 786, 697, 722, 98, 421, 483, 461, 469, 256, 615, 673, 506, 276, 839, 848, 510, 92, 408, 417, 434, 442, 458, 466, 474, 426, 430, 450, 446, 454, 438, 188, 537, 589, 568, 623, 497, 631, 501, 687, 702, 707, 182, 490, 619, 297, 681, 693, 715, 740, 751, 325, 766, 774, 783, 791, 796, 805, 84, 403, 413, 514, 518, 580, 597, 605, 610, 637, 641, 645, 649, 653, 669, 677, 711, 730, 736, 756, 762, 770, 801, 810, 818, 822, 831, 835, 844, 585, 602, 494, 564, 594, 658, 662, 480, 477, 548, 854, 984, 1051, 1214, 1075, 1092, 979, 994, 1002, 1010, 1006, 1016, 1020, 1024, 998, 1028, 989, 1031, 1055, 1048, 1045, 1059, 1040, 1063, 1067, 1035, 1080, 1084, 1070, 1087, 1095, 1105, 1109, 1113, 1099, 1116, 1120, 1129, 1124, 1132, 1143, 1137, 1150, 1163, 1191, 1167, 1187, 1183, 1175, 1171, 1179, 1159, 1154, 1199, 1194, 1207, 1202, 1210, 1217, 1224, 1237, 1241, 1233, 1228, 1244, 1248, 1253, 1257, 1261, 1265, 1269, 744, 551, 628, 530, 0]
def tHs : List Nat := [0, 815, 827, 0, 523, 527, 11, 12, 14, 13, 727, 573, 577, 787, 698, 723, 0, 422, 484, 462, 470, 0, 616, 674, 507, 0, 840, 849, 511, 0, 409, 418, 2, 4, 8, 9, 10, 0, 1, 6, 5, 7, 3, 0, 538, 590, 569, 624, 498, 632, 502, 688, 703, 22, 0, 491, 620, 0, 682, 21, 716, 741, 23, 0, 767, 775, 24, 25, 797, 806, 0, 404, 414, 515, 519, 581, 598, 606, 611, 638, 642, 646, 650, 654, 670, 678, 712, 731, 737, 757, 763, 771, 802, 811, 819, 823, 832, 836, 845, 16, 18, 0, 15, 17, 19, 20, 0, 0, 0, 0, 0, 0, 0, 41, 44, 980, 26, 28, 30, 29, 31, 32, 33, 27, 34, 990, 1032, 37, 0, 36, 38, 35, 39, 40, 1036, 42, 43, 1071, 1088, 1096, 45, 46, 47, 1100, 1117, 1121, 48, 1125, 1133, 49, 1138, 1151, 51, 58, 52, 57, 56, 54, 53, 55, 50, 1155, 59, 1195, 60, 1203, 1211, 1218, 1225, 62, 63, 61, 1229, 1245, 1249, 1254, 1258, 1262, 1266, 1270, 0, 0, 0, 0, 0]
def tDef : List (List Value) := [[.null, .null, .int 0], [.null, .null, .null, .null, .null], [.int 0, .int 0, .int 0, .null, .null, .null, .null, .null], [.null, .int 0, .int 0], [.null, .null, .null], [.null, .null, .int 0, .int 0, .int 0, .int 0, .int 0], [.null, .int 0], [.null, .null, .null, .int 0, .int 0], [.null, .null, .int 0, .int 0, .int 0], [.null, .null, .int 0, .null, .int 0, .null, .null], [.null, .null, .null, .null, .null, .null, .null, .null, .null, .int 0], [.int 0, .int 0, .int 0, .null, .null, .null, .null, .int 0, .null, .int 0, .int 0, .int 0, .int 0, .int 0, .null, .int 0, .null, .int 0, .null, .null, .null, .null, .null, .null, .int 0, .null, .null, .null, .int 0, .int 0, .null, .null, .int 0, .null, .null, .int 0, .null, .null, .null, .null]]
def clsDef (ci : Nat) : List Value := (tDef[ci]?).getD []
def clsN (ci : Nat) : Nat := ((tDef[ci]?).getD []).length
def mRows (k : Nat) : List LRow := (tRows[k]?).getD []
def mY (k : Nat) : MethodName := (tY[k]?).getD ⟨"", "", ""⟩
def mB (k : Nat) : ByteArray := (tB[k]?).getD ⟨#[]⟩
def mL (k : Nat) : Nat := (tL[k]?).getD 0
def mRet (k : Nat) : Option FieldType := (tRet[k]?).getD none
def mKind (k : Nat) : Nat := (tKind[k]?).getD 0
def mCi (k : Nat) : Nat := (tCi[k]?).getD 0
def mNa (k : Nat) : Nat := (tNa[k]?).getD 0
def mNp (k : Nat) : Nat := (tNp[k]?).getD 0
def mHc (k : Nat) : Nat := (tHc[k]?).getD 0
def mHi (k : Nat) : Nat := (tHi[k]?).getD 0
def mHm (k : Nat) : Nat := (tHm[k]?).getD 0
def mHs (k : Nat) : Nat := (tHs[k]?).getD 0
def nMeth : Nat := 184
def lcode (k : Nat) : List Instr := (mRows k).map (fun r => r.1)
def pcOf (k ip : Nat) : Nat := match (mRows k)[ip]? with
  | some r => r.2.1
  | none => 0
def nests : List Jvm.Cond := [(Jvm.Cond.methodLinkNest "WakeOrder" (11 : Nat) ({ cls := "WakeOrder$Reader", name := "<init>", desc := "()V" } : Jvm.MethodName) "WakeOrder"),
  (Jvm.Cond.methodLinkNest "WakeOrder$Reader" (17 : Nat) ({ cls := "WakeOrder$City", name := "<init>", desc := "()V" } : Jvm.MethodName) "WakeOrder"),
  (Jvm.Cond.methodLinkNest "WakeOrder" (18 : Nat) ({ cls := "WakeOrder$Capital", name := "<init>", desc := "()V" } : Jvm.MethodName) "WakeOrder"),
  (Jvm.Cond.methodLinkNest "WakeOrder$Capital" (11 : Nat) ({ cls := "WakeOrder$City", name := "<init>", desc := "()V" } : Jvm.MethodName) "WakeOrder"),
  (Jvm.Cond.methodLinkNest "WakeOrder$Capital" (20 : Nat) ({ cls := "WakeOrder$State", name := "<init>", desc := "()V" } : Jvm.MethodName) "WakeOrder"),
  (Jvm.Cond.methodLinkNest "WakeOrder$State" (11 : Nat) ({ cls := "WakeOrder$Row", name := "<init>", desc := "()V" } : Jvm.MethodName) "WakeOrder"),
  (Jvm.Cond.methodLinkNest "WakeOrder$History" (17 : Nat) ({ cls := "WakeOrder$State", name := "<init>", desc := "()V" } : Jvm.MethodName) "WakeOrder"),
  (Jvm.Cond.methodLinkNest "WakeOrder$Images" (25 : Nat) ({ cls := "WakeOrder$State", name := "<init>", desc := "()V" } : Jvm.MethodName) "WakeOrder"),
  (Jvm.Cond.methodLinkNest "WakeOrder" (49 : Nat) ({ cls := "WakeOrder$Trials", name := "<init>", desc := "()V" } : Jvm.MethodName) "WakeOrder"),
  (Jvm.Cond.methodLinkNest "WakeOrder$Trials" (11 : Nat) ({ cls := "WakeOrder$Row", name := "<init>", desc := "()V" } : Jvm.MethodName) "WakeOrder"),
  (Jvm.Cond.methodLinkNest "WakeOrder" (56 : Nat) ({ cls := "WakeOrder$Windows", name := "<init>", desc := "()V" } : Jvm.MethodName) "WakeOrder"),
  (Jvm.Cond.methodLinkNest "WakeOrder$Windows" (20 : Nat) ({ cls := "WakeOrder$Row", name := "<init>", desc := "()V" } : Jvm.MethodName) "WakeOrder"),
  (Jvm.Cond.methodLinkNest "WakeOrder" (63 : Nat) ({ cls := "WakeOrder$Book", name := "<init>", desc := "()V" } : Jvm.MethodName) "WakeOrder"),
  (Jvm.Cond.methodLinkNest "WakeOrder$Reader" (94 : Nat) ({ cls := "WakeOrder", name := "valueAt", desc := "([II)I" } : Jvm.MethodName) "WakeOrder"),
  (Jvm.Cond.methodLinkNest "WakeOrder$Reader" (98 : Nat) ({ cls := "WakeOrder", name := "holds", desc := "([II)Z" } : Jvm.MethodName) "WakeOrder"),
  (Jvm.Cond.methodLinkNest "WakeOrder$State" (31 : Nat) ({ cls := "WakeOrder", name := "lowBits", desc := "(I)I" } : Jvm.MethodName) "WakeOrder"),
  (Jvm.Cond.methodLinkNest "WakeOrder$Row" (19 : Nat) ({ cls := "WakeOrder", name := "valueAt", desc := "([II)I" } : Jvm.MethodName) "WakeOrder"),
  (Jvm.Cond.methodLinkNest "WakeOrder$Capital" (73 : Nat) ({ cls := "WakeOrder", name := "holds", desc := "([II)Z" } : Jvm.MethodName) "WakeOrder"),
  (Jvm.Cond.methodLinkNest "WakeOrder$Capital" (90 : Nat) ({ cls := "WakeOrder", name := "valueAt", desc := "([II)I" } : Jvm.MethodName) "WakeOrder"),
  (Jvm.Cond.methodLinkNest "WakeOrder$Capital" (80 : Nat) ({ cls := "WakeOrder", name := "laterOf", desc := "(II)I" } : Jvm.MethodName) "WakeOrder"),
  (Jvm.Cond.methodLinkNest "WakeOrder$Row" (43 : Nat) ({ cls := "WakeOrder", name := "holds", desc := "([II)Z" } : Jvm.MethodName) "WakeOrder"),
  (Jvm.Cond.methodLinkNest "WakeOrder$Windows" (90 : Nat) ({ cls := "WakeOrder", name := "valueAt", desc := "([II)I" } : Jvm.MethodName) "WakeOrder"),
  (Jvm.Cond.methodLinkNest "WakeOrder$Book" (27 : Nat) ({ cls := "WakeOrder", name := "valueAt", desc := "([II)I" } : Jvm.MethodName) "WakeOrder")]
end
section
-- THE LITTLE MACHINE: the same bytecode, resolved, over a heap of cells that are lists of values
abbrev LCell : Type := Option ((Nat × List Value) ⊕ (FieldType × List Value))
/-- the next number of a cell, how many slots were made, the cells -/
abbrev LHeap : Type := Nat × Nat × (Nat → LCell)
def hRd (h : LHeap) (a : Nat) : LCell := h.2.2 a
def hWr (h : LHeap) (a : Nat) (c : LCell) : LHeap := (h.1, h.2.1, fun x => if x = a then c else h.2.2 x)
def hNew (h : LHeap) (sl : Nat) (c : LCell) : LHeap := (h.1 + 1, h.2.1 + sl, fun x => if x = h.1 then c else h.2.2 x)
abbrev LLoc : Type := List (Option Value)
abbrev LRes : Type := (Option Nat × LLoc × List Value × LHeap) ⊕ (Option Value ⊕ (Nat × List Value × List Value))
def lGet (ls : LLoc) (i : Nat) : Option Value := match ls[i]? with
  | some (some v) => some v
  | _ => none
/-- no long ends in the slot -/
def lFree (ls : LLoc) (i : Nat) : Bool := match i with
  | 0 => true
  | j + 1 => match lGet ls j with
    | some v => v.category == 1
    | none => true
def withI (st : List Value) (f : Int32 → List Value → Option LRes) : Option LRes := match st with
  | .int x :: r => f x r
  | _ => none
def withL (st : List Value) (f : Int64 → List Value → Option LRes) : Option LRes := match st with
  | .long x :: r => f x r
  | _ => none
def withR (st : List Value) (f : Nat → List Value → Option LRes) : Option LRes := match st with
  | .ref x :: r => f x r
  | _ => none
def withObj (c : LCell) (f : Nat → List Value → Option LRes) : Option LRes := match c with
  | some (.inl (ci, fs)) => f ci fs
  | _ => none
def withArr (c : LCell) (f : FieldType → List Value → Option LRes) : Option LRes := match c with
  | some (.inr (ty, vs)) => f ty vs
  | _ => none
def withV (v : Option Value) (f : Value → Option LRes) : Option LRes := match v with
  | some v => f v
  | none => none
def nx (ls : LLoc) (st : List Value) (h : LHeap) : Option LRes := some (.inl (none, ls, st, h))
def jp (t : Int) (ls : LLoc) (st : List Value) (h : LHeap) : Option LRes := some (.inl (some t.toNat, ls, st, h))
def gd (c : Prop) [Decidable c] (r : Option LRes) : Option LRes := if c then r else none
def cmpC (c : ClassFile.Cond) (x y : Int32) : Bool := match c with
  | .eq => decide (x = y)
  | .ne => decide (¬ x = y)
  | .lt => decide (x < y)
  | .ge => decide (y ≤ x)
  | .gt => decide (y < x)
  | .le => decide (x ≤ y)
def cpyL (v0 : List Value) (sp : Nat) (v1 : List Value) (dp n : Nat) : List Value := v1.take dp ++ ((v0.drop sp).take n ++ v1.drop (dp + n))
def tyState : FieldType := .object "WakeOrder$State"
def stepI (d : Nat) (i : Instr) (ls : LLoc) (st : List Value) (h : LHeap) : Option LRes :=
  match i with
  | .nop => nx ls st h
  | .iconst z => nx ls (.int (Int32.ofInt z) :: st) h
  | .jsr_w z => nx ls (.long (Int64.ofInt z) :: st) h
  | .aconst_null => nx ls (.null :: st) h
  | .iload i => withV (lGet ls i) fun v => withI [v] fun x _ => nx ls (.int x :: st) h
  | .lload i => withV (lGet ls i) fun v => withL [v] fun x _ => nx ls (.long x :: st) h
  | .aload i => withV (lGet ls i) fun v => withR [v] fun a _ => nx ls (.ref a :: st) h
  | .istore i => withI st fun x r => gd (lFree ls i = true ∧ i < ls.length) (nx (ls.set i (some (.int x))) r h)
  | .lstore i => withL st fun x r => gd (lFree ls i = true ∧ i + 1 < ls.length) (nx ((ls.set i (some (.long x))).set (i + 1) none) r h)
  | .astore i => withR st fun a r => gd (lFree ls i = true ∧ i < ls.length) (nx (ls.set i (some (.ref a))) r h)
  | .iinc i z => withV (lGet ls i) fun v => withI [v] fun x _ => gd (lFree ls i = true) (nx (ls.set i (some (.int (x + Int32.ofInt z)))) st h)
  | .iadd => withI st fun y r => withI r fun x r => nx ls (.int (x + y) :: r) h
  | .isub => withI st fun y r => withI r fun x r => nx ls (.int (x - y) :: r) h
  | .imul => withI st fun y r => withI r fun x r => nx ls (.int (x * y) :: r) h
  | .iand => withI st fun y r => withI r fun x r => nx ls (.int (x &&& y) :: r) h
  | .ior => withI st fun y r => withI r fun x r => nx ls (.int (x ||| y) :: r) h
  | .ixor => withI st fun y r => withI r fun x r => nx ls (.int (x ^^^ y) :: r) h
  | .ishl => withI st fun y r => withI r fun x r => nx ls (.int (x <<< (y &&& 31)) :: r) h
  | .ishr => withI st fun y r => withI r fun x r => nx ls (.int (x >>> (y &&& 31)) :: r) h
  | .iushr => withI st fun y r => withI r fun x r => nx ls (.int (x.toUInt32 >>> (y.toUInt32 &&& 31)).toInt32 :: r) h
  | .idiv => withI st fun y r => withI r fun x r => gd (¬ y = 0) (nx ls (.int (x / y) :: r) h)
  | .irem => withI st fun y r => withI r fun x r => gd (¬ y = 0) (nx ls (.int (x - x / y * y) :: r) h)
  | .ladd => withL st fun y r => withL r fun x r => nx ls (.long (x + y) :: r) h
  | .lmul => withL st fun y r => withL r fun x r => nx ls (.long (x * y) :: r) h
  | .land => withL st fun y r => withL r fun x r => nx ls (.long (x &&& y) :: r) h
  | .ldiv => withL st fun y r => withL r fun x r => gd (¬ y = 0) (nx ls (.long (x / y) :: r) h)
  | .lrem => withL st fun y r => withL r fun x r => gd (¬ y = 0) (nx ls (.long (x - x / y * y) :: r) h)
  | .lcmp => withL st fun y r => withL r fun x r => nx ls (.int (lg_cmp x y) :: r) h
  | .i2l => withI st fun x r => nx ls (.long x.toInt64 :: r) h
  | .l2i => withL st fun x r => nx ls (.int x.toInt32 :: r) h
  | .dup => match st with
    | v :: r => gd (v.category = 1) (nx ls (v :: v :: r) h)
    | [] => none
  | .dup2 => match st with
    | v :: w :: r => gd (v.category = 1 ∧ w.category = 1) (nx ls (v :: w :: v :: w :: r) h)
    | _ => none
  | .pop => withR st fun _ r => gd (0 < d ∧ r.length ≤ 4) (nx ls r h)
  | .goto t => jp t ls st h
  | .ifCond c t => withI st fun x r => if cmpC c x 0 = true then jp t ls r h else nx ls r h
  | .if_icmp c t => withI st fun y r => withI r fun x r => if cmpC c x y = true then jp t ls r h else nx ls r h
  | .ifnull t => match st with
    | .null :: r => jp t ls r h
    | .ref _ :: r => nx ls r h
    | _ => none
  | .tableswitch dflt lo hi offs => withI st fun x r => if x.toInt < lo ∨ hi < x.toInt then jp dflt ls r h else match offs[(x.toInt - lo).toNat]? with
    | some t => jp t ls r h
    | none => none
  | .lookupswitch dflt ps => withI st fun x r => jp (Op.lookupswitch.offset ps.toList dflt x.toInt) ls r h
  | .getfield n => withR st fun a r => withObj (hRd h a) fun ci fs => gd (ci = n / 64) (withV (fs[n % 64]?) fun v => nx ls (v :: r) h)
  | .putfield n => withI st fun x r => withR r fun a r => withObj (hRd h a) fun ci fs => gd (ci = n / 64) (nx ls r (hWr h a (some (.inl (ci, fs.set (n % 64) (.int x))))))
  | .putstatic n => withR st fun x r => withR r fun a r => withObj (hRd h a) fun ci fs => gd (ci = n / 64) (nx ls r (hWr h a (some (.inl (ci, fs.set (n % 64) (.ref x))))))
  | .new ci => nx ls (.ref h.1 :: st) (hNew h (clsN ci) (some (.inl (ci, clsDef ci))))
  | .newarray .int => withI st fun n r => gd (0 ≤ n ∧ n ≤ 1000) (nx ls (.ref h.1 :: r) (hNew h n.toNatClampNeg (some (.inr (.int, List.replicate n.toNatClampNeg (.int 0))))))
  | .newarray .boolean => withI st fun n r => gd (0 ≤ n ∧ n ≤ 1000) (nx ls (.ref h.1 :: r) (hNew h n.toNatClampNeg (some (.inr (.boolean, List.replicate n.toNatClampNeg (.int 0))))))
  | .anewarray _ => withI st fun n r => gd (0 ≤ n ∧ n ≤ 1000) (nx ls (.ref h.1 :: r) (hNew h n.toNatClampNeg (some (.inr (tyState, List.replicate n.toNatClampNeg .null)))))
  | .iaload => withI st fun i r => withR r fun a r => withArr (hRd h a) fun ty vs => gd (ty = .int ∧ 0 ≤ i) (withV (vs[i.toNatClampNeg]?) fun v => nx ls (v :: r) h)
  | .baload => withI st fun i r => withR r fun a r => withArr (hRd h a) fun ty vs => gd (ty = .boolean ∧ 0 ≤ i) (withV (vs[i.toNatClampNeg]?) fun v => nx ls (v :: r) h)
  | .aaload => withI st fun i r => withR r fun a r => withArr (hRd h a) fun ty vs => gd (ty = tyState ∧ 0 ≤ i) (withV (vs[i.toNatClampNeg]?) fun v => nx ls (v :: r) h)
  | .iastore => withI st fun x r => withI r fun i r => withR r fun a r => withArr (hRd h a) fun ty vs => gd (ty = .int ∧ 0 ≤ i ∧ i.toNatClampNeg < vs.length ∧ ¬ a = 0) (nx ls r (hWr h a (some (.inr (ty, vs.set i.toNatClampNeg (.int x))))))
  | .bastore => withI st fun x r => withI r fun i r => withR r fun a r => withArr (hRd h a) fun ty vs => gd (ty = .boolean ∧ 0 ≤ i ∧ i.toNatClampNeg < vs.length ∧ (x = 0 ∨ x = 1)) (nx ls r (hWr h a (some (.inr (ty, vs.set i.toNatClampNeg (.int x))))))
  | .aastore => withR st fun v r => withI r fun i r => withR r fun a r => withArr (hRd h a) fun ty vs => withObj (hRd h v) fun ci _ => gd (ty = tyState ∧ 0 ≤ i ∧ i.toNatClampNeg < vs.length ∧ ci = 7) (nx ls r (hWr h a (some (.inr (ty, vs.set i.toNatClampNeg (.ref v))))))
  | .arraylength => withR st fun a r => withArr (hRd h a) fun _ vs => nx ls (.int (Int32.ofNat vs.length) :: r) h
  | .invokedynamic _ => withI st fun n r => withI r fun dp r => withR r fun a1 r => withI r fun sp r => withR r fun a0 r =>
      withArr (hRd h a0) fun t0 v0 => withArr (hRd h a1) fun t1 v1 =>
        gd (0 < d ∧ r.length ≤ 4 ∧ t0 = .int ∧ t1 = .int ∧ 0 ≤ sp ∧ 0 ≤ dp ∧ 0 ≤ n ∧ sp.toNatClampNeg + n.toNatClampNeg ≤ v0.length ∧ dp.toNatClampNeg + n.toNatClampNeg ≤ v1.length ∧ ¬ a0 = 0 ∧ ¬ a1 = 0)
          (nx ls r (hWr h a1 (some (.inr (t1, cpyL v0 sp.toNatClampNeg v1 dp.toNatClampNeg n.toNatClampNeg)))))
  | .invokeinterface n _ => withI st fun y r => withI r fun x r => gd (0 < d ∧ r.length ≤ 4) (nx ls (.int (if n = 0 then (if x < y then y else x) else (if y < x then y else x)) :: r) h)
  | .invokestatic k => gd (mNa k ≤ st.length ∧ (st.drop (mNa k)).length ≤ 4) (some (.inr (.inr (k, (st.take (mNa k)).reverse, st.drop (mNa k)))))
  | .ireturn => match st with
    | [.int x] => some (.inr (.inl (some (.int x))))
    | _ => none
  | .areturn => match st with
    | [.int x] => gd (x = 0 ∨ x = 1) (some (.inr (.inl (some (.int x)))))
    | _ => none
  | .return_ => match st with
    | [] => some (.inr (.inl none))
    | _ => none
  | _ => none
def expV (v : Value) : LLoc := if v.category = 2 then [some v, none] else [some v]
def entL (k : Nat) (as : List Value) : LLoc := as.flatMap expV ++ List.replicate (mL k - (as.flatMap expV).length) none
def isRecv (k : Nat) (as : List Value) (h : LHeap) : Bool := match as with
  | .ref a :: _ => match hRd h a with
    | some (.inl (ci, _)) => ci == mCi k
    | _ => false
  | _ => false
def callOk (k : Nat) (as : List Value) (h : LHeap) : Bool := decide (k < nMeth ∧ ¬ k = 181 ∧ ¬ k = 182) && decide ((as.flatMap expV).length ≤ mL k) && decide (as.length = mNa k) && (mKind k == 0 || isRecv k as h)
def runF : Nat → Nat → Nat → Nat → LLoc → List Value → LHeap → Option (Option Value × LHeap)
  | 0, _, _, _, _, _, _ => none
  | n + 1, d, k, pc, ls, st, h => match (lcode k)[pc]? with
    | none => none
    | some i => match stepI d i ls st h with
      | none => none
      | some (.inl (t, ls1, st1, h1)) => runF n d k (t.getD (pc + 1)) ls1 st1 h1
      | some (.inr (.inl v)) => some (v, h)
      | some (.inr (.inr (k1, as, r))) => match d with
        | 0 => none
        | d1 + 1 => match callOk k1 as h with
          | false => none
          | true => match runF n d1 k1 0 (entL k1 as) [] h with
            | none => none
            | some (v, h1) => runF n (d1 + 1) k (pc + 1) ls (v.toList ++ r) h1
-- ===== what ties the little machine's instruction to the class file's
def memAt (p : Nat) (w : Jvm.Cond) : Bool := decide (lw_tbl[p]? = some w)
def okConst (own : String) (z : Int) (raw : Instr) (len hint : Nat) : Bool := match raw with
  | .iconst y => decide (Int32.ofInt y = Int32.ofInt z) && len == 1
  | .bipush y => decide ((Int8.ofInt y).toInt32 = Int32.ofInt z) && len == 2
  | .sipush y => decide ((Int16.ofInt y).toInt32 = Int32.ofInt z) && len == 3
  | .ldc ix => memAt hint (.constant own ix (Int32.ofInt z)) && len == 2
  | .ldc_w ix => memAt hint (.constant own ix (Int32.ofInt z)) && len == 3
  | _ => false
def okConstL (own : String) (z : Int) (raw : Instr) (len hint : Nat) : Bool := match raw with
  | .lconst n => decide (Int64.ofNat (n : Nat) = Int64.ofInt z) && len == 1
  | .ldc2_w ix => memAt hint (.constantLong own ix (Int64.ofInt z)) && len == 3
  | _ => false
def okFld (own : String) (n ix hint : Nat) : Bool := match vwCl[n / 64]? with
  | some (_, T, N) => decide (n % 64 < N) && memAt hint (.fieldLink own ix (T (n % 64)).1 (T (n % 64)).2.1 (T (n % 64)).2.2.1)
  | none => false
def okPut (k n : Nat) (rf : Bool) : Bool := match vwCl[n / 64]? with
  | some (_, T, _) => (!(T (n % 64)).2.2.2 || (decide ((mY k).name = "<init>") && decide ((T (n % 64)).1 = (mY k).cls))) && (match parseFieldDescriptor (T (n % 64)).2.2.1, rf with
    | some .int, false => true
    | some (.object _), true => true
    | some (.array _), true => true
    | _, _ => false)
  | none => false
def okTab (k pc : Nat) (a b : List Int) : Bool := match a, b with
  | [], [] => true
  | x :: a, y :: b => decide ((pc : Int) + y = (pcOf k x.toNat : Int)) && okTab k pc a b
  | _, _ => false
def okLkp (k pc : Nat) (a b : List (Int × Int)) : Bool := match a, b with
  | [], [] => true
  | x :: a, y :: b => decide (x.1 = y.1) && decide ((pc : Int) + y.2 = (pcOf k x.2.toNat : Int)) && okLkp k pc a b
  | _, _ => false
def okJ (k pc : Nat) (t off : Int) (len : Nat) : Bool := decide ((pc : Int) + off = (pcOf k t.toNat : Int)) && len == 3
def okCall (own : String) (k1 : Nat) (raw : Instr) (len hint : Nat) : Bool := len == 3 && decide (k1 < nMeth) && (match raw, mKind k1 with
  | .invokestatic ix, 0 => memAt hint (.methodLink own ix (mY k1)) || nests.contains (.methodLinkNest own ix (mY k1) "WakeOrder")
  | .invokevirtual ix, 1 => memAt hint (.methodLink own ix (mY k1)) || nests.contains (.methodLinkNest own ix (mY k1) "WakeOrder")
  | .invokespecial ix, 2 => memAt hint (.methodLink own ix (mY k1)) || nests.contains (.methodLinkNest own ix (mY k1) "WakeOrder")
  | _, _ => false)
def okB (k ip : Nat) (lm : Instr) (pc : Nat) (raw : Instr) (len hint : Nat) : Bool :=
  let own := (mY k).cls
  let nxt : Nat → Bool := fun n => len == n && pcOf k (ip + 1) == pc + n
  match lm with
  | .nop => pcOf k (ip + 1) == pc
  | .iconst z => okConst own z raw len hint && pcOf k (ip + 1) == pc + len
  | .jsr_w z => okConstL own z raw len hint && pcOf k (ip + 1) == pc + len
  | .iload i => pcOf k (ip + 1) == pc + len && (match raw with | .iload j => i == j && len == 2 | .iload_n j => i == (j : Nat) && len == 1 | _ => false)
  | .lload i => pcOf k (ip + 1) == pc + len && (match raw with | .lload j => i == j && len == 2 | .lload_n j => i == (j : Nat) && len == 1 | _ => false)
  | .aload i => pcOf k (ip + 1) == pc + len && (match raw with | .aload j => i == j && len == 2 | .aload_n j => i == (j : Nat) && len == 1 | _ => false)
  | .istore i => pcOf k (ip + 1) == pc + len && (match raw with | .istore j => i == j && len == 2 | .istore_n j => i == (j : Nat) && len == 1 | _ => false)
  | .lstore i => pcOf k (ip + 1) == pc + len && (match raw with | .lstore j => i == j && len == 2 | .lstore_n j => i == (j : Nat) && len == 1 | _ => false)
  | .astore i => pcOf k (ip + 1) == pc + len && (match raw with | .astore j => i == j && len == 2 | .astore_n j => i == (j : Nat) && len == 1 | _ => false)
  | .iinc i z => nxt 3 && decide (raw = .iinc i z)
  | .pop => nxt 3 && (match raw with | .invokespecial ix => memAt hint (.methodLink own ix objectInit) | _ => false)
  | .goto t => match raw with | .goto off => okJ k pc t off len | _ => false
  | .ifCond c t => nxt 3 && (match raw with | .ifCond c1 off => decide (c = c1) && okJ k pc t off len | _ => false)
  | .if_icmp c t => nxt 3 && (match raw with | .if_icmp c1 off => decide (c = c1) && okJ k pc t off len | _ => false)
  | .ifnull t => nxt 3 && (match raw with | .ifnull off => okJ k pc t off len | _ => false)
  | .tableswitch d lo hi os => match raw with | .tableswitch d1 lo1 hi1 os1 => lo == lo1 && hi == hi1 && decide ((pc : Int) + d1 = (pcOf k d.toNat : Int)) && okTab k pc os.toList os1.toList | _ => false
  | .lookupswitch d ps => match raw with | .lookupswitch d1 ps1 => decide ((pc : Int) + d1 = (pcOf k d.toNat : Int)) && okLkp k pc ps.toList ps1.toList && (ps1.toList.zip (ps1.toList.drop 1)).all (fun (a, next) => a.1 < next.1) | _ => false
  | .getfield n => nxt 3 && (match raw with | .getfield ix => okFld own n ix hint | _ => false)
  | .putfield n => nxt 3 && (match raw with | .putfield ix => okFld own n ix hint && okPut k n false | _ => false)
  | .putstatic n => nxt 3 && (match raw with | .putfield ix => okFld own n ix hint && okPut k n true | _ => false)
  | .new ci => nxt 3 && (match raw, vwCl[ci]? with | .new ix, some (C, _, N) => memAt hint (.classLink own ix C) && clsN ci == N | _, _ => false)
  | .newarray t => nxt 2 && decide (raw = .newarray t)
  | .anewarray _ => nxt 3 && (match raw with | .anewarray ix => memAt hint (.classLink own ix "WakeOrder$State") | _ => false)
  | .invokedynamic _ => nxt 3 && (match raw with | .invokestatic ix => memAt hint (.methodLink own ix arraycopyName) | _ => false)
  | .invokeinterface n _ => nxt 3 && (match raw with | .invokestatic ix => memAt hint (.methodLink own ix (if n = 0 then Lib.Math.max.name else Lib.Math.min.name)) | _ => false)
  | .invokestatic k1 => nxt 3 && okCall own k1 raw len hint
  | .ireturn => decide (raw = .ireturn) && len == 1 && decide (mRet k = some .int)
  | .areturn => decide (raw = .ireturn) && len == 1 && decide (mRet k = some .boolean)
  | .return_ => decide (raw = .return_) && len == 1 && decide (mRet k = none)
  | i => nxt 1 && decide (raw = i)
def okRow (k ip : Nat) (r : LRow) : Bool := (match decode (mB k) r.2.1 with | .ok q => decide (q = (r.2.2.1, r.2.2.2.1)) | .error _ => false) && okB k ip r.1 r.2.1 r.2.2.1 r.2.2.2.1 r.2.2.2.2
def okNop (k ip : Nat) (r : LRow) : Bool := decide (r.1 = .nop) && pcOf k (ip + 1) == r.2.1
def okRows (k : Nat) : List LRow → Nat → Bool
  | [], _ => true
  | r :: rs, ip => (okNop k ip r || okRow k ip r) && okRows k rs (ip + 1)
def okHead (k : Nat) : Bool :=
  let y := mY k
  plainName y.cls && decide (y.cls ≠ "java/lang/invoke/MethodHandle" ∧ y.cls ≠ "java/lang/invoke/VarHandle" ∧ (parseMethodDescriptor y.desc).map (fun d => d.parameters.length) = some (mNp k)) &&
    memAt (mHc k) (.code y (mB k) (mL k) (mRet k)) && memAt (mHi k) (.initialized y.cls) && decide (mL k ≤ 11) &&
    (match mKind k with
    | 0 => memAt (mHm k) (.static y) && mNa k == mNp k
    | 1 => memAt (mHm k) (.instanceMethod y) && memAt (mHs k) (.selects y.cls y y) && mNa k == mNp k + 1 && (match vwCl[mCi k]? with | some q => decide (q.1 = y.cls) | none => false)
    | 2 => memAt (mHm k) (.instanceMethod y) && decide (y.name = "<init>") && decide (mRet k = none) && mNa k == mNp k + 1
    | _ => false)
def nCh (k : Nat) : Nat := ((mRows k).length + 39) / 40
def okChunk (k i : Nat) : Bool := okRows k (((mRows k).drop (40 * i)).take 40) (40 * i)
def okRowsAll (k : Nat) : Prop := ∀ i, i < nCh k → okChunk k i = true
def okHeadAll (k : Nat) : Prop := k = 181 ∨ k = 182 ∨ okHead k = true
end
section
-- WHAT TIES THE LITTLE MACHINE'S STATE TO THE MACHINE'S
abbrev LG : Type := Nat × Nat × Nat × (Nat → Int32) × va_G × ClassId × ClassId × ClassId
def gz (g : LG) : Nat := g.1
def gb (g : LG) : Nat := g.2.1
def gL (g : LG) : Nat := g.2.2.1
def gx (g : LG) : Nat → Int32 := g.2.2.2.1
def gD (g : LG) : va_G := g.2.2.2.2.1
def gI (g : LG) : ClassId := g.2.2.2.2.2.1
def gZ (g : LG) : ClassId := g.2.2.2.2.2.2.1
def gS (g : LG) : ClassId := g.2.2.2.2.2.2.2
def gA (g : LG) : Nat → Prop := fun q => gz g ≤ q
def gT (g : LG) : List (ClassId × FieldType) := [(gI g, .int), (gZ g, .boolean), (gS g, tyState)]
def adr (g : LG) (a : Nat) : Nat := match a with
  | 0 => gb g
  | a + 1 => gz g + a
def tr (g : LG) (v : Value) : Value := match v with
  | .ref a => .ref (adr g a)
  | v => v
theorem tr_cat {g : LG} {v : Value} : (tr g v).category = v.category := by cases v <;> rfl
def encI (vs : List Value) (j : Nat) : Int32 := match vs[j]? with
  | some (.int x) => x
  | _ => 0
def encR (g : LG) (vs : List Value) (j : Nat) : Option Nat := match vs[j]? with
  | some (.ref a) => some (adr g a)
  | _ => none
def enc (g : LG) (c : LCell) : va_E := match c with
  | some (.inl (ci, fs)) => .inr (ci, fs.map (tr g))
  | some (.inr (.int, vs)) => .inl (gI g, vs.length, .inl (encI vs))
  | some (.inr (.boolean, vs)) => .inl (gZ g, vs.length, .inl (encI vs))
  | some (.inr (_, vs)) => .inl (gS g, vs.length, .inr (.inr (.inr (.inr (encR g vs)))))
  | none => .inr (0, [])
def wsOf (g : LG) (h : LHeap) : va_W := (List.range (h.1 - 1)).map fun i => (gz g + i, enc g (hRd h (i + 1)))
theorem ws_get {g : LG} {h : LHeap} {a : Nat} (ha : a + 1 < h.1) : (wsOf g h)[a]? = some (gz g + a, enc g (hRd h (a + 1))) := by
  have : a < h.1 - 1 := by omega
  simp [wsOf, this]
theorem ws_inv {g : LG} {h : LHeap} {a : Nat} {q : Nat × va_E} (hq : (wsOf g h)[a]? = some q) : a + 1 < h.1 ∧ q = (gz g + a, enc g (hRd h (a + 1))) := by
  by_cases ha : a + 1 < h.1
  · rw [ws_get ha] at hq
    exact ⟨ha, (Option.some.inj hq).symm⟩
  · have : ¬ a < h.1 - 1 := by omega
    simp [wsOf, this] at hq
theorem ws_len {g : LG} {h : LHeap} : (wsOf g h).length = h.1 - 1 := by simp [wsOf]
theorem ws_set {g : LG} {h : LHeap} {a : Nat} (c : LCell) (ha : a + 1 < h.1) : (wsOf g h).set a (gz g + a, enc g c) = wsOf g (hWr h (a + 1) c) := by
  apply List.ext_getElem?
  intro i
  rw [List.getElem?_set]
  by_cases hi : a = i
  · subst hi
    have hl : a < (wsOf g h).length := by rw [ws_len]; omega
    have h2 : a + 1 < (hWr h (a + 1) c).1 := ha
    rw [if_pos rfl, if_pos hl, ws_get h2]
    simp [hRd, hWr]
  · rw [if_neg hi]
    by_cases hl : i + 1 < h.1
    · have h2 : i + 1 < (hWr h (a + 1) c).1 := hl
      rw [ws_get hl, ws_get h2]
      have : ¬ i = a := fun q => hi q.symm
      simp [hRd, hWr, this]
    · have h1 : (wsOf g h).length ≤ i := by rw [ws_len]; omega
      have h2 : (wsOf g (hWr h (a + 1) c)).length ≤ i := by rw [ws_len]; show h.1 - 1 ≤ i; omega
      rw [List.getElem?_eq_none h1, List.getElem?_eq_none h2]
theorem ws_push {g : LG} {h : LHeap} {sl : Nat} (c : LCell) (h1 : 1 ≤ h.1) : wsOf g h ++ [(gz g + (h.1 - 1), enc g c)] = wsOf g (hNew h sl c) := by
  have e : (hNew h sl c).1 - 1 = (h.1 - 1) + 1 := by show h.1 + 1 - 1 = _; omega
  unfold wsOf
  rw [e, List.range_succ, List.map_append]
  congr 1
  · apply List.map_congr_left
    intro i hi
    have : i < h.1 - 1 := List.mem_range.mp hi
    have h3 : ¬ i + 1 = h.1 := by omega
    simp [hRd, hNew, h3]
  · have h3 : h.1 - 1 + 1 = h.1 := by omega
    simp [hRd, hNew, h3]
theorem ws_D {g : LG} {h : LHeap} : va_D (gA g) (wsOf g h) := by
  refine ⟨fun i j p q hp hq e => ?_, fun k q hq => ?_⟩
  · rw [(ws_inv hp).2, (ws_inv hq).2] at e
    have e : gz g + i = gz g + j := e
    omega
  · rw [(ws_inv hq).2]
    show gz g ≤ gz g + k
    omega
def cellOk (c : (Nat × List Value) ⊕ (FieldType × List Value)) : Prop := match c with
  | .inl (ci, fs) => ∃ q, vwCl[ci]? = some q ∧ fs.length = q.2.2
  | .inr (.int, vs) => ∀ v ∈ vs, ∃ x, v = .int x
  | .inr (.boolean, vs) => ∀ v ∈ vs, v = .int 0 ∨ v = .int 1
  | .inr (ty, vs) => ty = tyState ∧ ∀ v ∈ vs, v = .null ∨ ∃ a, v = .ref a
def WfH (g : LG) (h : LHeap) : Prop := 1 ≤ h.1 ∧ hRd h 0 = some (.inr (.int, (List.range (gL g)).map fun j => .int (gx g j))) ∧ ∀ a c, hRd h (a + 1) = some c → a + 1 < h.1 ∧ cellOk c
theorem WfH.wr {g : LG} {h : LHeap} {a : Nat} {c0 c : (Nat × List Value) ⊕ (FieldType × List Value)} (hw : WfH g h) (h0 : hRd h (a + 1) = some c0) (hc : cellOk c) : WfH g (hWr h (a + 1) (some c)) := by
  refine ⟨hw.1, ?_, fun x y hy => ?_⟩
  · have := hw.2.1
    simpa [hRd, hWr] using this
  · by_cases hx : x = a
    · subst hx
      simp [hRd, hWr] at hy
      subst hy
      exact ⟨(hw.2.2 _ _ h0).1, hc⟩
    · have : hRd h (x + 1) = some y := by simpa [hRd, hWr, hx] using hy
      exact hw.2.2 _ _ this
theorem WfH.new {g : LG} {h : LHeap} {sl : Nat} {c : (Nat × List Value) ⊕ (FieldType × List Value)} (hw : WfH g h) (hc : cellOk c) : WfH g (hNew h sl (some c)) := by
  have h1 := hw.1
  refine ⟨by show 1 ≤ h.1 + 1; omega, ?_, fun x y hy => ?_⟩
  · have := hw.2.1
    have h0 : ¬ 0 = h.1 := by omega
    simpa [hRd, hNew, h0] using this
  · by_cases hx : x + 1 = h.1
    · have : y = c := by simpa [hRd, hNew, hx] using hy.symm
      subst this
      exact ⟨by show x + 1 < h.1 + 1; omega, hc⟩
    · have h2 : hRd h (x + 1) = some y := by simpa [hRd, hNew, hx] using hy
      obtain ⟨q1, q2⟩ := hw.2.2 _ _ h2
      exact ⟨by show x + 1 < h.1 + 1; omega, q2⟩
/-- an object is no script -/
theorem WfH.obj {g : LG} {h : LHeap} {a ci : Nat} {fs : List Value} (hw : WfH g h) (hc : hRd h a = some (.inl (ci, fs))) : ∃ a1, a = a1 + 1 ∧ a1 + 1 < h.1 ∧ ∃ q, vwCl[ci]? = some q ∧ fs.length = q.2.2 := by
  cases a with
  | zero => rw [hw.2.1] at hc; cases hc
  | succ a =>
    obtain ⟨h1, h2⟩ := hw.2.2 _ _ hc
    exact ⟨a, rfl, h1, h2⟩
/-- the class's facts, by its number -/
def clsFacts (ci : Nat) (C : String) (T : u_T) (N : Nat) : Prop := (∃ ty : Nat → FieldType, (∀ k, k < N → parseFieldDescriptor (T k).2.2.1 = some (ty k)) ∧ ∀ j, j < N → defaultValue (ty j) = vp_V (clsDef ci) j) ∧ (∀ a, a < N → ∀ b, b < N → a ≠ b → (T a).2.1 ≠ (T b).2.1) ∧ (u_ws C T N).all (fun w => decide (w ∈ lw_tbl) && goodWord w) = true ∧ Cond.instantiable C N ∈ lw_tbl ∧ Cond.initialized C ∈ lw_tbl ∧ clsN ci = N ∧ (∀ v ∈ clsDef ci, v = .int 0 ∨ v = .null)
set_option maxRecDepth 100000 in
theorem clsF0 : clsFacts 0 RX0 TX0 3 := ⟨⟨tyX0, tyX0_ok, by decide +kernel⟩, nmX0, by decide +kernel, by decide +kernel, by decide +kernel, by decide +kernel, by decide +kernel⟩
set_option maxRecDepth 100000 in
theorem clsF1 : clsFacts 1 RX1 TX1 5 := ⟨⟨tyX1, tyX1_ok, by decide +kernel⟩, nmX1, by decide +kernel, by decide +kernel, by decide +kernel, by decide +kernel, by decide +kernel⟩
set_option maxRecDepth 100000 in
theorem clsF2 : clsFacts 2 RX2 TX2 8 := ⟨⟨tyX2, tyX2_ok, by decide +kernel⟩, nmX2, by decide +kernel, by decide +kernel, by decide +kernel, by decide +kernel, by decide +kernel⟩
set_option maxRecDepth 100000 in
theorem clsF3 : clsFacts 3 RX3 TX3 3 := ⟨⟨tyX3, tyX3_ok, by decide +kernel⟩, nmX3, by decide +kernel, by decide +kernel, by decide +kernel, by decide +kernel, by decide +kernel⟩
set_option maxRecDepth 100000 in
theorem clsF4 : clsFacts 4 RX4 TX4 3 := ⟨⟨tyX4, tyX4_ok, by decide +kernel⟩, nmX4, by decide +kernel, by decide +kernel, by decide +kernel, by decide +kernel, by decide +kernel⟩
set_option maxRecDepth 100000 in
theorem clsF5 : clsFacts 5 RX5 TX5 7 := ⟨⟨tyX5, tyX5_ok, by decide +kernel⟩, nmX5, by decide +kernel, by decide +kernel, by decide +kernel, by decide +kernel, by decide +kernel⟩
set_option maxRecDepth 100000 in
theorem clsF6 : clsFacts 6 RX6 TX6 2 := ⟨⟨tyX6, tyX6_ok, by decide +kernel⟩, nmX6, by decide +kernel, by decide +kernel, by decide +kernel, by decide +kernel, by decide +kernel⟩
set_option maxRecDepth 100000 in
theorem clsF7 : clsFacts 7 RX7 TX7 5 := ⟨⟨tyX7, tyX7_ok, by decide +kernel⟩, nmX7, by decide +kernel, by decide +kernel, by decide +kernel, by decide +kernel, by decide +kernel⟩
set_option maxRecDepth 100000 in
theorem clsF8 : clsFacts 8 RX8 TX8 5 := ⟨⟨tyX8, tyX8_ok, by decide +kernel⟩, nmX8, by decide +kernel, by decide +kernel, by decide +kernel, by decide +kernel, by decide +kernel⟩
set_option maxRecDepth 100000 in
theorem clsF9 : clsFacts 9 RX9 TX9 7 := ⟨⟨tyX9, tyX9_ok, by decide +kernel⟩, nmX9, by decide +kernel, by decide +kernel, by decide +kernel, by decide +kernel, by decide +kernel⟩
set_option maxRecDepth 100000 in
theorem clsF10 : clsFacts 10 RX10 TX10 10 := ⟨⟨tyX10, tyX10_ok, by decide +kernel⟩, nmX10, by decide +kernel, by decide +kernel, by decide +kernel, by decide +kernel, by decide +kernel⟩
set_option maxRecDepth 100000 in
theorem clsF11 : clsFacts 11 RX11 TX11 40 := ⟨⟨tyX11, tyX11_ok, by decide +kernel⟩, nmX11, by decide +kernel, by decide +kernel, by decide +kernel, by decide +kernel, by decide +kernel⟩
theorem cls_of {ci : Nat} {q : vw_C} (h : vwCl[ci]? = some q) : clsFacts ci q.1 q.2.1 q.2.2 := by
  match ci, h with
  | 0, h => cases h; exact clsF0
  | 1, h => cases h; exact clsF1
  | 2, h => cases h; exact clsF2
  | 3, h => cases h; exact clsF3
  | 4, h => cases h; exact clsF4
  | 5, h => cases h; exact clsF5
  | 6, h => cases h; exact clsF6
  | 7, h => cases h; exact clsF7
  | 8, h => cases h; exact clsF8
  | 9, h => cases h; exact clsF9
  | 10, h => cases h; exact clsF10
  | 11, h => cases h; exact clsF11
  | n + 12, h => simp [vwCl] at h
def gTbl : List Jvm.Cond := lw_tbl.filter goodWord
theorem gTbl_in {w : Jvm.Cond} (h : w ∈ lw_tbl) (hg : goodWord w = true) : w ∈ gTbl := List.mem_filter.mpr ⟨h, hg⟩
theorem memAt_in {p : Nat} {w : Jvm.Cond} (h : memAt p w = true) : w ∈ lw_tbl := List.mem_of_getElem? (of_decide_eq_true h)
theorem cls_lays {ci : Nat} {q : vw_C} (h : vwCl[ci]? = some q) : ∀ w ∈ u_ws q.1 q.2.1 q.2.2, w ∈ gTbl := by
  intro w hw
  have h1 := List.all_eq_true.mp (cls_of h).2.2.1 w hw
  simp only [Bool.and_eq_true, decide_eq_true_eq] at h1
  exact gTbl_in h1.1 h1.2
def wsK (k : Nat) : List Jvm.Cond := Cond.code (mY k) (mB k) (mL k) (mRet k) :: gTbl
def Wld (g : LG) (s : State) (H : Heap) (h : LHeap) : Prop := va_K (gD g) vwCl (gT g) s ∧ va_P (gD g) vwCl (wsOf g h) H ∧ WfH g h
/-- what stays through a frame -/
def Fr (g : LG) (k : Nat) (h0 : LHeap) (p : Program) (s : State) (m : MethodId) (args : Array Value) (meth : Method) (c : Code) : Prop :=
  p.tables.exec = Jvm.exec ∧ c.code = mB k ∧ c.maxLocals = mL k ∧ meth.sig.returnType = mRet k ∧ s.vm.findClass (mY k).cls = some m.cls ∧ (∀ w ∈ gTbl, w.before args s = true) ∧ meth.locks = false ∧ ((mY k).name = "<init>" → meth.name = "<init>") ∧
  s.heap.size = gz g + (h0.1 - 1) ∧ va_X (gb g) (gL g) (gx g) s s.heap ∧ gb g < gz g ∧ (∀ w ∈ nests, va_Nw w s) ∧ va_AO "WakeOrder$State" s
def LocOK (g : LG) (lsR : Array Slot) (n : Nat) (ls : LLoc) : Prop := lsR.size = n ∧ ls.length = n ∧ lv_wf lsR ∧ ∀ j v, lGet ls j = some v → lsR[j]? = some (.val (tr g v))
def asc (g : LG) (ls : LLoc) : List (Nat × Value) := (List.range ls.length).filterMap fun j => (lGet ls j).map fun v => (j, tr g v)
theorem lGet_lt {ls : LLoc} {j : Nat} {v : Value} (h : lGet ls j = some v) : j < ls.length := by
  unfold lGet at h
  split at h
  · rename_i hx
    exact (List.getElem?_eq_some_iff.mp hx).1
  · cases h
theorem asc_mem {g : LG} {ls : LLoc} {j : Nat} {v : Value} (h : lGet ls j = some v) : (j, tr g v) ∈ asc g ls := by
  unfold asc
  rw [List.mem_filterMap]
  exact ⟨j, List.mem_range.mpr (lGet_lt h), by rw [h]; rfl⟩
theorem asc_inv {g : LG} {ls : LLoc} {q : Nat × Value} (h : q ∈ asc g ls) : ∃ v, lGet ls q.1 = some v ∧ q.2 = tr g v := by
  unfold asc at h
  rw [List.mem_filterMap] at h
  obtain ⟨j, -, h⟩ := h
  cases hv : lGet ls j with
  | none => rw [hv] at h; cases h
  | some v =>
    rw [hv] at h
    have h := Option.some.inj h
    subst h
    exact ⟨v, hv, rfl⟩
theorem LocOK.has {g : LG} {lsR : Array Slot} {n : Nat} {ls : LLoc} (h : LocOK g lsR n ls) : lv_has lsR n (asc g ls) := by
  refine ⟨h.1, h.2.2.1, fun q hq => ?_⟩
  obtain ⟨v, h1, h2⟩ := asc_inv hq
  rw [h2]
  exact h.2.2.2 _ _ h1
theorem lGet_set {ls : LLoc} {i j : Nat} {v : Option Value} (hi : i < ls.length) : lGet (ls.set i v) j = if i = j then v else lGet ls j := by
  unfold lGet
  rw [List.getElem?_set]
  by_cases h : i = j
  · subst h
    rw [if_pos rfl, if_pos hi, if_pos rfl]
    cases v <;> rfl
  · rw [if_neg h, if_neg h]
theorem lFree_cat {ls : LLoc} {j : Nat} {v : Value} (h : lFree ls (j + 1) = true) (hv : lGet ls j = some v) : v.category = 1 := by
  unfold lFree at h
  simp only [hv] at h
  exact of_decide_eq_true (by simpa using h)
theorem LocOK.store1 {g : LG} {lsR lsR1 : Array Slot} {n i : Nat} {ls : LLoc} {v w : Value} (h : LocOK g lsR n ls) (hw : w = tr g v) (hh : lv_has lsR1 n ((i, w) :: (asc g ls).filter (fun q => !(q.1 == i) && !(q.1 + 1 == i && q.2.category == 2)))) (hf : lFree ls i = true) (hi : i < ls.length) : LocOK g lsR1 n (ls.set i (some v)) := by
  refine ⟨hh.1, by rw [List.length_set]; exact h.2.1, hh.2.1, fun j x hx => ?_⟩
  rw [lGet_set hi] at hx
  by_cases hj : i = j
  · rw [if_pos hj] at hx
    cases hx
    subst hj
    rw [← hw]
    exact hh.2.2 (i, w) List.mem_cons_self
  · rw [if_neg hj] at hx
    refine hh.2.2 (j, tr g x) (List.mem_cons_of_mem _ (List.mem_filter.mpr ⟨asc_mem hx, ?_⟩))
    have h1 : ¬ j = i := fun q => hj q.symm
    by_cases h2 : j + 1 = i
    · subst h2
      have := lFree_cat hf hx
      simp [tr_cat, this]
    · simp [h1, h2]
theorem LocOK.store2 {g : LG} {lsR lsR1 : Array Slot} {n i : Nat} {ls : LLoc} {v w : Value} (h : LocOK g lsR n ls) (hw : w = tr g v) (hh : lv_has lsR1 n ((i, w) :: (asc g ls).filter (fun q => !(q.1 == i) && (!(q.1 == i + 1) && !(q.1 + 1 == i && q.2.category == 2))))) (hf : lFree ls i = true) (hi : i + 1 < ls.length) : LocOK g lsR1 n ((ls.set i (some v)).set (i + 1) none) := by
  refine ⟨hh.1, by rw [List.length_set, List.length_set]; exact h.2.1, hh.2.1, fun j x hx => ?_⟩
  rw [lGet_set (by rw [List.length_set]; exact hi), lGet_set (by omega)] at hx
  by_cases hj1 : i + 1 = j
  · rw [if_pos hj1] at hx
    cases hx
  · rw [if_neg hj1] at hx
    by_cases hj : i = j
    · rw [if_pos hj] at hx
      cases hx
      subst hj
      rw [← hw]
      exact hh.2.2 (i, w) List.mem_cons_self
    · rw [if_neg hj] at hx
      refine hh.2.2 (j, tr g x) (List.mem_cons_of_mem _ (List.mem_filter.mpr ⟨asc_mem hx, ?_⟩))
      have h1 : ¬ j = i := fun q => hj q.symm
      have h3 : ¬ j = i + 1 := fun q => hj1 q.symm
      by_cases h2 : j + 1 = i
      · subst h2
        have := lFree_cat hf hx
        simp [tr_cat, this]
        omega
      · simp [h1, h2, h3]
-- inversions
theorem withI_inv {st : List Value} {f : Int32 → List Value → Option LRes} {r : LRes} (h : withI st f = some r) : ∃ x st1, st = .int x :: st1 ∧ f x st1 = some r := by
  unfold withI at h
  split at h
  · exact ⟨_, _, rfl, h⟩
  · cases h
theorem withL_inv {st : List Value} {f : Int64 → List Value → Option LRes} {r : LRes} (h : withL st f = some r) : ∃ x st1, st = .long x :: st1 ∧ f x st1 = some r := by
  unfold withL at h
  split at h
  · exact ⟨_, _, rfl, h⟩
  · cases h
theorem withR_inv {st : List Value} {f : Nat → List Value → Option LRes} {r : LRes} (h : withR st f = some r) : ∃ x st1, st = .ref x :: st1 ∧ f x st1 = some r := by
  unfold withR at h
  split at h
  · exact ⟨_, _, rfl, h⟩
  · cases h
theorem withObj_inv {c : LCell} {f : Nat → List Value → Option LRes} {r : LRes} (h : withObj c f = some r) : ∃ ci fs, c = some (.inl (ci, fs)) ∧ f ci fs = some r := by
  unfold withObj at h
  split at h
  · exact ⟨_, _, rfl, h⟩
  · cases h
theorem withArr_inv {c : LCell} {f : FieldType → List Value → Option LRes} {r : LRes} (h : withArr c f = some r) : ∃ ty vs, c = some (.inr (ty, vs)) ∧ f ty vs = some r := by
  unfold withArr at h
  split at h
  · exact ⟨_, _, rfl, h⟩
  · cases h
theorem withV_inv {v : Option Value} {f : Value → Option LRes} {r : LRes} (h : withV v f = some r) : ∃ x, v = some x ∧ f x = some r := by
  unfold withV at h
  split at h
  · exact ⟨_, rfl, h⟩
  · cases h
theorem gd_inv {c : Prop} [Decidable c] {r : Option LRes} {x : LRes} (h : gd c r = some x) : c ∧ r = some x := by
  unfold gd at h
  split at h
  · exact ⟨by assumption, h⟩
  · cases h
theorem nx_inv {ls ls1 : LLoc} {st st1 : List Value} {h h1 : LHeap} {t : Option Nat} (hs : nx ls st h = some (.inl (t, ls1, st1, h1))) : t = none ∧ ls1 = ls ∧ st1 = st ∧ h1 = h := by
  unfold nx at hs
  cases hs
  exact ⟨rfl, rfl, rfl, rfl⟩
theorem jp_inv {z : Int} {ls ls1 : LLoc} {st st1 : List Value} {h h1 : LHeap} {t : Option Nat} (hs : jp z ls st h = some (.inl (t, ls1, st1, h1))) : t = some z.toNat ∧ ls1 = ls ∧ st1 = st ∧ h1 = h := by
  unfold jp at hs
  cases hs
  exact ⟨rfl, rfl, rfl, rfl⟩
theorem W.sized {p : Program} {l : Launch} {e : Env} {R : Room} {s : State} {m : MethodId} {args : Array Value} {below : List Frame} {meth : Method} {c : Code} {H : Heap} {locs : List Loc} {cells slots : Nat} {Q : State → Prop} {f : JFrame} (k : H.size ≤ s.heap.size + cells → W p l e R s m args below meth c H locs cells slots Q f) : W p l e R s m args below meth c H locs cells slots Q f := fun T hT X => k (by have := X.heapSize; rw [hT] at this; exact this) T hT X
theorem Wld.low {g : LG} {s s0 : State} {H : Heap} {h h0 : LHeap} {locs : List Loc} (hW : Wld g s H h) (hz : s0.heap.size = gz g + (h0.1 - 1)) (hS : va_S (gA g) s0.heap H locs) : gz g + (h.1 - 1) ≤ H.size := by
  by_cases h1 : h.1 - 1 = 0
  · have := hS.1
    omega
  · have := (hW.2.1 (h.1 - 2) _ (ws_get (by omega))).lt
    have : gz g + (h.1 - 2) < H.size := this
    omega
end
section
-- ONE STEP OF THE LITTLE MACHINE IS ONE OF THE MACHINE'S
section
variable {p : Program} {l : Launch} {e : Env} {R : Room} {s : State} {m : MethodId} {args : Array Value} {below : List Frame} {meth : Method} {c : Code} {Q : State → Prop} {g : LG} {k ip d pc len hint : Nat} {raw : Instr} {h0 h h1 : LHeap} {H : Heap} {locs : List Loc} {lsR : Array Slot} {ls ls1 : LLoc} {st st1 : List Value} {t : Option Nat}
def GO (g : LG) (p : Program) (l : Launch) (e : Env) (R : Room) (s : State) (m : MethodId) (args : Array Value) (below : List Frame) (meth : Method) (c : Code) (Q : State → Prop) (h0 h : LHeap) (H : Heap) (locs : List Loc) (lsR : Array Slot) (st : List Value) (pc : Nat) : Prop :=
  W p l e R s m args below meth c H locs (h.1 - h0.1) (h.2.1 - h0.2.1) Q (F0 m pc lsR (st.map (tr g)))
/-- what is owed behind the step -/
def KK (g : LG) (k ip : Nat) (p : Program) (l : Launch) (e : Env) (R : Room) (s : State) (m : MethodId) (args : Array Value) (below : List Frame) (meth : Method) (c : Code) (Q : State → Prop) (h0 : LHeap) (t : Option Nat) (ls1 : LLoc) (st1 : List Value) (h1 : LHeap) : Prop :=
  ∀ (H1 : Heap) (locs1 : List Loc) (lsR1 : Array Slot), Wld g s H1 h1 → va_S (gA g) s.heap H1 locs1 → LocOK g lsR1 (mL k) ls1 → GO g p l e R s m args below meth c Q h0 h1 H1 locs1 lsR1 st1 (pcOf k (t.getD (ip + 1)))
/-- where a step begins -/
def AT (g : LG) (k d : Nat) (h0 h h1 : LHeap) (p : Program) (R : Room) (s : State) (m : MethodId) (args : Array Value) (meth : Method) (c : Code) (H : Heap) (locs : List Loc) (lsR : Array Slot) (ls : LLoc) : Prop :=
  Fr g k h0 p s m args meth c ∧ Wld g s H h ∧ va_S (gA g) s.heap H locs ∧ LocOK g lsR (mL k) ls ∧ h0.1 ≤ h.1 ∧ h0.2.1 ≤ h.2.1 ∧ h1.1 - h0.1 ≤ R.cells ∧ h1.2.1 - h0.2.1 ≤ R.slots ∧ 1 ≤ h0.1 ∧ d ≤ R.frames ∧ 30 * d ≤ R.locals
theorem nxt_inv (h : (len == 1 && pcOf k (ip + 1) == pc + 1) = true) : len = 1 ∧ pcOf k (ip + 1) = pc + 1 := by simpa using h
theorem KK.next (kk : KK g k ip p l e R s m args below meth c Q h0 none ls1 st1 h1) {n : Nat} (hn : pcOf k (ip + 1) = n) {H1 : Heap} {locs1 : List Loc} {lsR1 : Array Slot} (a : Wld g s H1 h1) (b : va_S (gA g) s.heap H1 locs1) (c1 : LocOK g lsR1 (mL k) ls1) : W p l e R s m args below meth c H1 locs1 (h1.1 - h0.1) (h1.2.1 - h0.2.1) Q (F0 m n lsR1 (st1.map (tr g))) := by
  subst hn
  exact kk H1 locs1 lsR1 a b c1
theorem KK.jump {z : Int} (kk : KK g k ip p l e R s m args below meth c Q h0 (some z.toNat) ls1 st1 h1) {H1 : Heap} {locs1 : List Loc} {lsR1 : Array Slot} (a : Wld g s H1 h1) (b : va_S (gA g) s.heap H1 locs1) (c1 : LocOK g lsR1 (mL k) ls1) : W p l e R s m args below meth c H1 locs1 (h1.1 - h0.1) (h1.2.1 - h0.2.1) Q (F0 m (pcOf k z.toNat) lsR1 (st1.map (tr g))) := kk H1 locs1 lsR1 a b c1

theorem sn_iadd  (A : AT g k d h0 h h1 p R s m args meth c H locs lsR ls) (hd : decode (mB k) pc = .ok (raw, len)) (hok : okB k ip .iadd pc raw len hint = true) (hs : stepI d .iadd ls st h = some (.inl (t, ls1, st1, h1))) (kk : KK g k ip p l e R s m args below meth c Q h0 t ls1 st1 h1) : GO g p l e R s m args below meth c Q h0 h H locs lsR st pc := by
  simp only [stepI] at hs
  obtain ⟨y, r1, rfl, hs1⟩ := withI_inv hs
  obtain ⟨x, r, rfl, hs2⟩ := withI_inv hs1
  obtain ⟨rfl, rfl, rfl, rfl⟩ := nx_inv hs2
  obtain ⟨F, hW, hS, hL, hc0, hs0, hcR, hsR, hh0, hfr, hlo⟩ := A
  obtain ⟨hx, hb, hml, hret, hown, hts, hlocks, hname, hsz, hX, hbz, hnest⟩ := F
  have hok : (len == 1 && pcOf k (ip + 1) == pc + 1) = true ∧ decide (raw = .iadd) = true := by simpa [okB] using hok
  obtain ⟨ho1, ho2⟩ := hok
  have ho2 := of_decide_eq_true ho2
  simp only [Bool.and_eq_true, beq_iff_eq] at ho1
  obtain ⟨rfl, hpc⟩ := ho1
  subst ho2
  exact lv_iadd hx hb hd (kk.next hpc hW hS hL)

theorem sn_isub  (A : AT g k d h0 h h1 p R s m args meth c H locs lsR ls) (hd : decode (mB k) pc = .ok (raw, len)) (hok : okB k ip .isub pc raw len hint = true) (hs : stepI d .isub ls st h = some (.inl (t, ls1, st1, h1))) (kk : KK g k ip p l e R s m args below meth c Q h0 t ls1 st1 h1) : GO g p l e R s m args below meth c Q h0 h H locs lsR st pc := by
  simp only [stepI] at hs
  obtain ⟨y, r1, rfl, hs1⟩ := withI_inv hs
  obtain ⟨x, r, rfl, hs2⟩ := withI_inv hs1
  obtain ⟨rfl, rfl, rfl, rfl⟩ := nx_inv hs2
  obtain ⟨F, hW, hS, hL, hc0, hs0, hcR, hsR, hh0, hfr, hlo⟩ := A
  obtain ⟨hx, hb, hml, hret, hown, hts, hlocks, hname, hsz, hX, hbz, hnest⟩ := F
  have hok : (len == 1 && pcOf k (ip + 1) == pc + 1) = true ∧ decide (raw = .isub) = true := by simpa [okB] using hok
  obtain ⟨ho1, ho2⟩ := hok
  have ho2 := of_decide_eq_true ho2
  simp only [Bool.and_eq_true, beq_iff_eq] at ho1
  obtain ⟨rfl, hpc⟩ := ho1
  subst ho2
  exact lv_isub hx hb hd (kk.next hpc hW hS hL)

theorem sn_imul  (A : AT g k d h0 h h1 p R s m args meth c H locs lsR ls) (hd : decode (mB k) pc = .ok (raw, len)) (hok : okB k ip .imul pc raw len hint = true) (hs : stepI d .imul ls st h = some (.inl (t, ls1, st1, h1))) (kk : KK g k ip p l e R s m args below meth c Q h0 t ls1 st1 h1) : GO g p l e R s m args below meth c Q h0 h H locs lsR st pc := by
  simp only [stepI] at hs
  obtain ⟨y, r1, rfl, hs1⟩ := withI_inv hs
  obtain ⟨x, r, rfl, hs2⟩ := withI_inv hs1
  obtain ⟨rfl, rfl, rfl, rfl⟩ := nx_inv hs2
  obtain ⟨F, hW, hS, hL, hc0, hs0, hcR, hsR, hh0, hfr, hlo⟩ := A
  obtain ⟨hx, hb, hml, hret, hown, hts, hlocks, hname, hsz, hX, hbz, hnest⟩ := F
  have hok : (len == 1 && pcOf k (ip + 1) == pc + 1) = true ∧ decide (raw = .imul) = true := by simpa [okB] using hok
  obtain ⟨ho1, ho2⟩ := hok
  have ho2 := of_decide_eq_true ho2
  simp only [Bool.and_eq_true, beq_iff_eq] at ho1
  obtain ⟨rfl, hpc⟩ := ho1
  subst ho2
  exact lv_imul hx hb hd (kk.next hpc hW hS hL)

theorem sn_iand  (A : AT g k d h0 h h1 p R s m args meth c H locs lsR ls) (hd : decode (mB k) pc = .ok (raw, len)) (hok : okB k ip .iand pc raw len hint = true) (hs : stepI d .iand ls st h = some (.inl (t, ls1, st1, h1))) (kk : KK g k ip p l e R s m args below meth c Q h0 t ls1 st1 h1) : GO g p l e R s m args below meth c Q h0 h H locs lsR st pc := by
  simp only [stepI] at hs
  obtain ⟨y, r1, rfl, hs1⟩ := withI_inv hs
  obtain ⟨x, r, rfl, hs2⟩ := withI_inv hs1
  obtain ⟨rfl, rfl, rfl, rfl⟩ := nx_inv hs2
  obtain ⟨F, hW, hS, hL, hc0, hs0, hcR, hsR, hh0, hfr, hlo⟩ := A
  obtain ⟨hx, hb, hml, hret, hown, hts, hlocks, hname, hsz, hX, hbz, hnest⟩ := F
  have hok : (len == 1 && pcOf k (ip + 1) == pc + 1) = true ∧ decide (raw = .iand) = true := by simpa [okB] using hok
  obtain ⟨ho1, ho2⟩ := hok
  have ho2 := of_decide_eq_true ho2
  simp only [Bool.and_eq_true, beq_iff_eq] at ho1
  obtain ⟨rfl, hpc⟩ := ho1
  subst ho2
  exact lv_iand hx hb hd (kk.next hpc hW hS hL)

theorem sn_ior  (A : AT g k d h0 h h1 p R s m args meth c H locs lsR ls) (hd : decode (mB k) pc = .ok (raw, len)) (hok : okB k ip .ior pc raw len hint = true) (hs : stepI d .ior ls st h = some (.inl (t, ls1, st1, h1))) (kk : KK g k ip p l e R s m args below meth c Q h0 t ls1 st1 h1) : GO g p l e R s m args below meth c Q h0 h H locs lsR st pc := by
  simp only [stepI] at hs
  obtain ⟨y, r1, rfl, hs1⟩ := withI_inv hs
  obtain ⟨x, r, rfl, hs2⟩ := withI_inv hs1
  obtain ⟨rfl, rfl, rfl, rfl⟩ := nx_inv hs2
  obtain ⟨F, hW, hS, hL, hc0, hs0, hcR, hsR, hh0, hfr, hlo⟩ := A
  obtain ⟨hx, hb, hml, hret, hown, hts, hlocks, hname, hsz, hX, hbz, hnest⟩ := F
  have hok : (len == 1 && pcOf k (ip + 1) == pc + 1) = true ∧ decide (raw = .ior) = true := by simpa [okB] using hok
  obtain ⟨ho1, ho2⟩ := hok
  have ho2 := of_decide_eq_true ho2
  simp only [Bool.and_eq_true, beq_iff_eq] at ho1
  obtain ⟨rfl, hpc⟩ := ho1
  subst ho2
  exact lv_ior hx hb hd (kk.next hpc hW hS hL)

theorem sn_ixor  (A : AT g k d h0 h h1 p R s m args meth c H locs lsR ls) (hd : decode (mB k) pc = .ok (raw, len)) (hok : okB k ip .ixor pc raw len hint = true) (hs : stepI d .ixor ls st h = some (.inl (t, ls1, st1, h1))) (kk : KK g k ip p l e R s m args below meth c Q h0 t ls1 st1 h1) : GO g p l e R s m args below meth c Q h0 h H locs lsR st pc := by
  simp only [stepI] at hs
  obtain ⟨y, r1, rfl, hs1⟩ := withI_inv hs
  obtain ⟨x, r, rfl, hs2⟩ := withI_inv hs1
  obtain ⟨rfl, rfl, rfl, rfl⟩ := nx_inv hs2
  obtain ⟨F, hW, hS, hL, hc0, hs0, hcR, hsR, hh0, hfr, hlo⟩ := A
  obtain ⟨hx, hb, hml, hret, hown, hts, hlocks, hname, hsz, hX, hbz, hnest⟩ := F
  have hok : (len == 1 && pcOf k (ip + 1) == pc + 1) = true ∧ decide (raw = .ixor) = true := by simpa [okB] using hok
  obtain ⟨ho1, ho2⟩ := hok
  have ho2 := of_decide_eq_true ho2
  simp only [Bool.and_eq_true, beq_iff_eq] at ho1
  obtain ⟨rfl, hpc⟩ := ho1
  subst ho2
  exact lv_ixor hx hb hd (kk.next hpc hW hS hL)

theorem sn_ishl  (A : AT g k d h0 h h1 p R s m args meth c H locs lsR ls) (hd : decode (mB k) pc = .ok (raw, len)) (hok : okB k ip .ishl pc raw len hint = true) (hs : stepI d .ishl ls st h = some (.inl (t, ls1, st1, h1))) (kk : KK g k ip p l e R s m args below meth c Q h0 t ls1 st1 h1) : GO g p l e R s m args below meth c Q h0 h H locs lsR st pc := by
  simp only [stepI] at hs
  obtain ⟨y, r1, rfl, hs1⟩ := withI_inv hs
  obtain ⟨x, r, rfl, hs2⟩ := withI_inv hs1
  obtain ⟨rfl, rfl, rfl, rfl⟩ := nx_inv hs2
  obtain ⟨F, hW, hS, hL, hc0, hs0, hcR, hsR, hh0, hfr, hlo⟩ := A
  obtain ⟨hx, hb, hml, hret, hown, hts, hlocks, hname, hsz, hX, hbz, hnest⟩ := F
  have hok : (len == 1 && pcOf k (ip + 1) == pc + 1) = true ∧ decide (raw = .ishl) = true := by simpa [okB] using hok
  obtain ⟨ho1, ho2⟩ := hok
  have ho2 := of_decide_eq_true ho2
  simp only [Bool.and_eq_true, beq_iff_eq] at ho1
  obtain ⟨rfl, hpc⟩ := ho1
  subst ho2
  exact lv_ishl hx hb hd (kk.next hpc hW hS hL)

theorem sn_ishr  (A : AT g k d h0 h h1 p R s m args meth c H locs lsR ls) (hd : decode (mB k) pc = .ok (raw, len)) (hok : okB k ip .ishr pc raw len hint = true) (hs : stepI d .ishr ls st h = some (.inl (t, ls1, st1, h1))) (kk : KK g k ip p l e R s m args below meth c Q h0 t ls1 st1 h1) : GO g p l e R s m args below meth c Q h0 h H locs lsR st pc := by
  simp only [stepI] at hs
  obtain ⟨y, r1, rfl, hs1⟩ := withI_inv hs
  obtain ⟨x, r, rfl, hs2⟩ := withI_inv hs1
  obtain ⟨rfl, rfl, rfl, rfl⟩ := nx_inv hs2
  obtain ⟨F, hW, hS, hL, hc0, hs0, hcR, hsR, hh0, hfr, hlo⟩ := A
  obtain ⟨hx, hb, hml, hret, hown, hts, hlocks, hname, hsz, hX, hbz, hnest⟩ := F
  have hok : (len == 1 && pcOf k (ip + 1) == pc + 1) = true ∧ decide (raw = .ishr) = true := by simpa [okB] using hok
  obtain ⟨ho1, ho2⟩ := hok
  have ho2 := of_decide_eq_true ho2
  simp only [Bool.and_eq_true, beq_iff_eq] at ho1
  obtain ⟨rfl, hpc⟩ := ho1
  subst ho2
  exact lv_ishr hx hb hd (kk.next hpc hW hS hL)

theorem sn_iushr  (A : AT g k d h0 h h1 p R s m args meth c H locs lsR ls) (hd : decode (mB k) pc = .ok (raw, len)) (hok : okB k ip .iushr pc raw len hint = true) (hs : stepI d .iushr ls st h = some (.inl (t, ls1, st1, h1))) (kk : KK g k ip p l e R s m args below meth c Q h0 t ls1 st1 h1) : GO g p l e R s m args below meth c Q h0 h H locs lsR st pc := by
  simp only [stepI] at hs
  obtain ⟨y, r1, rfl, hs1⟩ := withI_inv hs
  obtain ⟨x, r, rfl, hs2⟩ := withI_inv hs1
  obtain ⟨rfl, rfl, rfl, rfl⟩ := nx_inv hs2
  obtain ⟨F, hW, hS, hL, hc0, hs0, hcR, hsR, hh0, hfr, hlo⟩ := A
  obtain ⟨hx, hb, hml, hret, hown, hts, hlocks, hname, hsz, hX, hbz, hnest⟩ := F
  have hok : (len == 1 && pcOf k (ip + 1) == pc + 1) = true ∧ decide (raw = .iushr) = true := by simpa [okB] using hok
  obtain ⟨ho1, ho2⟩ := hok
  have ho2 := of_decide_eq_true ho2
  simp only [Bool.and_eq_true, beq_iff_eq] at ho1
  obtain ⟨rfl, hpc⟩ := ho1
  subst ho2
  exact lv_iushr hx hb hd rfl (kk.next hpc hW hS hL)

theorem sn_idiv  (A : AT g k d h0 h h1 p R s m args meth c H locs lsR ls) (hd : decode (mB k) pc = .ok (raw, len)) (hok : okB k ip .idiv pc raw len hint = true) (hs : stepI d .idiv ls st h = some (.inl (t, ls1, st1, h1))) (kk : KK g k ip p l e R s m args below meth c Q h0 t ls1 st1 h1) : GO g p l e R s m args below meth c Q h0 h H locs lsR st pc := by
  simp only [stepI] at hs
  obtain ⟨y, r1, rfl, hs1⟩ := withI_inv hs
  obtain ⟨x, r, rfl, hs2⟩ := withI_inv hs1
  obtain ⟨hne, hs3⟩ := gd_inv hs2
  obtain ⟨rfl, rfl, rfl, rfl⟩ := nx_inv hs3
  obtain ⟨F, hW, hS, hL, hc0, hs0, hcR, hsR, hh0, hfr, hlo⟩ := A
  obtain ⟨hx, hb, hml, hret, hown, hts, hlocks, hname, hsz, hX, hbz, hnest⟩ := F
  have hok : (len == 1 && pcOf k (ip + 1) == pc + 1) = true ∧ decide (raw = .idiv) = true := by simpa [okB] using hok
  obtain ⟨ho1, ho2⟩ := hok
  have ho2 := of_decide_eq_true ho2
  simp only [Bool.and_eq_true, beq_iff_eq] at ho1
  obtain ⟨rfl, hpc⟩ := ho1
  subst ho2
  exact lv_idiv hx hb hd hne (kk.next hpc hW hS hL)

theorem sn_irem  (A : AT g k d h0 h h1 p R s m args meth c H locs lsR ls) (hd : decode (mB k) pc = .ok (raw, len)) (hok : okB k ip .irem pc raw len hint = true) (hs : stepI d .irem ls st h = some (.inl (t, ls1, st1, h1))) (kk : KK g k ip p l e R s m args below meth c Q h0 t ls1 st1 h1) : GO g p l e R s m args below meth c Q h0 h H locs lsR st pc := by
  simp only [stepI] at hs
  obtain ⟨y, r1, rfl, hs1⟩ := withI_inv hs
  obtain ⟨x, r, rfl, hs2⟩ := withI_inv hs1
  obtain ⟨hne, hs3⟩ := gd_inv hs2
  obtain ⟨rfl, rfl, rfl, rfl⟩ := nx_inv hs3
  obtain ⟨F, hW, hS, hL, hc0, hs0, hcR, hsR, hh0, hfr, hlo⟩ := A
  obtain ⟨hx, hb, hml, hret, hown, hts, hlocks, hname, hsz, hX, hbz, hnest⟩ := F
  have hok : (len == 1 && pcOf k (ip + 1) == pc + 1) = true ∧ decide (raw = .irem) = true := by simpa [okB] using hok
  obtain ⟨ho1, ho2⟩ := hok
  have ho2 := of_decide_eq_true ho2
  simp only [Bool.and_eq_true, beq_iff_eq] at ho1
  obtain ⟨rfl, hpc⟩ := ho1
  subst ho2
  exact lv_irem hx hb hd hne (kk.next hpc hW hS hL)

theorem sn_ladd  (A : AT g k d h0 h h1 p R s m args meth c H locs lsR ls) (hd : decode (mB k) pc = .ok (raw, len)) (hok : okB k ip .ladd pc raw len hint = true) (hs : stepI d .ladd ls st h = some (.inl (t, ls1, st1, h1))) (kk : KK g k ip p l e R s m args below meth c Q h0 t ls1 st1 h1) : GO g p l e R s m args below meth c Q h0 h H locs lsR st pc := by
  simp only [stepI] at hs
  obtain ⟨y, r1, rfl, hs1⟩ := withL_inv hs
  obtain ⟨x, r, rfl, hs2⟩ := withL_inv hs1
  obtain ⟨rfl, rfl, rfl, rfl⟩ := nx_inv hs2
  obtain ⟨F, hW, hS, hL, hc0, hs0, hcR, hsR, hh0, hfr, hlo⟩ := A
  obtain ⟨hx, hb, hml, hret, hown, hts, hlocks, hname, hsz, hX, hbz, hnest⟩ := F
  have hok : (len == 1 && pcOf k (ip + 1) == pc + 1) = true ∧ decide (raw = .ladd) = true := by simpa [okB] using hok
  obtain ⟨ho1, ho2⟩ := hok
  have ho2 := of_decide_eq_true ho2
  simp only [Bool.and_eq_true, beq_iff_eq] at ho1
  obtain ⟨rfl, hpc⟩ := ho1
  subst ho2
  exact lv_ladd hx hb hd (kk.next hpc hW hS hL)

theorem sn_lmul  (A : AT g k d h0 h h1 p R s m args meth c H locs lsR ls) (hd : decode (mB k) pc = .ok (raw, len)) (hok : okB k ip .lmul pc raw len hint = true) (hs : stepI d .lmul ls st h = some (.inl (t, ls1, st1, h1))) (kk : KK g k ip p l e R s m args below meth c Q h0 t ls1 st1 h1) : GO g p l e R s m args below meth c Q h0 h H locs lsR st pc := by
  simp only [stepI] at hs
  obtain ⟨y, r1, rfl, hs1⟩ := withL_inv hs
  obtain ⟨x, r, rfl, hs2⟩ := withL_inv hs1
  obtain ⟨rfl, rfl, rfl, rfl⟩ := nx_inv hs2
  obtain ⟨F, hW, hS, hL, hc0, hs0, hcR, hsR, hh0, hfr, hlo⟩ := A
  obtain ⟨hx, hb, hml, hret, hown, hts, hlocks, hname, hsz, hX, hbz, hnest⟩ := F
  have hok : (len == 1 && pcOf k (ip + 1) == pc + 1) = true ∧ decide (raw = .lmul) = true := by simpa [okB] using hok
  obtain ⟨ho1, ho2⟩ := hok
  have ho2 := of_decide_eq_true ho2
  simp only [Bool.and_eq_true, beq_iff_eq] at ho1
  obtain ⟨rfl, hpc⟩ := ho1
  subst ho2
  exact lv_lmul hx hb hd (kk.next hpc hW hS hL)

theorem sn_land  (A : AT g k d h0 h h1 p R s m args meth c H locs lsR ls) (hd : decode (mB k) pc = .ok (raw, len)) (hok : okB k ip .land pc raw len hint = true) (hs : stepI d .land ls st h = some (.inl (t, ls1, st1, h1))) (kk : KK g k ip p l e R s m args below meth c Q h0 t ls1 st1 h1) : GO g p l e R s m args below meth c Q h0 h H locs lsR st pc := by
  simp only [stepI] at hs
  obtain ⟨y, r1, rfl, hs1⟩ := withL_inv hs
  obtain ⟨x, r, rfl, hs2⟩ := withL_inv hs1
  obtain ⟨rfl, rfl, rfl, rfl⟩ := nx_inv hs2
  obtain ⟨F, hW, hS, hL, hc0, hs0, hcR, hsR, hh0, hfr, hlo⟩ := A
  obtain ⟨hx, hb, hml, hret, hown, hts, hlocks, hname, hsz, hX, hbz, hnest⟩ := F
  have hok : (len == 1 && pcOf k (ip + 1) == pc + 1) = true ∧ decide (raw = .land) = true := by simpa [okB] using hok
  obtain ⟨ho1, ho2⟩ := hok
  have ho2 := of_decide_eq_true ho2
  simp only [Bool.and_eq_true, beq_iff_eq] at ho1
  obtain ⟨rfl, hpc⟩ := ho1
  subst ho2
  exact lv_land hx hb hd (kk.next hpc hW hS hL)

theorem sn_ldiv  (A : AT g k d h0 h h1 p R s m args meth c H locs lsR ls) (hd : decode (mB k) pc = .ok (raw, len)) (hok : okB k ip .ldiv pc raw len hint = true) (hs : stepI d .ldiv ls st h = some (.inl (t, ls1, st1, h1))) (kk : KK g k ip p l e R s m args below meth c Q h0 t ls1 st1 h1) : GO g p l e R s m args below meth c Q h0 h H locs lsR st pc := by
  simp only [stepI] at hs
  obtain ⟨y, r1, rfl, hs1⟩ := withL_inv hs
  obtain ⟨x, r, rfl, hs2⟩ := withL_inv hs1
  obtain ⟨hne, hs3⟩ := gd_inv hs2
  obtain ⟨rfl, rfl, rfl, rfl⟩ := nx_inv hs3
  obtain ⟨F, hW, hS, hL, hc0, hs0, hcR, hsR, hh0, hfr, hlo⟩ := A
  obtain ⟨hx, hb, hml, hret, hown, hts, hlocks, hname, hsz, hX, hbz, hnest⟩ := F
  have hok : (len == 1 && pcOf k (ip + 1) == pc + 1) = true ∧ decide (raw = .ldiv) = true := by simpa [okB] using hok
  obtain ⟨ho1, ho2⟩ := hok
  have ho2 := of_decide_eq_true ho2
  simp only [Bool.and_eq_true, beq_iff_eq] at ho1
  obtain ⟨rfl, hpc⟩ := ho1
  subst ho2
  exact lv_ldiv hx hb hd hne (kk.next hpc hW hS hL)

theorem sn_lrem  (A : AT g k d h0 h h1 p R s m args meth c H locs lsR ls) (hd : decode (mB k) pc = .ok (raw, len)) (hok : okB k ip .lrem pc raw len hint = true) (hs : stepI d .lrem ls st h = some (.inl (t, ls1, st1, h1))) (kk : KK g k ip p l e R s m args below meth c Q h0 t ls1 st1 h1) : GO g p l e R s m args below meth c Q h0 h H locs lsR st pc := by
  simp only [stepI] at hs
  obtain ⟨y, r1, rfl, hs1⟩ := withL_inv hs
  obtain ⟨x, r, rfl, hs2⟩ := withL_inv hs1
  obtain ⟨hne, hs3⟩ := gd_inv hs2
  obtain ⟨rfl, rfl, rfl, rfl⟩ := nx_inv hs3
  obtain ⟨F, hW, hS, hL, hc0, hs0, hcR, hsR, hh0, hfr, hlo⟩ := A
  obtain ⟨hx, hb, hml, hret, hown, hts, hlocks, hname, hsz, hX, hbz, hnest⟩ := F
  have hok : (len == 1 && pcOf k (ip + 1) == pc + 1) = true ∧ decide (raw = .lrem) = true := by simpa [okB] using hok
  obtain ⟨ho1, ho2⟩ := hok
  have ho2 := of_decide_eq_true ho2
  simp only [Bool.and_eq_true, beq_iff_eq] at ho1
  obtain ⟨rfl, hpc⟩ := ho1
  subst ho2
  exact lv_lrem hx hb hd hne (kk.next hpc hW hS hL)

theorem sn_lcmp  (A : AT g k d h0 h h1 p R s m args meth c H locs lsR ls) (hd : decode (mB k) pc = .ok (raw, len)) (hok : okB k ip .lcmp pc raw len hint = true) (hs : stepI d .lcmp ls st h = some (.inl (t, ls1, st1, h1))) (kk : KK g k ip p l e R s m args below meth c Q h0 t ls1 st1 h1) : GO g p l e R s m args below meth c Q h0 h H locs lsR st pc := by
  simp only [stepI] at hs
  obtain ⟨y, r1, rfl, hs1⟩ := withL_inv hs
  obtain ⟨x, r, rfl, hs2⟩ := withL_inv hs1
  obtain ⟨rfl, rfl, rfl, rfl⟩ := nx_inv hs2
  obtain ⟨F, hW, hS, hL, hc0, hs0, hcR, hsR, hh0, hfr, hlo⟩ := A
  obtain ⟨hx, hb, hml, hret, hown, hts, hlocks, hname, hsz, hX, hbz, hnest⟩ := F
  have hok : (len == 1 && pcOf k (ip + 1) == pc + 1) = true ∧ decide (raw = .lcmp) = true := by simpa [okB] using hok
  obtain ⟨ho1, ho2⟩ := hok
  have ho2 := of_decide_eq_true ho2
  simp only [Bool.and_eq_true, beq_iff_eq] at ho1
  obtain ⟨rfl, hpc⟩ := ho1
  subst ho2
  exact W.lcmp hx hb hd (kk.next hpc hW hS hL)

theorem sn_i2l  (A : AT g k d h0 h h1 p R s m args meth c H locs lsR ls) (hd : decode (mB k) pc = .ok (raw, len)) (hok : okB k ip .i2l pc raw len hint = true) (hs : stepI d .i2l ls st h = some (.inl (t, ls1, st1, h1))) (kk : KK g k ip p l e R s m args below meth c Q h0 t ls1 st1 h1) : GO g p l e R s m args below meth c Q h0 h H locs lsR st pc := by
  simp only [stepI] at hs
  obtain ⟨x, r, rfl, hs1⟩ := withI_inv hs
  obtain ⟨rfl, rfl, rfl, rfl⟩ := nx_inv hs1
  obtain ⟨F, hW, hS, hL, hc0, hs0, hcR, hsR, hh0, hfr, hlo⟩ := A
  obtain ⟨hx, hb, hml, hret, hown, hts, hlocks, hname, hsz, hX, hbz, hnest⟩ := F
  have hok : (len == 1 && pcOf k (ip + 1) == pc + 1) = true ∧ decide (raw = .i2l) = true := by simpa [okB] using hok
  obtain ⟨ho1, ho2⟩ := hok
  have ho2 := of_decide_eq_true ho2
  simp only [Bool.and_eq_true, beq_iff_eq] at ho1
  obtain ⟨rfl, hpc⟩ := ho1
  subst ho2
  exact lv_i2l hx hb hd rfl (kk.next hpc hW hS hL)

theorem sn_l2i  (A : AT g k d h0 h h1 p R s m args meth c H locs lsR ls) (hd : decode (mB k) pc = .ok (raw, len)) (hok : okB k ip .l2i pc raw len hint = true) (hs : stepI d .l2i ls st h = some (.inl (t, ls1, st1, h1))) (kk : KK g k ip p l e R s m args below meth c Q h0 t ls1 st1 h1) : GO g p l e R s m args below meth c Q h0 h H locs lsR st pc := by
  simp only [stepI] at hs
  obtain ⟨x, r, rfl, hs1⟩ := withL_inv hs
  obtain ⟨rfl, rfl, rfl, rfl⟩ := nx_inv hs1
  obtain ⟨F, hW, hS, hL, hc0, hs0, hcR, hsR, hh0, hfr, hlo⟩ := A
  obtain ⟨hx, hb, hml, hret, hown, hts, hlocks, hname, hsz, hX, hbz, hnest⟩ := F
  have hok : (len == 1 && pcOf k (ip + 1) == pc + 1) = true ∧ decide (raw = .l2i) = true := by simpa [okB] using hok
  obtain ⟨ho1, ho2⟩ := hok
  have ho2 := of_decide_eq_true ho2
  simp only [Bool.and_eq_true, beq_iff_eq] at ho1
  obtain ⟨rfl, hpc⟩ := ho1
  subst ho2
  exact lv_l2i hx hb hd rfl (kk.next hpc hW hS hL)

theorem sn_iconst {z : Int} (A : AT g k d h0 h h1 p R s m args meth c H locs lsR ls) (hd : decode (mB k) pc = .ok (raw, len)) (hok : okB k ip (.iconst z) pc raw len hint = true) (hs : stepI d (.iconst z) ls st h = some (.inl (t, ls1, st1, h1))) (kk : KK g k ip p l e R s m args below meth c Q h0 t ls1 st1 h1) : GO g p l e R s m args below meth c Q h0 h H locs lsR st pc := by
  simp only [stepI] at hs
  obtain ⟨rfl, rfl, rfl, rfl⟩ := nx_inv hs
  obtain ⟨F, hW, hS, hL, hc0, hs0, hcR, hsR, hh0, hfr, hlo⟩ := A
  obtain ⟨hx, hb, hml, hret, hown, hts, hlocks, hname, hsz, hX, hbz, hnest⟩ := F
  simp only [okB, Bool.and_eq_true, beq_iff_eq] at hok
  obtain ⟨ho, hpc⟩ := hok
  have hK := kk.next hpc hW hS hL
  unfold okConst at ho
  split at ho
  · simp only [Bool.and_eq_true, beq_iff_eq, decide_eq_true_eq] at ho
    obtain ⟨h1, rfl⟩ := ho
    exact lv_iconst hx hb hd h1 hK
  · simp only [Bool.and_eq_true, beq_iff_eq, decide_eq_true_eq] at ho
    obtain ⟨h1, rfl⟩ := ho
    exact lv_bipush hx hb hd h1 hK
  · simp only [Bool.and_eq_true, beq_iff_eq, decide_eq_true_eq] at ho
    obtain ⟨h1, rfl⟩ := ho
    exact lv_sipush hx hb hd h1 hK
  · simp only [Bool.and_eq_true, beq_iff_eq] at ho
    obtain ⟨h1, rfl⟩ := ho
    exact lv_ldc hx hb hown (hts _ (gTbl_in (memAt_in h1) rfl)) hd hK
  · simp only [Bool.and_eq_true, beq_iff_eq] at ho
    obtain ⟨h1, rfl⟩ := ho
    exact lv_ldcw hx hb hown (hts _ (gTbl_in (memAt_in h1) rfl)) hd hK
  · cases ho

theorem sn_jsr_w {z : Int} (A : AT g k d h0 h h1 p R s m args meth c H locs lsR ls) (hd : decode (mB k) pc = .ok (raw, len)) (hok : okB k ip (.jsr_w z) pc raw len hint = true) (hs : stepI d (.jsr_w z) ls st h = some (.inl (t, ls1, st1, h1))) (kk : KK g k ip p l e R s m args below meth c Q h0 t ls1 st1 h1) : GO g p l e R s m args below meth c Q h0 h H locs lsR st pc := by
  simp only [stepI] at hs
  obtain ⟨rfl, rfl, rfl, rfl⟩ := nx_inv hs
  obtain ⟨F, hW, hS, hL, hc0, hs0, hcR, hsR, hh0, hfr, hlo⟩ := A
  obtain ⟨hx, hb, hml, hret, hown, hts, hlocks, hname, hsz, hX, hbz, hnest⟩ := F
  simp only [okB, Bool.and_eq_true, beq_iff_eq] at hok
  obtain ⟨ho, hpc⟩ := hok
  have hK := kk.next hpc hW hS hL
  unfold okConstL at ho
  split at ho
  · simp only [Bool.and_eq_true, beq_iff_eq, decide_eq_true_eq] at ho
    obtain ⟨h1, rfl⟩ := ho
    exact lv_lconst hx hb hd h1 hK
  · simp only [Bool.and_eq_true, beq_iff_eq] at ho
    obtain ⟨h1, rfl⟩ := ho
    exact lv_ldc2 hx hb hown (hts _ (gTbl_in (memAt_in h1) rfl)) hd hK
  · cases ho

theorem sn_aconst_null  (A : AT g k d h0 h h1 p R s m args meth c H locs lsR ls) (hd : decode (mB k) pc = .ok (raw, len)) (hok : okB k ip .aconst_null pc raw len hint = true) (hs : stepI d .aconst_null ls st h = some (.inl (t, ls1, st1, h1))) (kk : KK g k ip p l e R s m args below meth c Q h0 t ls1 st1 h1) : GO g p l e R s m args below meth c Q h0 h H locs lsR st pc := by
  simp only [stepI] at hs
  obtain ⟨rfl, rfl, rfl, rfl⟩ := nx_inv hs
  obtain ⟨F, hW, hS, hL, hc0, hs0, hcR, hsR, hh0, hfr, hlo⟩ := A
  obtain ⟨hx, hb, hml, hret, hown, hts, hlocks, hname, hsz, hX, hbz, hnest⟩ := F
  have hok : (len == 1 && pcOf k (ip + 1) == pc + 1) = true ∧ decide (raw = .aconst_null) = true := by simpa [okB] using hok
  obtain ⟨ho1, ho2⟩ := hok
  have ho2 := of_decide_eq_true ho2
  simp only [Bool.and_eq_true, beq_iff_eq] at ho1
  obtain ⟨rfl, hpc⟩ := ho1
  subst ho2
  exact lv_null hx hb hd (kk.next hpc hW hS hL)

theorem sn_iload {i : Nat} (A : AT g k d h0 h h1 p R s m args meth c H locs lsR ls) (hd : decode (mB k) pc = .ok (raw, len)) (hok : okB k ip (.iload i) pc raw len hint = true) (hs : stepI d (.iload i) ls st h = some (.inl (t, ls1, st1, h1))) (kk : KK g k ip p l e R s m args below meth c Q h0 t ls1 st1 h1) : GO g p l e R s m args below meth c Q h0 h H locs lsR st pc := by
  simp only [stepI] at hs
  obtain ⟨v, hv, hs1⟩ := withV_inv hs
  obtain ⟨x, r, hq, hs2⟩ := withI_inv hs1
  obtain ⟨rfl, rfl, rfl, rfl⟩ := nx_inv hs2
  cases hq
  obtain ⟨F, hW, hS, hL, hc0, hs0, hcR, hsR, hh0, hfr, hlo⟩ := A
  obtain ⟨hx, hb, hml, hret, hown, hts, hlocks, hname, hsz, hX, hbz, hnest⟩ := F
  simp only [okB, Bool.and_eq_true, beq_iff_eq] at hok
  obtain ⟨hpc, ho⟩ := hok
  have hK := kk.next hpc hW hS hL
  have hlv := hL.2.2.2 _ _ hv
  split at ho
  · simp only [Bool.and_eq_true, beq_iff_eq] at ho
    obtain ⟨rfl, rfl⟩ := ho
    exact lv_iload hx hb hd hlv hK
  · simp only [Bool.and_eq_true, beq_iff_eq] at ho
    obtain ⟨rfl, rfl⟩ := ho
    exact lv_iload_n hx hb hd rfl hlv hK
  · cases ho

theorem sn_lload {i : Nat} (A : AT g k d h0 h h1 p R s m args meth c H locs lsR ls) (hd : decode (mB k) pc = .ok (raw, len)) (hok : okB k ip (.lload i) pc raw len hint = true) (hs : stepI d (.lload i) ls st h = some (.inl (t, ls1, st1, h1))) (kk : KK g k ip p l e R s m args below meth c Q h0 t ls1 st1 h1) : GO g p l e R s m args below meth c Q h0 h H locs lsR st pc := by
  simp only [stepI] at hs
  obtain ⟨v, hv, hs1⟩ := withV_inv hs
  obtain ⟨x, r, hq, hs2⟩ := withL_inv hs1
  obtain ⟨rfl, rfl, rfl, rfl⟩ := nx_inv hs2
  cases hq
  obtain ⟨F, hW, hS, hL, hc0, hs0, hcR, hsR, hh0, hfr, hlo⟩ := A
  obtain ⟨hx, hb, hml, hret, hown, hts, hlocks, hname, hsz, hX, hbz, hnest⟩ := F
  simp only [okB, Bool.and_eq_true, beq_iff_eq] at hok
  obtain ⟨hpc, ho⟩ := hok
  have hK := kk.next hpc hW hS hL
  have hlv := hL.2.2.2 _ _ hv
  split at ho
  · simp only [Bool.and_eq_true, beq_iff_eq] at ho
    obtain ⟨rfl, rfl⟩ := ho
    exact lv_lload hx hb hd hlv hK
  · simp only [Bool.and_eq_true, beq_iff_eq] at ho
    obtain ⟨rfl, rfl⟩ := ho
    exact lv_lload_n hx hb hd rfl hlv hK
  · cases ho

theorem sn_aload {i : Nat} (A : AT g k d h0 h h1 p R s m args meth c H locs lsR ls) (hd : decode (mB k) pc = .ok (raw, len)) (hok : okB k ip (.aload i) pc raw len hint = true) (hs : stepI d (.aload i) ls st h = some (.inl (t, ls1, st1, h1))) (kk : KK g k ip p l e R s m args below meth c Q h0 t ls1 st1 h1) : GO g p l e R s m args below meth c Q h0 h H locs lsR st pc := by
  simp only [stepI] at hs
  obtain ⟨v, hv, hs1⟩ := withV_inv hs
  obtain ⟨x, r, hq, hs2⟩ := withR_inv hs1
  obtain ⟨rfl, rfl, rfl, rfl⟩ := nx_inv hs2
  cases hq
  obtain ⟨F, hW, hS, hL, hc0, hs0, hcR, hsR, hh0, hfr, hlo⟩ := A
  obtain ⟨hx, hb, hml, hret, hown, hts, hlocks, hname, hsz, hX, hbz, hnest⟩ := F
  simp only [okB, Bool.and_eq_true, beq_iff_eq] at hok
  obtain ⟨hpc, ho⟩ := hok
  have hK := kk.next hpc hW hS hL
  have hlv := hL.2.2.2 _ _ hv
  split at ho
  · simp only [Bool.and_eq_true, beq_iff_eq] at ho
    obtain ⟨rfl, rfl⟩ := ho
    exact lv_aload hx hb hd hlv hK
  · simp only [Bool.and_eq_true, beq_iff_eq] at ho
    obtain ⟨rfl, rfl⟩ := ho
    exact lv_aload_n hx hb hd rfl hlv hK
  · cases ho

theorem sn_istore {i : Nat} (A : AT g k d h0 h h1 p R s m args meth c H locs lsR ls) (hd : decode (mB k) pc = .ok (raw, len)) (hok : okB k ip (.istore i) pc raw len hint = true) (hs : stepI d (.istore i) ls st h = some (.inl (t, ls1, st1, h1))) (kk : KK g k ip p l e R s m args below meth c Q h0 t ls1 st1 h1) : GO g p l e R s m args below meth c Q h0 h H locs lsR st pc := by
  simp only [stepI] at hs
  obtain ⟨x, r, rfl, hs1⟩ := withI_inv hs
  obtain ⟨⟨hf, hi⟩, hs2⟩ := gd_inv hs1
  obtain ⟨rfl, rfl, rfl, rfl⟩ := nx_inv hs2
  obtain ⟨F, hW, hS, hL, hc0, hs0, hcR, hsR, hh0, hfr, hlo⟩ := A
  obtain ⟨hx, hb, hml, hret, hown, hts, hlocks, hname, hsz, hX, hbz, hnest⟩ := F
  simp only [okB, Bool.and_eq_true, beq_iff_eq] at hok
  obtain ⟨hpc, ho⟩ := hok
  have hi2 := hi
  rw [hL.2.1] at hi2
  split at ho
  · simp only [Bool.and_eq_true, beq_iff_eq] at ho
    obtain ⟨rfl, rfl⟩ := ho
    exact lv_istore hx hb hd hL.has hi2 rfl (fun ls2 hh => kk.next hpc hW hS (hL.store1 rfl hh hf hi))
  · simp only [Bool.and_eq_true, beq_iff_eq] at ho
    obtain ⟨rfl, rfl⟩ := ho
    exact lv_istore_n hx hb hd rfl hL.has hi2 rfl (fun ls2 hh => kk.next hpc hW hS (hL.store1 rfl hh hf hi))
  · cases ho

theorem sn_lstore {i : Nat} (A : AT g k d h0 h h1 p R s m args meth c H locs lsR ls) (hd : decode (mB k) pc = .ok (raw, len)) (hok : okB k ip (.lstore i) pc raw len hint = true) (hs : stepI d (.lstore i) ls st h = some (.inl (t, ls1, st1, h1))) (kk : KK g k ip p l e R s m args below meth c Q h0 t ls1 st1 h1) : GO g p l e R s m args below meth c Q h0 h H locs lsR st pc := by
  simp only [stepI] at hs
  obtain ⟨x, r, rfl, hs1⟩ := withL_inv hs
  obtain ⟨⟨hf, hi⟩, hs2⟩ := gd_inv hs1
  obtain ⟨rfl, rfl, rfl, rfl⟩ := nx_inv hs2
  obtain ⟨F, hW, hS, hL, hc0, hs0, hcR, hsR, hh0, hfr, hlo⟩ := A
  obtain ⟨hx, hb, hml, hret, hown, hts, hlocks, hname, hsz, hX, hbz, hnest⟩ := F
  simp only [okB, Bool.and_eq_true, beq_iff_eq] at hok
  obtain ⟨hpc, ho⟩ := hok
  have hi2 := hi
  rw [hL.2.1] at hi2
  split at ho
  · simp only [Bool.and_eq_true, beq_iff_eq] at ho
    obtain ⟨rfl, rfl⟩ := ho
    exact lv_lstore hx hb hd hL.has hi2 rfl (fun ls2 hh => kk.next hpc hW hS (hL.store2 rfl hh hf hi))
  · simp only [Bool.and_eq_true, beq_iff_eq] at ho
    obtain ⟨rfl, rfl⟩ := ho
    exact lv_lstore_n hx hb hd rfl hL.has hi2 rfl (fun ls2 hh => kk.next hpc hW hS (hL.store2 rfl hh hf hi))
  · cases ho

theorem sn_astore {i : Nat} (A : AT g k d h0 h h1 p R s m args meth c H locs lsR ls) (hd : decode (mB k) pc = .ok (raw, len)) (hok : okB k ip (.astore i) pc raw len hint = true) (hs : stepI d (.astore i) ls st h = some (.inl (t, ls1, st1, h1))) (kk : KK g k ip p l e R s m args below meth c Q h0 t ls1 st1 h1) : GO g p l e R s m args below meth c Q h0 h H locs lsR st pc := by
  simp only [stepI] at hs
  obtain ⟨x, r, rfl, hs1⟩ := withR_inv hs
  obtain ⟨⟨hf, hi⟩, hs2⟩ := gd_inv hs1
  obtain ⟨rfl, rfl, rfl, rfl⟩ := nx_inv hs2
  obtain ⟨F, hW, hS, hL, hc0, hs0, hcR, hsR, hh0, hfr, hlo⟩ := A
  obtain ⟨hx, hb, hml, hret, hown, hts, hlocks, hname, hsz, hX, hbz, hnest⟩ := F
  simp only [okB, Bool.and_eq_true, beq_iff_eq] at hok
  obtain ⟨hpc, ho⟩ := hok
  have hi2 := hi
  rw [hL.2.1] at hi2
  split at ho
  · simp only [Bool.and_eq_true, beq_iff_eq] at ho
    obtain ⟨rfl, rfl⟩ := ho
    exact lv_astore hx hb hd hL.has hi2 rfl (fun ls2 hh => kk.next hpc hW hS (hL.store1 rfl hh hf hi))
  · simp only [Bool.and_eq_true, beq_iff_eq] at ho
    obtain ⟨rfl, rfl⟩ := ho
    exact lv_astore_n hx hb hd rfl hL.has hi2 rfl (fun ls2 hh => kk.next hpc hW hS (hL.store1 rfl hh hf hi))
  · cases ho

theorem sn_iinc {i : Nat} {z : Int} (A : AT g k d h0 h h1 p R s m args meth c H locs lsR ls) (hd : decode (mB k) pc = .ok (raw, len)) (hok : okB k ip (.iinc i z) pc raw len hint = true) (hs : stepI d (.iinc i z) ls st h = some (.inl (t, ls1, st1, h1))) (kk : KK g k ip p l e R s m args below meth c Q h0 t ls1 st1 h1) : GO g p l e R s m args below meth c Q h0 h H locs lsR st pc := by
  simp only [stepI] at hs
  obtain ⟨v, hv, hs1⟩ := withV_inv hs
  obtain ⟨x, r, hq, hs2⟩ := withI_inv hs1
  cases hq
  obtain ⟨hf, hs3⟩ := gd_inv hs2
  obtain ⟨rfl, rfl, rfl, rfl⟩ := nx_inv hs3
  obtain ⟨F, hW, hS, hL, hc0, hs0, hcR, hsR, hh0, hfr, hlo⟩ := A
  obtain ⟨hx, hb, hml, hret, hown, hts, hlocks, hname, hsz, hX, hbz, hnest⟩ := F
  have hok : (len == 3 && pcOf k (ip + 1) == pc + 3) = true ∧ decide (raw = .iinc i z) = true := by simpa [okB] using hok
  obtain ⟨ho1, ho2⟩ := hok
  have ho2 := of_decide_eq_true ho2
  simp only [Bool.and_eq_true, beq_iff_eq] at ho1
  obtain ⟨rfl, hpc⟩ := ho1
  subst ho2
  have hi := lGet_lt hv
  have hi2 := hi
  rw [hL.2.1] at hi2
  obtain ⟨kq, hkq⟩ := List.getElem?_of_mem (asc_mem (g := g) hv)
  exact lv_iinc hx hb hd hL.has hkq rfl hi2 rfl (fun ls2 hh => kk.next hpc hW hS (hL.store1 rfl hh hf hi))

theorem sn_dup  (A : AT g k d h0 h h1 p R s m args meth c H locs lsR ls) (hd : decode (mB k) pc = .ok (raw, len)) (hok : okB k ip .dup pc raw len hint = true) (hs : stepI d .dup ls st h = some (.inl (t, ls1, st1, h1))) (kk : KK g k ip p l e R s m args below meth c Q h0 t ls1 st1 h1) : GO g p l e R s m args below meth c Q h0 h H locs lsR st pc := by
  simp only [stepI] at hs
  split at hs
  · obtain ⟨hcat, hs1⟩ := gd_inv hs
    obtain ⟨rfl, rfl, rfl, rfl⟩ := nx_inv hs1
    obtain ⟨F, hW, hS, hL, hc0, hs0, hcR, hsR, hh0, hfr, hlo⟩ := A
    obtain ⟨hx, hb, hml, hret, hown, hts, hlocks, hname, hsz, hX, hbz, hnest⟩ := F
    have hok : (len == 1 && pcOf k (ip + 1) == pc + 1) = true ∧ decide (raw = .dup) = true := by simpa [okB] using hok
    obtain ⟨ho1, ho2⟩ := hok
    have ho2 := of_decide_eq_true ho2
    simp only [Bool.and_eq_true, beq_iff_eq] at ho1
    obtain ⟨rfl, hpc⟩ := ho1
    subst ho2
    exact lv_dup hx hb hd (tr_cat.trans hcat) (kk.next hpc hW hS hL)
  · contradiction

theorem sn_dup2  (A : AT g k d h0 h h1 p R s m args meth c H locs lsR ls) (hd : decode (mB k) pc = .ok (raw, len)) (hok : okB k ip .dup2 pc raw len hint = true) (hs : stepI d .dup2 ls st h = some (.inl (t, ls1, st1, h1))) (kk : KK g k ip p l e R s m args below meth c Q h0 t ls1 st1 h1) : GO g p l e R s m args below meth c Q h0 h H locs lsR st pc := by
  simp only [stepI] at hs
  split at hs
  · obtain ⟨⟨hcat, hcat2⟩, hs1⟩ := gd_inv hs
    obtain ⟨rfl, rfl, rfl, rfl⟩ := nx_inv hs1
    obtain ⟨F, hW, hS, hL, hc0, hs0, hcR, hsR, hh0, hfr, hlo⟩ := A
    obtain ⟨hx, hb, hml, hret, hown, hts, hlocks, hname, hsz, hX, hbz, hnest⟩ := F
    have hok : (len == 1 && pcOf k (ip + 1) == pc + 1) = true ∧ decide (raw = .dup2) = true := by simpa [okB] using hok
    obtain ⟨ho1, ho2⟩ := hok
    have ho2 := of_decide_eq_true ho2
    simp only [Bool.and_eq_true, beq_iff_eq] at ho1
    obtain ⟨rfl, hpc⟩ := ho1
    subst ho2
    exact lv_dup2_11 hx hb hd (tr_cat.trans hcat) (tr_cat.trans hcat2) (kk.next hpc hW hS hL)
  · contradiction

theorem sn_goto {z : Int} (A : AT g k d h0 h h1 p R s m args meth c H locs lsR ls) (hd : decode (mB k) pc = .ok (raw, len)) (hok : okB k ip (.goto z) pc raw len hint = true) (hs : stepI d (.goto z) ls st h = some (.inl (t, ls1, st1, h1))) (kk : KK g k ip p l e R s m args below meth c Q h0 t ls1 st1 h1) : GO g p l e R s m args below meth c Q h0 h H locs lsR st pc := by
  simp only [stepI] at hs
  obtain ⟨rfl, rfl, rfl, rfl⟩ := jp_inv hs
  obtain ⟨F, hW, hS, hL, hc0, hs0, hcR, hsR, hh0, hfr, hlo⟩ := A
  obtain ⟨hx, hb, hml, hret, hown, hts, hlocks, hname, hsz, hX, hbz, hnest⟩ := F
  simp only [okB] at hok
  split at hok
  · simp only [okJ, Bool.and_eq_true, beq_iff_eq, decide_eq_true_eq] at hok
    obtain ⟨hj, rfl⟩ := hok
    exact lv_goto hx hb hd hj (kk.jump hW hS hL)
  · cases hok

theorem sn_if_icmp {cc : ClassFile.Cond} {z : Int} (A : AT g k d h0 h h1 p R s m args meth c H locs lsR ls) (hd : decode (mB k) pc = .ok (raw, len)) (hok : okB k ip (.if_icmp cc z) pc raw len hint = true) (hs : stepI d (.if_icmp cc z) ls st h = some (.inl (t, ls1, st1, h1))) (kk : KK g k ip p l e R s m args below meth c Q h0 t ls1 st1 h1) : GO g p l e R s m args below meth c Q h0 h H locs lsR st pc := by
  simp only [stepI] at hs
  obtain ⟨y, r1, rfl, hs1⟩ := withI_inv hs
  obtain ⟨x, r, rfl, hs2⟩ := withI_inv hs1
  obtain ⟨F, hW, hS, hL, hc0, hs0, hcR, hsR, hh0, hfr, hlo⟩ := A
  obtain ⟨hx, hb, hml, hret, hown, hts, hlocks, hname, hsz, hX, hbz, hnest⟩ := F
  simp only [okB, Bool.and_eq_true, beq_iff_eq] at hok
  obtain ⟨⟨hlen, hpc⟩, ho⟩ := hok
  split at ho
  · simp only [okJ, Bool.and_eq_true, beq_iff_eq, decide_eq_true_eq] at ho
    obtain ⟨rfl, hj, hlen2⟩ := ho
    subst hlen
    cases cc <;> simp only [cmpC, decide_eq_true_eq] at hs2
    · refine lv_icmp_eq hx hb hd hj (fun q => ?_) (fun q => ?_)
      · rw [if_pos (by simpa using q)] at hs2
        obtain ⟨rfl, rfl, rfl, rfl⟩ := jp_inv hs2
        exact kk.jump hW hS hL
      · rw [if_neg (by simpa using q)] at hs2
        obtain ⟨rfl, rfl, rfl, rfl⟩ := nx_inv hs2
        exact kk.next hpc hW hS hL
    · refine lv_icmp_ne hx hb hd hj (fun q => ?_) (fun q => ?_)
      · rw [if_pos (by simpa using q)] at hs2
        obtain ⟨rfl, rfl, rfl, rfl⟩ := jp_inv hs2
        exact kk.jump hW hS hL
      · rw [if_neg (by simpa using q)] at hs2
        obtain ⟨rfl, rfl, rfl, rfl⟩ := nx_inv hs2
        exact kk.next hpc hW hS hL
    · refine lv_icmp_lt hx hb hd hj (fun q => ?_) (fun q => ?_)
      · rw [if_pos (by simpa using q)] at hs2
        obtain ⟨rfl, rfl, rfl, rfl⟩ := jp_inv hs2
        exact kk.jump hW hS hL
      · rw [if_neg (by simpa using q)] at hs2
        obtain ⟨rfl, rfl, rfl, rfl⟩ := nx_inv hs2
        exact kk.next hpc hW hS hL
    · refine lv_icmp_ge hx hb hd hj (fun q => ?_) (fun q => ?_)
      · rw [if_pos (by simpa using q)] at hs2
        obtain ⟨rfl, rfl, rfl, rfl⟩ := jp_inv hs2
        exact kk.jump hW hS hL
      · rw [if_neg (by simpa using q)] at hs2
        obtain ⟨rfl, rfl, rfl, rfl⟩ := nx_inv hs2
        exact kk.next hpc hW hS hL
    · refine lv_icmp_gt hx hb hd hj (fun q => ?_) (fun q => ?_)
      · rw [if_pos (by simpa using q)] at hs2
        obtain ⟨rfl, rfl, rfl, rfl⟩ := jp_inv hs2
        exact kk.jump hW hS hL
      · rw [if_neg (by simpa using q)] at hs2
        obtain ⟨rfl, rfl, rfl, rfl⟩ := nx_inv hs2
        exact kk.next hpc hW hS hL
    · refine lv_icmp_le hx hb hd hj (fun q => ?_) (fun q => ?_)
      · rw [if_pos (by simpa using q)] at hs2
        obtain ⟨rfl, rfl, rfl, rfl⟩ := jp_inv hs2
        exact kk.jump hW hS hL
      · rw [if_neg (by simpa using q)] at hs2
        obtain ⟨rfl, rfl, rfl, rfl⟩ := nx_inv hs2
        exact kk.next hpc hW hS hL
  · cases ho

theorem sn_ifCond {cc : ClassFile.Cond} {z : Int} (A : AT g k d h0 h h1 p R s m args meth c H locs lsR ls) (hd : decode (mB k) pc = .ok (raw, len)) (hok : okB k ip (.ifCond cc z) pc raw len hint = true) (hs : stepI d (.ifCond cc z) ls st h = some (.inl (t, ls1, st1, h1))) (kk : KK g k ip p l e R s m args below meth c Q h0 t ls1 st1 h1) : GO g p l e R s m args below meth c Q h0 h H locs lsR st pc := by
  simp only [stepI] at hs
  obtain ⟨x, r, rfl, hs1⟩ := withI_inv hs
  obtain ⟨F, hW, hS, hL, hc0, hs0, hcR, hsR, hh0, hfr, hlo⟩ := A
  obtain ⟨hx, hb, hml, hret, hown, hts, hlocks, hname, hsz, hX, hbz, hnest⟩ := F
  simp only [okB, Bool.and_eq_true, beq_iff_eq] at hok
  obtain ⟨⟨hlen, hpc⟩, ho⟩ := hok
  split at ho
  · simp only [okJ, Bool.and_eq_true, beq_iff_eq, decide_eq_true_eq] at ho
    obtain ⟨rfl, hj, hlen2⟩ := ho
    subst hlen
    cases cc <;> simp only [cmpC, decide_eq_true_eq] at hs1
    · refine lv_if_eq hx hb hd hj (fun q => ?_) (fun q => ?_)
      · rw [if_pos (by simpa using q)] at hs1
        obtain ⟨rfl, rfl, rfl, rfl⟩ := jp_inv hs1
        exact kk.jump hW hS hL
      · rw [if_neg (by simpa using q)] at hs1
        obtain ⟨rfl, rfl, rfl, rfl⟩ := nx_inv hs1
        exact kk.next hpc hW hS hL
    · refine lv_if_ne hx hb hd hj (fun q => ?_) (fun q => ?_)
      · rw [if_pos (by simpa using q)] at hs1
        obtain ⟨rfl, rfl, rfl, rfl⟩ := jp_inv hs1
        exact kk.jump hW hS hL
      · rw [if_neg (by simpa using q)] at hs1
        obtain ⟨rfl, rfl, rfl, rfl⟩ := nx_inv hs1
        exact kk.next hpc hW hS hL
    · refine lv_if_lt hx hb hd hj (fun q => ?_) (fun q => ?_)
      · rw [if_pos (by simpa using q)] at hs1
        obtain ⟨rfl, rfl, rfl, rfl⟩ := jp_inv hs1
        exact kk.jump hW hS hL
      · rw [if_neg (by simpa using q)] at hs1
        obtain ⟨rfl, rfl, rfl, rfl⟩ := nx_inv hs1
        exact kk.next hpc hW hS hL
    · refine lv_if_ge hx hb hd hj (fun q => ?_) (fun q => ?_)
      · rw [if_pos (by simpa using q)] at hs1
        obtain ⟨rfl, rfl, rfl, rfl⟩ := jp_inv hs1
        exact kk.jump hW hS hL
      · rw [if_neg (by simpa using q)] at hs1
        obtain ⟨rfl, rfl, rfl, rfl⟩ := nx_inv hs1
        exact kk.next hpc hW hS hL
    · refine lv_if_gt hx hb hd hj (fun q => ?_) (fun q => ?_)
      · rw [if_pos (by simpa using q)] at hs1
        obtain ⟨rfl, rfl, rfl, rfl⟩ := jp_inv hs1
        exact kk.jump hW hS hL
      · rw [if_neg (by simpa using q)] at hs1
        obtain ⟨rfl, rfl, rfl, rfl⟩ := nx_inv hs1
        exact kk.next hpc hW hS hL
    · refine lv_if_le hx hb hd hj (fun q => ?_) (fun q => ?_)
      · rw [if_pos (by simpa using q)] at hs1
        obtain ⟨rfl, rfl, rfl, rfl⟩ := jp_inv hs1
        exact kk.jump hW hS hL
      · rw [if_neg (by simpa using q)] at hs1
        obtain ⟨rfl, rfl, rfl, rfl⟩ := nx_inv hs1
        exact kk.next hpc hW hS hL
  · cases ho

theorem sn_ifnull {z : Int} (A : AT g k d h0 h h1 p R s m args meth c H locs lsR ls) (hd : decode (mB k) pc = .ok (raw, len)) (hok : okB k ip (.ifnull z) pc raw len hint = true) (hs : stepI d (.ifnull z) ls st h = some (.inl (t, ls1, st1, h1))) (kk : KK g k ip p l e R s m args below meth c Q h0 t ls1 st1 h1) : GO g p l e R s m args below meth c Q h0 h H locs lsR st pc := by
  simp only [stepI] at hs
  obtain ⟨F, hW, hS, hL, hc0, hs0, hcR, hsR, hh0, hfr, hlo⟩ := A
  obtain ⟨hx, hb, hml, hret, hown, hts, hlocks, hname, hsz, hX, hbz, hnest⟩ := F
  simp only [okB, Bool.and_eq_true, beq_iff_eq] at hok
  obtain ⟨⟨hlen, hpc⟩, ho⟩ := hok
  split at ho
  · simp only [okJ, Bool.and_eq_true, beq_iff_eq, decide_eq_true_eq] at ho
    obtain ⟨hj, hlen2⟩ := ho
    subst hlen
    split at hs
    · obtain ⟨rfl, rfl, rfl, rfl⟩ := jp_inv hs
      exact lv_ifnullN hx hb hd hj (kk.jump hW hS hL)
    · obtain ⟨rfl, rfl, rfl, rfl⟩ := nx_inv hs
      exact lv_ifnull hx hb hd (kk.next hpc hW hS hL)
    · contradiction
  · cases ho

theorem okTab_get {a b : List Int} (h : okTab k pc a b = true) {i : Nat} {x : Int} (hx : a[i]? = some x) : ∃ y, b[i]? = some y ∧ (pc : Int) + y = (pcOf k x.toNat : Int) := by
  induction a generalizing b i with
  | nil => simp at hx
  | cons z a ih =>
    cases b with
    | nil => simp [okTab] at h
    | cons y b =>
      simp only [okTab, Bool.and_eq_true, decide_eq_true_eq] at h
      cases i with
      | zero => cases hx; exact ⟨y, rfl, h.1⟩
      | succ i => exact ih h.2 hx
theorem okLkp_get {a b : List (Int × Int)} (h : okLkp k pc a b = true) {da db : Int} (hdd : (pc : Int) + db = (pcOf k da.toNat : Int)) (v : Int) : (pc : Int) + Op.lookupswitch.offset b db v = (pcOf k (Op.lookupswitch.offset a da v).toNat : Int) := by
  induction a generalizing b with
  | nil =>
    cases b with
    | nil => exact hdd
    | cons y b => simp [okLkp] at h
  | cons z a ih =>
    cases b with
    | nil => simp [okLkp] at h
    | cons y b =>
      simp only [okLkp, Bool.and_eq_true, decide_eq_true_eq] at h
      obtain ⟨⟨h1, h2⟩, h3⟩ := h
      obtain ⟨z1, z2⟩ := z
      obtain ⟨y1, y2⟩ := y
      have ih2 := ih h3
      simp only [Op.lookupswitch.offset] at ih2 ⊢
      simp only at h1 h2
      subst h1
      split
      · exact h2
      · exact ih2

theorem sn_tableswitch {dz lo hi : Int} {os : Array Int} (A : AT g k d h0 h h1 p R s m args meth c H locs lsR ls) (hd : decode (mB k) pc = .ok (raw, len)) (hok : okB k ip (.tableswitch dz lo hi os) pc raw len hint = true) (hs : stepI d (.tableswitch dz lo hi os) ls st h = some (.inl (t, ls1, st1, h1))) (kk : KK g k ip p l e R s m args below meth c Q h0 t ls1 st1 h1) : GO g p l e R s m args below meth c Q h0 h H locs lsR st pc := by
  simp only [stepI] at hs
  obtain ⟨x, r, rfl, hs1⟩ := withI_inv hs
  obtain ⟨F, hW, hS, hL, hc0, hs0, hcR, hsR, hh0, hfr, hlo⟩ := A
  obtain ⟨hx, hb, hml, hret, hown, hts, hlocks, hname, hsz, hX, hbz, hnest⟩ := F
  simp only [okB] at hok
  split at hok
  · simp only [Bool.and_eq_true, beq_iff_eq, decide_eq_true_eq] at hok
    obtain ⟨⟨⟨rfl, rfl⟩, hj⟩, ht⟩ := hok
    split at hs1
    · rename_i hcnd
      obtain ⟨rfl, rfl, rfl, rfl⟩ := jp_inv hs1
      exact lv_tableOut hx hb hd hcnd hj (kk.jump hW hS hL)
    · rename_i hcnd
      split at hs1
      · rename_i z hz
        obtain ⟨rfl, rfl, rfl, rfl⟩ := jp_inv hs1
        rw [← Array.getElem?_toList] at hz
        obtain ⟨y, hy, hj2⟩ := okTab_get ht hz
        rw [Array.getElem?_toList] at hy
        exact lv_tableIn hx hb hd (fun q => hcnd (Or.inl q)) (fun q => hcnd (Or.inr q)) hy hj2 (kk.jump hW hS hL)
      · contradiction
  · cases hok

theorem sn_lookupswitch {dz : Int} {ps : Array (Int × Int)} (A : AT g k d h0 h h1 p R s m args meth c H locs lsR ls) (hd : decode (mB k) pc = .ok (raw, len)) (hok : okB k ip (.lookupswitch dz ps) pc raw len hint = true) (hs : stepI d (.lookupswitch dz ps) ls st h = some (.inl (t, ls1, st1, h1))) (kk : KK g k ip p l e R s m args below meth c Q h0 t ls1 st1 h1) : GO g p l e R s m args below meth c Q h0 h H locs lsR st pc := by
  simp only [stepI] at hs
  obtain ⟨x, r, rfl, hs1⟩ := withI_inv hs
  obtain ⟨rfl, rfl, rfl, rfl⟩ := jp_inv hs1
  obtain ⟨F, hW, hS, hL, hc0, hs0, hcR, hsR, hh0, hfr, hlo⟩ := A
  obtain ⟨hx, hb, hml, hret, hown, hts, hlocks, hname, hsz, hX, hbz, hnest⟩ := F
  simp only [okB] at hok
  split at hok
  · simp only [Bool.and_eq_true, decide_eq_true_eq] at hok
    obtain ⟨⟨hj, ht⟩, hz⟩ := hok
    exact lv_lookup hx hb hd hz rfl (okLkp_get ht hj _) (kk.jump hW hS hL)
  · cases hok

theorem okFld_inv {own : String} {n ix : Nat} (h : okFld own n ix hint = true) : ∃ q, vwCl[n / 64]? = some q ∧ n % 64 < q.2.2 ∧ Cond.fieldLink own ix (q.2.1 (n % 64)).1 (q.2.1 (n % 64)).2.1 (q.2.1 (n % 64)).2.2.1 ∈ gTbl := by
  unfold okFld at h
  split at h
  · rename_i C T N hq
    simp only [Bool.and_eq_true, decide_eq_true_eq] at h
    exact ⟨_, hq, h.1, gTbl_in (memAt_in h.2) rfl⟩
  · cases h
theorem w_obj (hW : Wld g s H h) {a ci : Nat} {fs : List Value} (hc : hRd h a = some (.inl (ci, fs))) : ∃ a1, a = a1 + 1 ∧ a1 + 1 < h.1 ∧ (wsOf g h)[a1]? = some (gz g + a1, .inr (ci, fs.map (tr g))) ∧ ∃ q, vwCl[ci]? = some q ∧ fs.length = q.2.2 := by
  obtain ⟨a1, rfl, h1, h2⟩ := hW.2.2.obj hc
  exact ⟨a1, rfl, h1, by rw [ws_get h1, hc]; rfl, h2⟩
theorem Wld.upd (hW : Wld g s H h) {a : Nat} {c0 c1 : (Nat × List Value) ⊕ (FieldType × List Value)} (h0 : hRd h (a + 1) = some c0) (hc : cellOk c1) {H1 : Heap} {x : va_E} (hx : x = enc g (some c1)) (hP : va_P (gD g) vwCl ((wsOf g h).set a (gz g + a, x)) H1) : Wld g s H1 (hWr h (a + 1) (some c1)) := by
  subst hx
  rw [ws_set _ (hW.2.2.2.2 _ _ h0).1] at hP
  exact ⟨hW.1, hP, hW.2.2.wr h0 hc⟩

theorem sn_getfield {n : Nat} (A : AT g k d h0 h h1 p R s m args meth c H locs lsR ls) (hd : decode (mB k) pc = .ok (raw, len)) (hok : okB k ip (.getfield n) pc raw len hint = true) (hs : stepI d (.getfield n) ls st h = some (.inl (t, ls1, st1, h1))) (kk : KK g k ip p l e R s m args below meth c Q h0 t ls1 st1 h1) : GO g p l e R s m args below meth c Q h0 h H locs lsR st pc := by
  simp only [stepI] at hs
  obtain ⟨a, r, rfl, hs1⟩ := withR_inv hs
  obtain ⟨ci, fs, hc, hs2⟩ := withObj_inv hs1
  obtain ⟨hci, hs3⟩ := gd_inv hs2
  obtain ⟨v, hv, hs4⟩ := withV_inv hs3
  obtain ⟨rfl, rfl, rfl, rfl⟩ := nx_inv hs4
  obtain ⟨F, hW, hS, hL, hc0, hs0, hcR, hsR, hh0, hfr, hlo⟩ := A
  obtain ⟨hx, hb, hml, hret, hown, hts, hlocks, hname, hsz, hX, hbz, hnest⟩ := F
  simp only [okB, Bool.and_eq_true, beq_iff_eq] at hok
  obtain ⟨⟨hlen, hpc⟩, ho⟩ := hok
  subst hlen
  split at ho
  · obtain ⟨q, hq, hn, hlk⟩ := okFld_inv ho
    obtain ⟨a1, rfl, ha, he, -⟩ := w_obj hW hc
    subst hci
    have hv2 : (fs.map (tr g))[n % 64]? = some (tr g v) := by rw [List.getElem?_map, hv]; rfl
    exact va_get hx hb hts (cls_lays hq) hown hW.1 hW.2.1 a1 he hq (n % 64) hn (hts _ hlk) (fun x h => h) hv2 hd (kk.next hpc hW hS hL)
  · cases ho

theorem okPut_inv {n : Nat} {rf : Bool} (h : okPut k n rf = true) {q : vw_C} (hq : vwCl[n / 64]? = some q) : ((q.2.1 (n % 64)).2.2.2 = false ∨ ((q.2.1 (n % 64)).2.2.2 = true ∧ (mY k).name = "<init>" ∧ (q.2.1 (n % 64)).1 = (mY k).cls)) ∧ ∃ ty, parseFieldDescriptor (q.2.1 (n % 64)).2.2.1 = some ty ∧ (rf = false → ty = .int) ∧ (rf = true → ∀ a, narrow ty (.ref a) = .ref a ∧ fits ty (.ref a) = true) := by
  unfold okPut at h
  split at h
  · rename_i C T N hq2
    rw [hq] at hq2
    cases hq2
    simp only [Bool.and_eq_true, Bool.or_eq_true, Bool.not_eq_true', decide_eq_true_eq] at h
    obtain ⟨h1, h2⟩ := h
    refine ⟨?_, ?_⟩
    · rcases h1 with h1 | h1
      · exact Or.inl h1
      · cases hb : (T (n % 64)).2.2.2 with
        | false => exact Or.inl rfl
        | true => exact Or.inr ⟨rfl, h1⟩
    · split at h2
      · rename_i ht
        refine ⟨_, ht, fun _ => rfl, ?_⟩
        intro h
        cases h
      · rename_i ht
        refine ⟨_, ht, ?_, fun _ a => ⟨rfl, rfl⟩⟩
        intro h
        cases h
      · rename_i ht
        refine ⟨_, ht, ?_, fun _ a => ⟨rfl, rfl⟩⟩
        intro h
        cases h
      · cases h2
  · cases h

theorem sn_putfield {n : Nat} (A : AT g k d h0 h h1 p R s m args meth c H locs lsR ls) (hd : decode (mB k) pc = .ok (raw, len)) (hok : okB k ip (.putfield n) pc raw len hint = true) (hs : stepI d (.putfield n) ls st h = some (.inl (t, ls1, st1, h1))) (kk : KK g k ip p l e R s m args below meth c Q h0 t ls1 st1 h1) : GO g p l e R s m args below meth c Q h0 h H locs lsR st pc := by
  simp only [stepI] at hs
  obtain ⟨x, r1, rfl, hs1⟩ := withI_inv hs
  obtain ⟨a, r, rfl, hs2⟩ := withR_inv hs1
  obtain ⟨ci, fs, hc, hs3⟩ := withObj_inv hs2
  obtain ⟨hci, hs4⟩ := gd_inv hs3
  obtain ⟨rfl, rfl, rfl, rfl⟩ := nx_inv hs4
  obtain ⟨F, hW, hS, hL, hc0, hs0, hcR, hsR, hh0, hfr, hlo⟩ := A
  obtain ⟨hx, hb, hml, hret, hown, hts, hlocks, hname, hsz, hX, hbz, hnest⟩ := F
  simp only [okB, Bool.and_eq_true, beq_iff_eq] at hok
  obtain ⟨⟨hlen, hpc⟩, ho⟩ := hok
  subst hlen
  split at ho
  · simp only [Bool.and_eq_true] at ho
    obtain ⟨q, hq, hn, hlk⟩ := okFld_inv ho.1
    obtain ⟨a1, rfl, ha, he, q2, hq2, hfl⟩ := w_obj hW hc
    subst hci
    cases hq.symm.trans hq2
    obtain ⟨hfin, ty, hty, hi1, hi2⟩ := okPut_inv ho.2 hq
    have hnf : narrow ty (tr g (.int x)) = tr g (.int x) ∧ fits ty (tr g (.int x)) = true := by
      rw [hi1 rfl]; exact ⟨rfl, rfl⟩
    obtain ⟨⟨ty0, hty0, -⟩, hnm, -⟩ := cls_of hq
    have hlt : n % 64 < (fs.map (tr g)).length := by rw [List.length_map, hfl]; exact hn
    have hset : (.inr (n / 64, (fs.map (tr g)).set (n % 64) (tr g (.int x))) : va_E) = enc g (some (.inl (n / 64, fs.set (n % 64) (.int x)))) := by
      show _ = Sum.inr (n / 64, (fs.set (n % 64) _).map (tr g))
      rw [List.map_set]
    have hco : cellOk (.inl (n / 64, fs.set (n % 64) (.int x))) := ⟨q, hq, by rw [List.length_set]; exact hfl⟩
    rcases hfin with hfin | ⟨hfin, hni, hdc⟩
    · exact va_put hx hb hts (cls_lays hq) ty0 hty0 hnm hown hW.1 hW.2.1 ws_D hS a1 he hq (n % 64) hn (hts _ hlk) (fun x h => h) hfin hty hnf.1 hnf.2 hlt hd (fun H1 locs1 hP1 _ hS1 => kk.next hpc (hW.upd hc hco hset hP1) hS1 hL)
    · exact va_putF hx hb hts (cls_lays hq) ty0 hty0 hnm hown hW.1 hW.2.1 ws_D hS a1 he hq (n % 64) hn (hts _ hlk) (fun x h => h) hfin (hname hni) hdc hty hnf.1 hnf.2 hlt hd (fun H1 locs1 hP1 _ hS1 => kk.next hpc (hW.upd hc hco hset hP1) hS1 hL)
  · cases ho

theorem sn_putstatic {n : Nat} (A : AT g k d h0 h h1 p R s m args meth c H locs lsR ls) (hd : decode (mB k) pc = .ok (raw, len)) (hok : okB k ip (.putstatic n) pc raw len hint = true) (hs : stepI d (.putstatic n) ls st h = some (.inl (t, ls1, st1, h1))) (kk : KK g k ip p l e R s m args below meth c Q h0 t ls1 st1 h1) : GO g p l e R s m args below meth c Q h0 h H locs lsR st pc := by
  simp only [stepI] at hs
  obtain ⟨x, r1, rfl, hs1⟩ := withR_inv hs
  obtain ⟨a, r, rfl, hs2⟩ := withR_inv hs1
  obtain ⟨ci, fs, hc, hs3⟩ := withObj_inv hs2
  obtain ⟨hci, hs4⟩ := gd_inv hs3
  obtain ⟨rfl, rfl, rfl, rfl⟩ := nx_inv hs4
  obtain ⟨F, hW, hS, hL, hc0, hs0, hcR, hsR, hh0, hfr, hlo⟩ := A
  obtain ⟨hx, hb, hml, hret, hown, hts, hlocks, hname, hsz, hX, hbz, hnest⟩ := F
  simp only [okB, Bool.and_eq_true, beq_iff_eq] at hok
  obtain ⟨⟨hlen, hpc⟩, ho⟩ := hok
  subst hlen
  split at ho
  · simp only [Bool.and_eq_true] at ho
    obtain ⟨q, hq, hn, hlk⟩ := okFld_inv ho.1
    obtain ⟨a1, rfl, ha, he, q2, hq2, hfl⟩ := w_obj hW hc
    subst hci
    cases hq.symm.trans hq2
    obtain ⟨hfin, ty, hty, hi1, hi2⟩ := okPut_inv ho.2 hq
    have hnf : narrow ty (tr g (.ref x)) = tr g (.ref x) ∧ fits ty (tr g (.ref x)) = true := by
      exact hi2 rfl _
    obtain ⟨⟨ty0, hty0, -⟩, hnm, -⟩ := cls_of hq
    have hlt : n % 64 < (fs.map (tr g)).length := by rw [List.length_map, hfl]; exact hn
    have hset : (.inr (n / 64, (fs.map (tr g)).set (n % 64) (tr g (.ref x))) : va_E) = enc g (some (.inl (n / 64, fs.set (n % 64) (.ref x)))) := by
      show _ = Sum.inr (n / 64, (fs.set (n % 64) _).map (tr g))
      rw [List.map_set]
    have hco : cellOk (.inl (n / 64, fs.set (n % 64) (.ref x))) := ⟨q, hq, by rw [List.length_set]; exact hfl⟩
    rcases hfin with hfin | ⟨hfin, hni, hdc⟩
    · exact va_put hx hb hts (cls_lays hq) ty0 hty0 hnm hown hW.1 hW.2.1 ws_D hS a1 he hq (n % 64) hn (hts _ hlk) (fun x h => h) hfin hty hnf.1 hnf.2 hlt hd (fun H1 locs1 hP1 _ hS1 => kk.next hpc (hW.upd hc hco hset hP1) hS1 hL)
    · exact va_putF hx hb hts (cls_lays hq) ty0 hty0 hnm hown hW.1 hW.2.1 ws_D hS a1 he hq (n % 64) hn (hts _ hlk) (fun x h => h) hfin (hname hni) hdc hty hnf.1 hnf.2 hlt hd (fun H1 locs1 hP1 _ hS1 => kk.next hpc (hW.upd hc hco hset hP1) hS1 hL)
  · cases ho

end
end
section
-- ONE STEP, GOING ON: arrays, what is made, what is native
theorem i_nn {i : Int32} (h : 0 ≤ i) : ¬ i < 0 := Int32.not_lt.mpr h
theorem i_in {i : Int32} {n : Nat} (h : 0 ≤ i) (h2 : i.toNatClampNeg < n) : vp_in i n := fun q => by
  rcases q with q | q
  · exact i_nn h q
  · omega
theorem encI_get {vs : List Value} {j : Nat} {v : Value} (hv : vs[j]? = some v) (hx : ∃ x, v = .int x) : v = .int (encI vs j) := by
  obtain ⟨x, rfl⟩ := hx
  unfold encI
  rw [hv]
theorem encI_set {vs : List Value} {i : Nat} {x : Int32} (hi : i < vs.length) : encI (vs.set i (.int x)) = upd (encI vs) i x := by
  funext j
  unfold encI upd
  rw [List.getElem?_set]
  by_cases h : i = j
  · subst h
    simp [hi]
  · have h2 : ¬ j = i := fun q => h q.symm
    simp [h, h2]
theorem encI_rep {n : Nat} : encI (List.replicate n (.int 0)) = fun _ => 0 := by
  funext j
  unfold encI
  rw [List.getElem?_replicate]
  split
  · rename_i h
    split at h
    · cases h; rfl
    · cases h
  · rfl
theorem encR_rep {g : LG} {n : Nat} : encR g (List.replicate n .null) = fun _ => none := by
  funext j
  unfold encR
  rw [List.getElem?_replicate]
  split
  · rename_i h
    split at h <;> cases h
  · rfl
theorem encR_set {g : LG} {vs : List Value} {i a : Nat} (hi : i < vs.length) : encR g (vs.set i (.ref a)) = va_up (encR g vs) i (some (adr g a)) := by
  funext j
  unfold encR va_up
  rw [List.getElem?_set]
  by_cases h : i = j
  · subst h
    simp [hi]
  · have h2 : ¬ j = i := fun q => h q.symm
    simp [h, h2]
theorem encI_cpy {v0 v1 : List Value} {sp dp n : Nat} (h0 : sp + n ≤ v0.length) (h1 : dp + n ≤ v1.length) : encI (cpyL v0 sp v1 dp n) = va_cpy (encI v0) (encI v1) sp dp n ∧ (cpyL v0 sp v1 dp n).length = v1.length := by
  have hl1 : (v1.take dp).length = dp := by rw [List.length_take]; omega
  have hl2 : ((v0.drop sp).take n).length = n := by rw [List.length_take, List.length_drop]; omega
  constructor
  · funext j
    unfold encI va_cpy
    have key : (cpyL v0 sp v1 dp n)[j]? = if dp ≤ j ∧ j < dp + n then v0[sp + (j - dp)]? else v1[j]? := by
      unfold cpyL
      by_cases a : j < dp
      · rw [List.getElem?_append_left (by omega), List.getElem?_take, if_pos a, if_neg (by omega)]
      · rw [List.getElem?_append_right (by omega), hl1]
        by_cases b : j < dp + n
        · rw [List.getElem?_append_left (by omega), List.getElem?_take, if_pos (by omega), List.getElem?_drop, if_pos (by omega)]
        · rw [List.getElem?_append_right (by omega), hl2, List.getElem?_drop, if_neg (by omega)]
          congr 1
          omega
    rw [key]
    by_cases a : dp ≤ j ∧ j < dp + n
    · rw [if_pos a, if_pos a]
    · rw [if_neg a, if_neg a]
  · unfold cpyL
    rw [List.length_append, List.length_append, hl1, hl2, List.length_drop]
    omega
theorem cpy_mem {v0 v1 : List Value} {sp dp n : Nat} {v : Value} (h : v ∈ cpyL v0 sp v1 dp n) : v ∈ v0 ∨ v ∈ v1 := by
  unfold cpyL at h
  rcases List.mem_append.mp h with h | h
  · exact Or.inr (List.mem_of_mem_take h)
  · rcases List.mem_append.mp h with h | h
    · exact Or.inl (List.mem_of_mem_drop (List.mem_of_mem_take h))
    · exact Or.inr (List.mem_of_mem_drop h)
theorem cat_sum {r : List Value} (h : r.length ≤ 4) : (r.map fun v => v.category).sum ≤ 8 := by
  have : ∀ r : List Value, (r.map fun v => v.category).sum ≤ 2 * r.length := by
    intro r
    induction r with
    | nil => simp
    | cons v r ih =>
      have : v.category ≤ 2 := by cases v <;> simp [Value.category]
      simp only [List.map_cons, List.sum_cons, List.length_cons]
      omega
  have := this r
  omega
theorem cat_tr {g : LG} {r : List Value} (h : r.length ≤ 4) : ((r.map (tr g)).map fun v => v.category).sum ≤ 8 := cat_sum (by rw [List.length_map]; exact h)
section
variable {p : Program} {l : Launch} {e : Env} {R : Room} {s : State} {m : MethodId} {args : Array Value} {below : List Frame} {meth : Method} {c : Code} {Q : State → Prop} {g : LG} {k ip d pc len hint : Nat} {raw : Instr} {h0 h h1 : LHeap} {H : Heap} {locs : List Loc} {lsR : Array Slot} {ls ls1 : LLoc} {st st1 : List Value} {t : Option Nat}
theorem w_arr (hW : Wld g s H h) {a : Nat} {q : FieldType × List Value} (hc : hRd h (a + 1) = some (.inr q)) : a + 1 < h.1 ∧ (wsOf g h)[a]? = some (gz g + a, enc g (some (.inr q))) ∧ cellOk (.inr q) := by
  obtain ⟨h1, h2⟩ := hW.2.2.2.2 _ _ hc
  exact ⟨h1, by rw [ws_get h1, hc], h2⟩

theorem sn_iaload  (A : AT g k d h0 h h1 p R s m args meth c H locs lsR ls) (hd : decode (mB k) pc = .ok (raw, len)) (hok : okB k ip .iaload pc raw len hint = true) (hs : stepI d .iaload ls st h = some (.inl (t, ls1, st1, h1))) (kk : KK g k ip p l e R s m args below meth c Q h0 t ls1 st1 h1) : GO g p l e R s m args below meth c Q h0 h H locs lsR st pc := by
  simp only [stepI] at hs
  obtain ⟨i, r1, rfl, hs1⟩ := withI_inv hs
  obtain ⟨a, r, rfl, hs2⟩ := withR_inv hs1
  obtain ⟨ty, vs, hc, hs3⟩ := withArr_inv hs2
  obtain ⟨⟨rfl, hi⟩, hs4⟩ := gd_inv hs3
  obtain ⟨v, hv, hs5⟩ := withV_inv hs4
  obtain ⟨rfl, rfl, rfl, rfl⟩ := nx_inv hs5
  have hlt := (List.getElem?_eq_some_iff.mp hv).1
  obtain ⟨F, hW, hS, hL, hc0, hs0, hcR, hsR, hh0, hfr, hlo⟩ := A
  obtain ⟨hx, hb, hml, hret, hown, hts, hlocks, hname, hsz, hX, hbz, hnest⟩ := F
  have hok : (len == 1 && pcOf k (ip + 1) == pc + 1) = true ∧ decide (raw = .iaload) = true := by simpa [okB] using hok
  obtain ⟨ho1, ho2⟩ := hok
  have ho2 := of_decide_eq_true ho2
  simp only [Bool.and_eq_true, beq_iff_eq] at ho1
  obtain ⟨rfl, hpc⟩ := ho1
  subst ho2
  cases a with
  | zero =>
    have hc2 := hW.2.2.2.1
    rw [hc] at hc2
    cases hc2
    rw [List.length_map, List.length_range] at hlt
    have hv2 : v = .int (gx g i.toNatClampNeg) := by
      rw [List.getElem?_map, List.getElem?_range hlt] at hv
      exact (Option.some.inj hv).symm
    subst hv2
    exact va_sld hx hb hX (by omega) (by show ¬ gz g ≤ gb g; omega) hS (i_in hi hlt) hd (kk.next hpc hW hS hL)
  | succ a =>
    obtain ⟨ha, he, hco⟩ := w_arr hW hc
    have hv2 := encI_get hv (hco v (List.mem_of_getElem? hv))
    have hK := kk.next hpc hW hS hL
    rw [hv2] at hK
    exact va_iald hx hb hW.1 hW.2.1 a 0 he rfl (i_in hi hlt) hd hK

theorem sn_baload  (A : AT g k d h0 h h1 p R s m args meth c H locs lsR ls) (hd : decode (mB k) pc = .ok (raw, len)) (hok : okB k ip .baload pc raw len hint = true) (hs : stepI d .baload ls st h = some (.inl (t, ls1, st1, h1))) (kk : KK g k ip p l e R s m args below meth c Q h0 t ls1 st1 h1) : GO g p l e R s m args below meth c Q h0 h H locs lsR st pc := by
  simp only [stepI] at hs
  obtain ⟨i, r1, rfl, hs1⟩ := withI_inv hs
  obtain ⟨a, r, rfl, hs2⟩ := withR_inv hs1
  obtain ⟨ty, vs, hc, hs3⟩ := withArr_inv hs2
  obtain ⟨⟨rfl, hi⟩, hs4⟩ := gd_inv hs3
  obtain ⟨v, hv, hs5⟩ := withV_inv hs4
  obtain ⟨rfl, rfl, rfl, rfl⟩ := nx_inv hs5
  have hlt := (List.getElem?_eq_some_iff.mp hv).1
  obtain ⟨F, hW, hS, hL, hc0, hs0, hcR, hsR, hh0, hfr, hlo⟩ := A
  obtain ⟨hx, hb, hml, hret, hown, hts, hlocks, hname, hsz, hX, hbz, hnest⟩ := F
  have hok : (len == 1 && pcOf k (ip + 1) == pc + 1) = true ∧ decide (raw = .baload) = true := by simpa [okB] using hok
  obtain ⟨ho1, ho2⟩ := hok
  have ho2 := of_decide_eq_true ho2
  simp only [Bool.and_eq_true, beq_iff_eq] at ho1
  obtain ⟨rfl, hpc⟩ := ho1
  subst ho2
  cases a with
  | zero =>
    have hc2 := hW.2.2.2.1
    rw [hc] at hc2
    cases hc2
  | succ a =>
    obtain ⟨ha, he, hco⟩ := w_arr hW hc
    have hv2 := encI_get hv (by rcases hco v (List.mem_of_getElem? hv) with h | h <;> exact ⟨_, h⟩)
    have hK := kk.next hpc hW hS hL
    rw [hv2] at hK
    exact va_zald hx hb hW.1 hW.2.1 a 1 he rfl (i_in hi hlt) hd hK

theorem sn_aaload  (A : AT g k d h0 h h1 p R s m args meth c H locs lsR ls) (hd : decode (mB k) pc = .ok (raw, len)) (hok : okB k ip .aaload pc raw len hint = true) (hs : stepI d .aaload ls st h = some (.inl (t, ls1, st1, h1))) (kk : KK g k ip p l e R s m args below meth c Q h0 t ls1 st1 h1) : GO g p l e R s m args below meth c Q h0 h H locs lsR st pc := by
  simp only [stepI] at hs
  obtain ⟨i, r1, rfl, hs1⟩ := withI_inv hs
  obtain ⟨a, r, rfl, hs2⟩ := withR_inv hs1
  obtain ⟨ty, vs, hc, hs3⟩ := withArr_inv hs2
  obtain ⟨⟨rfl, hi⟩, hs4⟩ := gd_inv hs3
  obtain ⟨v, hv, hs5⟩ := withV_inv hs4
  obtain ⟨rfl, rfl, rfl, rfl⟩ := nx_inv hs5
  have hlt := (List.getElem?_eq_some_iff.mp hv).1
  obtain ⟨F, hW, hS, hL, hc0, hs0, hcR, hsR, hh0, hfr, hlo⟩ := A
  obtain ⟨hx, hb, hml, hret, hown, hts, hlocks, hname, hsz, hX, hbz, hnest⟩ := F
  have hok : (len == 1 && pcOf k (ip + 1) == pc + 1) = true ∧ decide (raw = .aaload) = true := by simpa [okB] using hok
  obtain ⟨ho1, ho2⟩ := hok
  have ho2 := of_decide_eq_true ho2
  simp only [Bool.and_eq_true, beq_iff_eq] at ho1
  obtain ⟨rfl, hpc⟩ := ho1
  subst ho2
  cases a with
  | zero =>
    have hc2 := hW.2.2.2.1
    rw [hc] at hc2
    cases hc2
  | succ a =>
    obtain ⟨ha, he, hco⟩ := w_arr hW hc
    have hv2 : tr g v = va_rf (encR g vs i.toNatClampNeg) := by
      rcases hco.2 v (List.mem_of_getElem? hv) with rfl | ⟨x, rfl⟩
      · unfold encR; rw [hv]; rfl
      · unfold encR; rw [hv]; rfl
    have hK := kk.next hpc hW hS hL
    rw [List.map_cons, hv2] at hK
    exact va_aldq hx hb hW.1 hW.2.1 a 2 he (rfl : (gT g)[2]? = some (gS g, .object "WakeOrder$State")) (i_in hi hlt) hd hK

theorem sn_iastore  (A : AT g k d h0 h h1 p R s m args meth c H locs lsR ls) (hd : decode (mB k) pc = .ok (raw, len)) (hok : okB k ip .iastore pc raw len hint = true) (hs : stepI d .iastore ls st h = some (.inl (t, ls1, st1, h1))) (kk : KK g k ip p l e R s m args below meth c Q h0 t ls1 st1 h1) : GO g p l e R s m args below meth c Q h0 h H locs lsR st pc := by
  simp only [stepI] at hs
  obtain ⟨x, r2, rfl, hs1⟩ := withI_inv hs
  obtain ⟨i, r1, rfl, hs2⟩ := withI_inv hs1
  obtain ⟨a, r, rfl, hs3⟩ := withR_inv hs2
  obtain ⟨ty, vs, hc, hs4⟩ := withArr_inv hs3
  obtain ⟨⟨rfl, hi, hlt, hq⟩, hs5⟩ := gd_inv hs4
  obtain ⟨rfl, rfl, rfl, rfl⟩ := nx_inv hs5
  obtain ⟨F, hW, hS, hL, hc0, hs0, hcR, hsR, hh0, hfr, hlo⟩ := A
  obtain ⟨hx, hb, hml, hret, hown, hts, hlocks, hname, hsz, hX, hbz, hnest⟩ := F
  have hok : (len == 1 && pcOf k (ip + 1) == pc + 1) = true ∧ decide (raw = .iastore) = true := by simpa [okB] using hok
  obtain ⟨ho1, ho2⟩ := hok
  have ho2 := of_decide_eq_true ho2
  simp only [Bool.and_eq_true, beq_iff_eq] at ho1
  obtain ⟨rfl, hpc⟩ := ho1
  subst ho2
  cases a with
  | zero => exact absurd rfl hq
  | succ a =>
    obtain ⟨ha, he, hco⟩ := w_arr hW hc
    have hset : (.inl (gI g, vs.length, .inl (upd (encI vs) i.toNatClampNeg x)) : va_E) = enc g (some (.inr (.int, vs.set i.toNatClampNeg (.int x)))) := by
      show _ = Sum.inl (gI g, (vs.set _ _).length, Sum.inl (encI (vs.set _ _)))
      rw [List.length_set, encI_set hlt]
    have hco2 : cellOk (.inr (.int, vs.set i.toNatClampNeg (.int x))) := fun v hv => by
      rcases List.mem_or_eq_of_mem_set hv with h | h
      · exact hco v h
      · exact ⟨_, h⟩
    exact va_iast hx hb hW.1 hW.2.1 ws_D hS a 0 he rfl (i_in hi hlt) hd (fun H1 locs1 hP1 _ hS1 => kk.next hpc (hW.upd hc hco2 hset hP1) hS1 hL)

theorem sn_bastore  (A : AT g k d h0 h h1 p R s m args meth c H locs lsR ls) (hd : decode (mB k) pc = .ok (raw, len)) (hok : okB k ip .bastore pc raw len hint = true) (hs : stepI d .bastore ls st h = some (.inl (t, ls1, st1, h1))) (kk : KK g k ip p l e R s m args below meth c Q h0 t ls1 st1 h1) : GO g p l e R s m args below meth c Q h0 h H locs lsR st pc := by
  simp only [stepI] at hs
  obtain ⟨x, r2, rfl, hs1⟩ := withI_inv hs
  obtain ⟨i, r1, rfl, hs2⟩ := withI_inv hs1
  obtain ⟨a, r, rfl, hs3⟩ := withR_inv hs2
  obtain ⟨ty, vs, hc, hs4⟩ := withArr_inv hs3
  obtain ⟨⟨rfl, hi, hlt, hq⟩, hs5⟩ := gd_inv hs4
  obtain ⟨rfl, rfl, rfl, rfl⟩ := nx_inv hs5
  obtain ⟨F, hW, hS, hL, hc0, hs0, hcR, hsR, hh0, hfr, hlo⟩ := A
  obtain ⟨hx, hb, hml, hret, hown, hts, hlocks, hname, hsz, hX, hbz, hnest⟩ := F
  have hok : (len == 1 && pcOf k (ip + 1) == pc + 1) = true ∧ decide (raw = .bastore) = true := by simpa [okB] using hok
  obtain ⟨ho1, ho2⟩ := hok
  have ho2 := of_decide_eq_true ho2
  simp only [Bool.and_eq_true, beq_iff_eq] at ho1
  obtain ⟨rfl, hpc⟩ := ho1
  subst ho2
  cases a with
  | zero =>
    have hc2 := hW.2.2.2.1
    rw [hc] at hc2
    cases hc2
  | succ a =>
    obtain ⟨ha, he, hco⟩ := w_arr hW hc
    have hn : vp_nar .boolean x = x := by rcases hq with rfl | rfl <;> rfl
    have hset : (.inl (gZ g, vs.length, .inl (upd (encI vs) i.toNatClampNeg (vp_nar .boolean x))) : va_E) = enc g (some (.inr (.boolean, vs.set i.toNatClampNeg (.int x)))) := by
      show _ = Sum.inl (gZ g, (vs.set _ _).length, Sum.inl (encI (vs.set _ _)))
      rw [List.length_set, encI_set hlt, hn]
    have hco2 : cellOk (.inr (.boolean, vs.set i.toNatClampNeg (.int x))) := fun v hv => by
      rcases List.mem_or_eq_of_mem_set hv with h | h
      · exact hco v h
      · subst h
        rcases hq with rfl | rfl
        · exact Or.inl rfl
        · exact Or.inr rfl
    exact va_zast hx hb hW.1 hW.2.1 ws_D hS a 1 he rfl (i_in hi hlt) hd (fun H1 locs1 hP1 _ hS1 => kk.next hpc (hW.upd hc hco2 hset hP1) hS1 hL)

theorem sn_aastore  (A : AT g k d h0 h h1 p R s m args meth c H locs lsR ls) (hd : decode (mB k) pc = .ok (raw, len)) (hok : okB k ip .aastore pc raw len hint = true) (hs : stepI d .aastore ls st h = some (.inl (t, ls1, st1, h1))) (kk : KK g k ip p l e R s m args below meth c Q h0 t ls1 st1 h1) : GO g p l e R s m args below meth c Q h0 h H locs lsR st pc := by
  simp only [stepI] at hs
  obtain ⟨x, r2, rfl, hs1⟩ := withR_inv hs
  obtain ⟨i, r1, rfl, hs2⟩ := withI_inv hs1
  obtain ⟨a, r, rfl, hs3⟩ := withR_inv hs2
  obtain ⟨ty, vs, hc, hs4⟩ := withArr_inv hs3
  obtain ⟨ci, fs, hcv, hs5⟩ := withObj_inv hs4
  obtain ⟨⟨rfl, hi, hlt, rfl⟩, hs6⟩ := gd_inv hs5
  obtain ⟨rfl, rfl, rfl, rfl⟩ := nx_inv hs6
  obtain ⟨F, hW, hS, hL, hc0, hs0, hcR, hsR, hh0, hfr, hlo⟩ := A
  obtain ⟨hx, hb, hml, hret, hown, hts, hlocks, hname, hsz, hX, hbz, hnest⟩ := F
  have hok : (len == 1 && pcOf k (ip + 1) == pc + 1) = true ∧ decide (raw = .aastore) = true := by simpa [okB] using hok
  obtain ⟨ho1, ho2⟩ := hok
  have ho2 := of_decide_eq_true ho2
  simp only [Bool.and_eq_true, beq_iff_eq] at ho1
  obtain ⟨rfl, hpc⟩ := ho1
  subst ho2
  cases a with
  | zero =>
    have hc2 := hW.2.2.2.1
    rw [hc] at hc2
    cases hc2
  | succ a =>
    obtain ⟨ha, he, hco⟩ := w_arr hW hc
    obtain ⟨x1, rfl, hx1, hex, -⟩ := w_obj hW hcv
    have hset : (.inl (gS g, vs.length, .inr (.inr (.inr (.inr (va_up (encR g vs) i.toNatClampNeg (some (gz g + x1))))))) : va_E) = enc g (some (.inr (tyState, vs.set i.toNatClampNeg (.ref (x1 + 1))))) := by
      show _ = Sum.inl (gS g, (vs.set _ _).length, Sum.inr (Sum.inr (Sum.inr (Sum.inr (encR g (vs.set _ _))))))
      rw [List.length_set, encR_set hlt]
      rfl
    have hco2 : cellOk (.inr (tyState, vs.set i.toNatClampNeg (.ref (x1 + 1)))) := ⟨rfl, fun v hv => by
      rcases List.mem_or_eq_of_mem_set hv with h | h
      · exact hco.2 v h
      · exact Or.inr ⟨_, h⟩⟩
    exact va_astq hx hb hW.1 hW.2.1 ws_D hS a 2 x1 7 (r := (RX7, TX7, 5)) he rfl hex rfl (i_in hi hlt) hd (fun H1 locs1 hP1 _ hS1 => kk.next hpc (hW.upd hc hco2 hset hP1) hS1 hL)

theorem sn_arraylength  (A : AT g k d h0 h h1 p R s m args meth c H locs lsR ls) (hd : decode (mB k) pc = .ok (raw, len)) (hok : okB k ip .arraylength pc raw len hint = true) (hs : stepI d .arraylength ls st h = some (.inl (t, ls1, st1, h1))) (kk : KK g k ip p l e R s m args below meth c Q h0 t ls1 st1 h1) : GO g p l e R s m args below meth c Q h0 h H locs lsR st pc := by
  simp only [stepI] at hs
  obtain ⟨a, r, rfl, hs1⟩ := withR_inv hs
  obtain ⟨ty, vs, hc, hs2⟩ := withArr_inv hs1
  obtain ⟨rfl, rfl, rfl, rfl⟩ := nx_inv hs2
  obtain ⟨F, hW, hS, hL, hc0, hs0, hcR, hsR, hh0, hfr, hlo⟩ := A
  obtain ⟨hx, hb, hml, hret, hown, hts, hlocks, hname, hsz, hX, hbz, hnest⟩ := F
  have hok : (len == 1 && pcOf k (ip + 1) == pc + 1) = true ∧ decide (raw = .arraylength) = true := by simpa [okB] using hok
  obtain ⟨ho1, ho2⟩ := hok
  have ho2 := of_decide_eq_true ho2
  simp only [Bool.and_eq_true, beq_iff_eq] at ho1
  obtain ⟨rfl, hpc⟩ := ho1
  subst ho2
  cases a with
  | zero =>
    have hc2 := hW.2.2.2.1
    rw [hc] at hc2
    cases hc2
    have hK := kk.next hpc hW hS hL
    rw [List.length_map, List.length_range] at hK
    exact va_slen (b := gb g) hx hb hX (by omega) (by show ¬ gz g ≤ gb g; omega) hS hd hK
  | succ a =>
    obtain ⟨ha, he, hco⟩ := w_arr hW hc
    have hK := kk.next hpc hW hS hL
    cases ty with
    | int => exact va_alen hx hb hW.1 hW.2.1 a 0 he rfl rfl hd hK
    | boolean => exact va_alen hx hb hW.1 hW.2.1 a 1 he rfl rfl hd hK
    | _ => exact va_alen hx hb hW.1 hW.2.1 a 2 he rfl rfl hd hK

theorem fresh_q {x : va_E} {q : Nat} (hD : va_D (gA g) (wsOf g h ++ [(q, x)])) (h1 : 1 ≤ h.1) (hq : q < gz g + h.1) : q = gz g + (h.1 - 1) := by
  have hlast : (wsOf g h ++ [(q, x)])[h.1 - 1]? = some (q, x) := by
    rw [List.getElem?_append_right (by rw [ws_len]; omega), ws_len]
    simp
  have hge : gz g ≤ q := hD.2 _ _ hlast
  by_cases hlt : q - gz g < h.1 - 1
  · have ha : (q - gz g) + 1 < h.1 := by omega
    have hi : (wsOf g h ++ [(q, x)])[q - gz g]? = some (gz g + (q - gz g), enc g (hRd h (q - gz g + 1))) := by
      rw [List.getElem?_append_left (by rw [ws_len]; omega), ws_get ha]
    have := hD.1 _ _ _ _ hi hlast (by show gz g + (q - gz g) = q; omega)
    omega
  · omega
theorem tr_new (h1 : 1 ≤ h.1) : tr g (.ref h.1) = .ref (gz g + (h.1 - 1)) := by
  obtain ⟨n, hn⟩ : ∃ n, h.1 = n + 1 := ⟨h.1 - 1, by omega⟩
  rw [hn]
  rfl
/-- behind what was made: the new cell stands at the next place -/
theorem made {sl : Nat} {cv : (Nat × List Value) ⊕ (FieldType × List Value)} {x : va_E} {q n : Nat} {H1 : Heap} {rest : List Value} (hW : Wld g s H h) (hsz : s.heap.size = gz g + (h0.1 - 1)) (hh0 : 1 ≤ h0.1) (hc0 : h0.1 ≤ h.1) (hs0 : h0.2.1 ≤ h.2.1) (hx : x = enc g (some cv)) (hco : cellOk cv)
    (hP1 : va_P (gD g) vwCl (wsOf g h ++ [(q, x)]) H1) (hD1 : va_D (gA g) (wsOf g h ++ [(q, x)])) (hS1 : va_S (gA g) s.heap H1 locs) (hL : LocOK g lsR (mL k) ls)
    (kk : KK g k ip p l e R s m args below meth c Q h0 none ls (.ref h.1 :: rest) (hNew h sl (some cv))) (hn : pcOf k (ip + 1) = n) : W p l e R s m args below meth c H1 locs (h.1 - h0.1 + 1) (h.2.1 - h0.2.1 + sl) Q (F0 m n lsR (.ref q :: rest.map (tr g))) := by
  refine W.sized fun hz => ?_
  have h1 := hW.2.2.1
  have hql : q < H1.size := (hP1 (h.1 - 1) (q, x) (by
    rw [List.getElem?_append_right (by rw [ws_len]; omega), ws_len]
    simp)).lt
  have hq := fresh_q hD1 h1 (by omega)
  subst hq
  subst hx
  rw [ws_push (sl := sl) _ h1] at hP1
  have hK := kk.next hn (⟨hW.1, hP1, hW.2.2.new hco⟩ : Wld g s H1 (hNew h sl (some cv))) hS1 hL
  rw [List.map_cons, tr_new h1] at hK
  have e1 : (hNew h sl (some cv)).1 - h0.1 = h.1 - h0.1 + 1 := by show h.1 + 1 - h0.1 = _; omega
  have e2 : (hNew h sl (some cv)).2.1 - h0.2.1 = h.2.1 - h0.2.1 + sl := by show h.2.1 + sl - h0.2.1 = _; omega
  rw [e1, e2] at hK
  exact hK
theorem made_room {sl : Nat} {cv : LCell} (hc0 : h0.1 ≤ h.1) (hs0 : h0.2.1 ≤ h.2.1) (a : (hNew h sl cv).1 - h0.1 ≤ R.cells) (b : (hNew h sl cv).2.1 - h0.2.1 ≤ R.slots) : h.1 - h0.1 + 1 ≤ R.cells ∧ h.2.1 - h0.2.1 + sl ≤ R.slots := by
  have a : h.1 + 1 - h0.1 ≤ R.cells := a
  have b : h.2.1 + sl - h0.2.1 ≤ R.slots := b
  omega
theorem vp_V_map {fs : List Value} (h : ∀ v ∈ fs, v = .int 0 ∨ v = .null) : fs.map (tr g) = fs := by
  induction fs with
  | nil => rfl
  | cons v fs ih =>
    rw [List.map_cons, ih fun w hw => h w (List.mem_cons_of_mem _ hw)]
    rcases h v List.mem_cons_self with rfl | rfl <;> rfl

theorem sn_new {ci : Nat} (A : AT g k d h0 h h1 p R s m args meth c H locs lsR ls) (hd : decode (mB k) pc = .ok (raw, len)) (hok : okB k ip (.new ci) pc raw len hint = true) (hs : stepI d (.new ci) ls st h = some (.inl (t, ls1, st1, h1))) (kk : KK g k ip p l e R s m args below meth c Q h0 t ls1 st1 h1) : GO g p l e R s m args below meth c Q h0 h H locs lsR st pc := by
  simp only [stepI] at hs
  obtain ⟨rfl, rfl, rfl, rfl⟩ := nx_inv hs
  obtain ⟨F, hW, hS, hL, hc0, hs0, hcR, hsR, hh0, hfr, hlo⟩ := A
  obtain ⟨hx, hb, hml, hret, hown, hts, hlocks, hname, hsz, hX, hbz, hnest⟩ := F
  simp only [okB, Bool.and_eq_true, beq_iff_eq] at hok
  obtain ⟨⟨hlen, hpc⟩, ho⟩ := hok
  subst hlen
  split at ho
  · rename_i ix C T N hq
    simp only [Bool.and_eq_true, beq_iff_eq] at ho
    obtain ⟨hlk, hN⟩ := ho
    obtain ⟨⟨ty, hty, hdef⟩, hnm, -, hinst, hini, hcn, hdv⟩ := cls_of hq
    simp only at hty hdef hnm hinst hini hcn
    have hfl : (clsDef ci).length = N := hcn
    have hr := made_room hc0 hs0 hcR hsR
    rw [hcn] at hr
    refine va_new hx hb hts (cls_lays hq) ty hty hown (hts _ (gTbl_in (memAt_in hlk) rfl)) (hts _ (gTbl_in hinst rfl)) (hts _ (gTbl_in hini rfl)) hW.1 hW.2.1 ws_D hS (fun q hq => ?_) hq (fs := clsDef ci) hdef hr.1 hr.2 hd (fun q H1 hP1 hD1 hS1 => ?_)
    · show gz g ≤ q
      omega
    · have hK := made (cv := .inl (ci, clsDef ci)) hW hsz hh0 hc0 hs0 (by show _ = Sum.inr (ci, (clsDef ci).map (tr g)); rw [vp_V_map hdv]) ⟨_, hq, hfl⟩ hP1 hD1 hS1 hL kk hpc
      rw [hcn] at hK
      exact hK
  · cases ho

theorem sn_newarray_int  (A : AT g k d h0 h h1 p R s m args meth c H locs lsR ls) (hd : decode (mB k) pc = .ok (raw, len)) (hok : okB k ip (.newarray .int) pc raw len hint = true) (hs : stepI d (.newarray .int) ls st h = some (.inl (t, ls1, st1, h1))) (kk : KK g k ip p l e R s m args below meth c Q h0 t ls1 st1 h1) : GO g p l e R s m args below meth c Q h0 h H locs lsR st pc := by
  simp only [stepI] at hs
  obtain ⟨n, r, rfl, hs1⟩ := withI_inv hs
  obtain ⟨⟨hn0, hn1⟩, hs2⟩ := gd_inv hs1
  obtain ⟨rfl, rfl, rfl, rfl⟩ := nx_inv hs2
  obtain ⟨F, hW, hS, hL, hc0, hs0, hcR, hsR, hh0, hfr, hlo⟩ := A
  obtain ⟨hx, hb, hml, hret, hown, hts, hlocks, hname, hsz, hX, hbz, hnest⟩ := F
  have hok : (len == 2 && pcOf k (ip + 1) == pc + 2) = true ∧ decide (raw = .newarray .int) = true := by simpa [okB] using hok
  obtain ⟨ho1, ho2⟩ := hok
  have ho2 := of_decide_eq_true ho2
  simp only [Bool.and_eq_true, beq_iff_eq] at ho1
  obtain ⟨rfl, hpc⟩ := ho1
  subst ho2
  have hr := made_room hc0 hs0 hcR hsR
  have hsm : n.toNatClampNeg ≤ 1000 := by
    have := Int32.le_iff_toInt_le.mp hn1
    have h2 : (1000 : Int32).toInt = 1000 := rfl
    rw [h2] at this
    show n.toInt.toNat ≤ 1000
    omega
  refine va_newa (atype := .int) (ty := .int) (N' := n.toNatClampNeg) (a0 := (n.toNatClampNeg, .inl (fun _ => 0))) hx hb (hts _ (gTbl_in (w := .arrayClass .int) (by decide +kernel) rfl)) rfl hW.1 hW.2.1 ws_D hS (fun q hq => ?_) (fun cA => rfl) (i_nn hn0) rfl (by show n.toNatClampNeg * 4 ≤ _; omega) hr.1 hr.2 hd (fun q cA H1 hK1 hP1 hD1 hS1 => ?_)
  · show gz g ≤ q
    omega
  · have e1 : cA = gI g := by
      have a1 := (hK1.2 3 (cA, .int) rfl).2
      have a2 := (hW.1.2 0 (gI g, .int) rfl).2
      exact Option.some.inj (a1.symm.trans a2)
    subst e1
    refine made (cv := .inr (.int, List.replicate n.toNatClampNeg (.int 0))) hW hsz hh0 hc0 hs0 ?_ ?_ hP1 hD1 hS1 hL kk hpc
    · show _ = Sum.inl (_, (List.replicate _ _).length, Sum.inl (encI _))
      rw [encI_rep, List.length_replicate]
    · intro v hv
      have := List.eq_of_mem_replicate hv
      exact ⟨0, this⟩

theorem sn_newarray_boolean  (A : AT g k d h0 h h1 p R s m args meth c H locs lsR ls) (hd : decode (mB k) pc = .ok (raw, len)) (hok : okB k ip (.newarray .boolean) pc raw len hint = true) (hs : stepI d (.newarray .boolean) ls st h = some (.inl (t, ls1, st1, h1))) (kk : KK g k ip p l e R s m args below meth c Q h0 t ls1 st1 h1) : GO g p l e R s m args below meth c Q h0 h H locs lsR st pc := by
  simp only [stepI] at hs
  obtain ⟨n, r, rfl, hs1⟩ := withI_inv hs
  obtain ⟨⟨hn0, hn1⟩, hs2⟩ := gd_inv hs1
  obtain ⟨rfl, rfl, rfl, rfl⟩ := nx_inv hs2
  obtain ⟨F, hW, hS, hL, hc0, hs0, hcR, hsR, hh0, hfr, hlo⟩ := A
  obtain ⟨hx, hb, hml, hret, hown, hts, hlocks, hname, hsz, hX, hbz, hnest⟩ := F
  have hok : (len == 2 && pcOf k (ip + 1) == pc + 2) = true ∧ decide (raw = .newarray .boolean) = true := by simpa [okB] using hok
  obtain ⟨ho1, ho2⟩ := hok
  have ho2 := of_decide_eq_true ho2
  simp only [Bool.and_eq_true, beq_iff_eq] at ho1
  obtain ⟨rfl, hpc⟩ := ho1
  subst ho2
  have hr := made_room hc0 hs0 hcR hsR
  have hsm : n.toNatClampNeg ≤ 1000 := by
    have := Int32.le_iff_toInt_le.mp hn1
    have h2 : (1000 : Int32).toInt = 1000 := rfl
    rw [h2] at this
    show n.toInt.toNat ≤ 1000
    omega
  refine va_newa (atype := .boolean) (ty := .boolean) (N' := n.toNatClampNeg) (a0 := (n.toNatClampNeg, .inl (fun _ => 0))) hx hb (hts _ (gTbl_in (w := .arrayClass .boolean) (by decide +kernel) rfl)) rfl hW.1 hW.2.1 ws_D hS (fun q hq => ?_) (fun cA => rfl) (i_nn hn0) rfl (by show n.toNatClampNeg * 1 ≤ _; omega) hr.1 hr.2 hd (fun q cA H1 hK1 hP1 hD1 hS1 => ?_)
  · show gz g ≤ q
    omega
  · have e1 : cA = gZ g := by
      have a1 := (hK1.2 3 (cA, .boolean) rfl).2
      have a2 := (hW.1.2 1 (gZ g, .boolean) rfl).2
      exact Option.some.inj (a1.symm.trans a2)
    subst e1
    refine made (cv := .inr (.boolean, List.replicate n.toNatClampNeg (.int 0))) hW hsz hh0 hc0 hs0 ?_ ?_ hP1 hD1 hS1 hL kk hpc
    · show _ = Sum.inl (_, (List.replicate _ _).length, Sum.inl (encI _))
      rw [encI_rep, List.length_replicate]
    · intro v hv
      have := List.eq_of_mem_replicate hv
      exact Or.inl this

theorem sn_anewarray {z : Nat} (A : AT g k d h0 h h1 p R s m args meth c H locs lsR ls) (hd : decode (mB k) pc = .ok (raw, len)) (hok : okB k ip (.anewarray z) pc raw len hint = true) (hs : stepI d (.anewarray z) ls st h = some (.inl (t, ls1, st1, h1))) (kk : KK g k ip p l e R s m args below meth c Q h0 t ls1 st1 h1) : GO g p l e R s m args below meth c Q h0 h H locs lsR st pc := by
  simp only [stepI] at hs
  obtain ⟨n, r, rfl, hs1⟩ := withI_inv hs
  obtain ⟨⟨hn0, hn1⟩, hs2⟩ := gd_inv hs1
  obtain ⟨rfl, rfl, rfl, rfl⟩ := nx_inv hs2
  obtain ⟨F, hW, hS, hL, hc0, hs0, hcR, hsR, hh0, hfr, hlo⟩ := A
  obtain ⟨hx, hb, hml, hret, hown, hts, hlocks, hname, hsz, hX, hbz, hnest⟩ := F
  simp only [okB, Bool.and_eq_true, beq_iff_eq] at hok
  obtain ⟨⟨hlen, hpc⟩, ho⟩ := hok
  subst hlen
  split at ho
  · have hr := made_room hc0 hs0 hcR hsR
    have hsm : n.toNatClampNeg ≤ 1000 := by
      have := Int32.le_iff_toInt_le.mp hn1
      have h2 : (1000 : Int32).toInt = 1000 := rfl
      rw [h2] at this
      show n.toInt.toNat ≤ 1000
      omega
    refine va_newq (C := "WakeOrder$State") (N' := n.toNatClampNeg) hx hb hown (hts _ (gTbl_in (memAt_in ho) rfl)) hnest.2 hW.1 hW.2.1 ws_D hS (fun q hq => ?_) (i_nn hn0) rfl (by omega) hr.1 hr.2 hd (fun q cA H1 hK1 hP1 hD1 hS1 => ?_)
    · show gz g ≤ q
      omega
    · have e1 : cA = gS g := by
        obtain ⟨_, _, _, _, _, a1⟩ := (hK1.2 3 (cA, .object "WakeOrder$State") rfl).2
        obtain ⟨_, _, _, _, _, a2⟩ := (hW.1.2 2 (gS g, .object "WakeOrder$State") rfl).2
        exact Option.some.inj (a1.symm.trans a2)
      subst e1
      refine made (cv := .inr (tyState, List.replicate n.toNatClampNeg .null)) hW hsz hh0 hc0 hs0 ?_ ⟨rfl, ?_⟩ hP1 hD1 hS1 hL kk hpc
      · show _ = Sum.inl (_, (List.replicate _ _).length, Sum.inr (Sum.inr (Sum.inr (Sum.inr (encR g _)))))
        rw [encR_rep, List.length_replicate]
      · intro v hv
        exact Or.inl (List.eq_of_mem_replicate hv)
  · cases ho

theorem sn_pop  (A : AT g k d h0 h h1 p R s m args meth c H locs lsR ls) (hd : decode (mB k) pc = .ok (raw, len)) (hok : okB k ip .pop pc raw len hint = true) (hs : stepI d .pop ls st h = some (.inl (t, ls1, st1, h1))) (kk : KK g k ip p l e R s m args below meth c Q h0 t ls1 st1 h1) : GO g p l e R s m args below meth c Q h0 h H locs lsR st pc := by
  simp only [stepI] at hs
  obtain ⟨a, r, rfl, hs1⟩ := withR_inv hs
  obtain ⟨⟨hd0, hr4⟩, hs2⟩ := gd_inv hs1
  obtain ⟨rfl, rfl, rfl, rfl⟩ := nx_inv hs2
  obtain ⟨F, hW, hS, hL, hc0, hs0, hcR, hsR, hh0, hfr, hlo⟩ := A
  obtain ⟨hx, hb, hml, hret, hown, hts, hlocks, hname, hsz, hX, hbz, hnest⟩ := F
  simp only [okB, Bool.and_eq_true, beq_iff_eq] at hok
  obtain ⟨⟨hlen, hpc⟩, ho⟩ := hok
  subst hlen
  split at ho
  · have h8 := lv_room (m := m) (pc := pc) (ls := lsR) (rest := Value.ref (adr g a) :: st1.map (tr g)) (cat_tr (g := g) hr4)
    exact W.objInit hx hb hown (hts _ (gTbl_in (memAt_in ho) rfl)) (hts _ (gTbl_in (w := .instanceMethod objectInit) (by decide +kernel) rfl)) (hts _ (gTbl_in (w := .code objectInit ⟨#[0xb1]⟩ 1 none) (by decide +kernel) rfl)) (g := F0 m pc lsR (Value.ref (adr g a) :: st1.map (tr g))) rfl (hL.1.trans hml.symm) rfl hd (by omega) (by omega) (kk.next hpc hW hS hL)
  · cases ho

theorem sn_invokeinterface {n z : Nat} (A : AT g k d h0 h h1 p R s m args meth c H locs lsR ls) (hd : decode (mB k) pc = .ok (raw, len)) (hok : okB k ip (.invokeinterface n z) pc raw len hint = true) (hs : stepI d (.invokeinterface n z) ls st h = some (.inl (t, ls1, st1, h1))) (kk : KK g k ip p l e R s m args below meth c Q h0 t ls1 st1 h1) : GO g p l e R s m args below meth c Q h0 h H locs lsR st pc := by
  simp only [stepI] at hs
  obtain ⟨y, r1, rfl, hs1⟩ := withI_inv hs
  obtain ⟨x, r, rfl, hs2⟩ := withI_inv hs1
  obtain ⟨⟨hd0, hr4⟩, hs3⟩ := gd_inv hs2
  obtain ⟨rfl, rfl, rfl, rfl⟩ := nx_inv hs3
  obtain ⟨F, hW, hS, hL, hc0, hs0, hcR, hsR, hh0, hfr, hlo⟩ := A
  obtain ⟨hx, hb, hml, hret, hown, hts, hlocks, hname, hsz, hX, hbz, hnest⟩ := F
  simp only [okB, Bool.and_eq_true, beq_iff_eq] at hok
  obtain ⟨⟨hlen, hpc⟩, ho⟩ := hok
  subst hlen
  have h8 := cat_tr (g := g) hr4
  split at ho
  · have hlk := memAt_in ho
    have hK := kk.next hpc hW hS hL
    by_cases hn : n = 0
    · rw [if_pos hn] at hlk hK
      exact va_mmax hx hb (hml.trans hL.1.symm) hown (hts _ (gTbl_in hlk rfl)) (hts _ (gTbl_in (w := .static Lib.Math.max.name) (by decide +kernel) rfl)) (hts _ (gTbl_in (w := .initialized "java/lang/Math") (by decide +kernel) rfl)) (hts _ (gTbl_in (w := .code Lib.Math.max.name Lib.Math.max.code 2 (some .int)) (by decide +kernel) rfl)) (by omega) (by omega) hcR hsR hd hK
    · rw [if_neg hn] at hlk hK
      exact va_mmin hx hb (hml.trans hL.1.symm) hown (hts _ (gTbl_in hlk rfl)) (hts _ (gTbl_in (w := .static Lib.Math.min.name) (by decide +kernel) rfl)) (hts _ (gTbl_in (w := .initialized "java/lang/Math") (by decide +kernel) rfl)) (hts _ (gTbl_in (w := .code Lib.Math.min.name Lib.Math.min.code 2 (some .int)) (by decide +kernel) rfl)) (by omega) (by omega) hcR hsR hd hK
  · cases ho

theorem sn_invokedynamic {z : Nat} (A : AT g k d h0 h h1 p R s m args meth c H locs lsR ls) (hd : decode (mB k) pc = .ok (raw, len)) (hok : okB k ip (.invokedynamic z) pc raw len hint = true) (hs : stepI d (.invokedynamic z) ls st h = some (.inl (t, ls1, st1, h1))) (kk : KK g k ip p l e R s m args below meth c Q h0 t ls1 st1 h1) : GO g p l e R s m args below meth c Q h0 h H locs lsR st pc := by
  simp only [stepI] at hs
  obtain ⟨n, r5, rfl, hs1⟩ := withI_inv hs
  obtain ⟨dp, r4, rfl, hs2⟩ := withI_inv hs1
  obtain ⟨a1, r3, rfl, hs3⟩ := withR_inv hs2
  obtain ⟨sp, r2, rfl, hs4⟩ := withI_inv hs3
  obtain ⟨a0, r, rfl, hs5⟩ := withR_inv hs4
  obtain ⟨t0, v0, hv0, hs6⟩ := withArr_inv hs5
  obtain ⟨t1, v1, hv1, hs7⟩ := withArr_inv hs6
  obtain ⟨⟨hd0, hr4, rfl, rfl, hsp, hdp, hn, hb0, hb1, hz0, hz1⟩, hs8⟩ := gd_inv hs7
  obtain ⟨rfl, rfl, rfl, rfl⟩ := nx_inv hs8
  obtain ⟨F, hW, hS, hL, hc0, hs0, hcR, hsR, hh0, hfr, hlo⟩ := A
  obtain ⟨hx, hb, hml, hret, hown, hts, hlocks, hname, hsz, hX, hbz, hnest⟩ := F
  simp only [okB, Bool.and_eq_true, beq_iff_eq] at hok
  obtain ⟨⟨hlen, hpc⟩, ho⟩ := hok
  subst hlen
  have h8 := cat_tr (g := g) hr4
  split at ho
  · have hlk := memAt_in ho
    cases a0 with
    | zero => exact absurd rfl hz0
    | succ a0 =>
      cases a1 with
      | zero => exact absurd rfl hz1
      | succ a1 =>
        obtain ⟨ha0, he0, hco0⟩ := w_arr hW hv0
        obtain ⟨ha1, he1, hco1⟩ := w_arr hW hv1
        obtain ⟨hcp, hcl⟩ := encI_cpy hb0 hb1
        have hset : (.inl (gI g, v1.length, .inl (va_cpy (encI v0) (encI v1) sp.toNatClampNeg dp.toNatClampNeg n.toNatClampNeg)) : va_E) = enc g (some (.inr (.int, cpyL v0 sp.toNatClampNeg v1 dp.toNatClampNeg n.toNatClampNeg))) := by
          show _ = Sum.inl (gI g, (cpyL _ _ _ _ _).length, Sum.inl (encI (cpyL _ _ _ _ _)))
          rw [hcp, hcl]
        have hco2 : cellOk (.inr (.int, cpyL v0 sp.toNatClampNeg v1 dp.toNatClampNeg n.toNatClampNeg)) := fun v hv => by
          rcases cpy_mem hv with h | h
          · exact hco0 v h
          · exact hco1 v h
        have hnf : nativeFrameWords "java/lang/System" "arraycopy" 5 + 11 ≤ 22 := by decide +kernel
        exact va_copyi hx hb (hml.trans hL.1.symm) hown (hts _ (gTbl_in hlk rfl)) (hts _ (gTbl_in (w := .native arraycopyName) (by decide +kernel) rfl)) (hts _ (gTbl_in (w := .static arraycopyName) (by decide +kernel) rfl)) (hts _ (gTbl_in (w := .initialized "java/lang/System") (by decide +kernel) rfl)) hW.1 hW.2.1 ws_D hS a0 a1 0 0 (ty := .int) he0 he1 rfl rfl rfl (i_nn hsp) (i_nn hdp) (i_nn hn) hb0 hb1 (fun _ _ => rfl) (by omega) (by omega) hd (fun H1 locs1 hP1 _ hS1 => kk.next hpc (hW.upd hv1 hco2 hset hP1) hS1 hL)
  · cases ho

end
end
section
-- THE LITTLE MACHINE'S RUN IS THE MACHINE'S
set_option maxHeartbeats 4000000 in
theorem stepI_mono {d : Nat} {i : Instr} {ls ls1 : LLoc} {st st1 : List Value} {h h1 : LHeap} {t : Option Nat} (hs : stepI d i ls st h = some (.inl (t, ls1, st1, h1))) : h.1 ≤ h1.1 ∧ h.2.1 ≤ h1.2.1 := by
  cases i
  case newarray ty =>
    cases ty
    case int =>
      simp only [stepI] at hs
      obtain ⟨_, _, _, h1⟩ := withI_inv hs
      obtain ⟨_, h2⟩ := gd_inv h1
      obtain ⟨_, _, _, rfl⟩ := nx_inv h2
      exact ⟨by show h.1 ≤ h.1 + 1; omega, by show h.2.1 ≤ h.2.1 + _; omega⟩
    case boolean =>
      simp only [stepI] at hs
      obtain ⟨_, _, _, h1⟩ := withI_inv hs
      obtain ⟨_, h2⟩ := gd_inv h1
      obtain ⟨_, _, _, rfl⟩ := nx_inv h2
      exact ⟨by show h.1 ≤ h.1 + 1; omega, by show h.2.1 ≤ h.2.1 + _; omega⟩
    all_goals (simp only [stepI] at hs; contradiction)
  all_goals
    simp only [stepI, withI, withL, withR, withObj, withArr, withV, gd, nx, jp] at hs
    first
      | contradiction
      | (repeat' split at hs) <;> first
          | contradiction
          | (cases hs; done)
          | (cases hs; exact ⟨Nat.le_refl _, Nat.le_refl _⟩)
          | (cases hs; exact ⟨by show h.1 ≤ h.1 + 1; omega, by show h.2.1 ≤ h.2.1 + _; omega⟩)
      | (cases hs; exact ⟨Nat.le_refl _, Nat.le_refl _⟩)
      | (cases hs; exact ⟨by show h.1 ≤ h.1 + 1; omega, by show h.2.1 ≤ h.2.1 + _; omega⟩)
section
variable {p : Program} {l : Launch} {e : Env} {R : Room} {s : State} {m : MethodId} {args : Array Value} {below : List Frame} {meth : Method} {c : Code} {Q : State → Prop} {g : LG} {k ip d pc len hint : Nat} {raw i : Instr} {h0 h h1 : LHeap} {H : Heap} {locs : List Loc} {lsR : Array Slot} {ls ls1 : LLoc} {st st1 : List Value} {t : Option Nat}
theorem step_next (A : AT g k d h0 h h1 p R s m args meth c H locs lsR ls) (hd : decode (mB k) pc = .ok (raw, len)) (hok : okB k ip i pc raw len hint = true) (hs : stepI d i ls st h = some (.inl (t, ls1, st1, h1))) (kk : KK g k ip p l e R s m args below meth c Q h0 t ls1 st1 h1) : GO g p l e R s m args below meth c Q h0 h H locs lsR st pc := by
  cases i
  case iconst z => exact sn_iconst A hd hok hs kk
  case jsr_w z => exact sn_jsr_w A hd hok hs kk
  case aconst_null => exact sn_aconst_null A hd hok hs kk
  case iload i => exact sn_iload A hd hok hs kk
  case lload i => exact sn_lload A hd hok hs kk
  case aload i => exact sn_aload A hd hok hs kk
  case istore i => exact sn_istore A hd hok hs kk
  case lstore i => exact sn_lstore A hd hok hs kk
  case astore i => exact sn_astore A hd hok hs kk
  case iinc i z => exact sn_iinc A hd hok hs kk
  case iadd => exact sn_iadd A hd hok hs kk
  case isub => exact sn_isub A hd hok hs kk
  case imul => exact sn_imul A hd hok hs kk
  case iand => exact sn_iand A hd hok hs kk
  case ior => exact sn_ior A hd hok hs kk
  case ixor => exact sn_ixor A hd hok hs kk
  case ishl => exact sn_ishl A hd hok hs kk
  case ishr => exact sn_ishr A hd hok hs kk
  case iushr => exact sn_iushr A hd hok hs kk
  case idiv => exact sn_idiv A hd hok hs kk
  case irem => exact sn_irem A hd hok hs kk
  case ladd => exact sn_ladd A hd hok hs kk
  case lmul => exact sn_lmul A hd hok hs kk
  case land => exact sn_land A hd hok hs kk
  case ldiv => exact sn_ldiv A hd hok hs kk
  case lrem => exact sn_lrem A hd hok hs kk
  case lcmp => exact sn_lcmp A hd hok hs kk
  case i2l => exact sn_i2l A hd hok hs kk
  case l2i => exact sn_l2i A hd hok hs kk
  case dup => exact sn_dup A hd hok hs kk
  case dup2 => exact sn_dup2 A hd hok hs kk
  case pop => exact sn_pop A hd hok hs kk
  case goto t => exact sn_goto A hd hok hs kk
  case ifCond c t => exact sn_ifCond A hd hok hs kk
  case if_icmp c t => exact sn_if_icmp A hd hok hs kk
  case ifnull t => exact sn_ifnull A hd hok hs kk
  case tableswitch a b c d => exact sn_tableswitch A hd hok hs kk
  case lookupswitch a b => exact sn_lookupswitch A hd hok hs kk
  case getfield n => exact sn_getfield A hd hok hs kk
  case putfield n => exact sn_putfield A hd hok hs kk
  case putstatic n => exact sn_putstatic A hd hok hs kk
  case new n => exact sn_new A hd hok hs kk
  case anewarray n => exact sn_anewarray A hd hok hs kk
  case iaload => exact sn_iaload A hd hok hs kk
  case baload => exact sn_baload A hd hok hs kk
  case aaload => exact sn_aaload A hd hok hs kk
  case iastore => exact sn_iastore A hd hok hs kk
  case bastore => exact sn_bastore A hd hok hs kk
  case aastore => exact sn_aastore A hd hok hs kk
  case arraylength => exact sn_arraylength A hd hok hs kk
  case invokedynamic n => exact sn_invokedynamic A hd hok hs kk
  case invokeinterface n z => exact sn_invokeinterface A hd hok hs kk
  case newarray ty =>
    cases ty
    case int => exact sn_newarray_int A hd hok hs kk
    case boolean => exact sn_newarray_boolean A hd hok hs kk
    all_goals (simp only [stepI] at hs; contradiction)
  case nop =>
    simp only [stepI] at hs
    obtain ⟨rfl, rfl, rfl, rfl⟩ := nx_inv hs
    simp only [okB, beq_iff_eq] at hok
    exact kk.next hok A.2.1 A.2.2.1 A.2.2.2.1
  case invokestatic n =>
    simp only [stepI] at hs
    obtain ⟨_, hs2⟩ := gd_inv hs
    cases hs2
  case ireturn =>
    simp only [stepI] at hs
    split at hs <;> cases hs
  case areturn =>
    simp only [stepI] at hs
    split at hs
    · obtain ⟨_, hs2⟩ := gd_inv hs
      cases hs2
    · contradiction
  case return_ =>
    simp only [stepI] at hs
    split at hs <;> cases hs
  all_goals (simp only [stepI] at hs; contradiction)
/-- what a method answers -/
def QcK (g : LG) (v : Option Value) (h : LHeap) : Array Value → State → Outcome → State → Prop := match v with
  | none => va_Qv (S := Unit) (fun _ => True) (fun _ t => va_P (gD g) vwCl (wsOf g h) t.heap ∧ WfH g h) (gA g)
  | some (.int r) => va_Qi (S := Unit) (fun r1 _ => r1 = r) (fun _ t => va_P (gD g) vwCl (wsOf g h) t.heap ∧ WfH g h) (gA g)
  | some _ => fun _ _ _ _ => False
def PcK (g : LG) (as : List Value) (h : LHeap) : Array Value → State → Prop := va_Pc (as.map (tr g)) (fun U => Wld g U U.heap h ∧ U.heap.size = gz g + (h.1 - 1) ∧ va_X (gb g) (gL g) (gx g) U U.heap ∧ gb g < gz g ∧ (∀ w ∈ nests, va_Nw w U) ∧ va_AO "WakeOrder$State" U)
def rmK (d : Nat) (h h1 : LHeap) : Room := { frames := d, cells := h1.1 - h.1, slots := h1.2.1 - h.2.1, locals := 30 * d }
theorem step_ret {v : Option Value} (F : Fr g k h0 p s m args meth c) (hW : Wld g s H h) (hS : va_S (gA g) s.heap H locs) (hd : decode (mB k) pc = .ok (raw, len)) (hok : okB k ip i pc raw len hint = true) (hs : stepI d i ls st h = some (.inr (.inl v))) : W p l e R s m args below meth c H locs (h.1 - h0.1) (h.2.1 - h0.2.1) (MQ below (QcK g v h) args s (h.1 - h0.1) (h.2.1 - h0.2.1) (gA g)) (F0 m pc lsR (st.map (tr g))) := by
  obtain ⟨hx, hb, hml, hret, hown, hts, hlocks, hname, hsz, hX, hbz, hnest⟩ := F
  cases i
  case ireturn =>
    simp only [stepI] at hs
    split at hs
    · cases hs
      have hok : decide (raw = .ireturn) = true ∧ (len == 1) = true ∧ decide (mRet k = some .int) = true := by simpa [okB, and_assoc] using hok
      obtain ⟨ho1, ho2, ho3⟩ := hok
      have ho1 := of_decide_eq_true ho1
      have ho3 := of_decide_eq_true ho3
      simp only [beq_iff_eq] at ho2
      subst ho1
      subst ho2
      exact W.iret hx hb (hret.trans ho3) (fun t ht hWm => ⟨⟨_, (), rfl, rfl, by rw [ht]; exact hW.2.1, hW.2.2⟩, hS.F ht⟩) hS.2.2 hd hlocks
    · contradiction
  case areturn =>
    simp only [stepI] at hs
    split at hs
    · obtain ⟨hx01, hs2⟩ := gd_inv hs
      cases hs2
      have hok : decide (raw = .ireturn) = true ∧ (len == 1) = true ∧ decide (mRet k = some .boolean) = true := by simpa [okB, and_assoc] using hok
      obtain ⟨ho1, ho2, ho3⟩ := hok
      have ho1 := of_decide_eq_true ho1
      have ho3 := of_decide_eq_true ho3
      simp only [beq_iff_eq] at ho2
      subst ho1
      subst ho2
      exact W.zret hx hb (hret.trans ho3) (by rcases hx01 with rfl | rfl <;> rfl) (fun t ht hWm => ⟨⟨_, (), rfl, rfl, by rw [ht]; exact hW.2.1, hW.2.2⟩, hS.F ht⟩) hS.2.2 hd hlocks
    · contradiction
  case return_ =>
    simp only [stepI] at hs
    split at hs
    · cases hs
      have hok : decide (raw = .return_) = true ∧ (len == 1) = true ∧ decide (mRet k = none) = true := by simpa [okB, and_assoc] using hok
      obtain ⟨ho1, ho2, ho3⟩ := hok
      have ho1 := of_decide_eq_true ho1
      have ho3 := of_decide_eq_true ho3
      simp only [beq_iff_eq] at ho2
      subst ho1
      subst ho2
      exact W.vret hx hb (hret.trans ho3) (fun t ht hWm => ⟨⟨(), rfl, trivial, by rw [ht]; exact hW.2.1, hW.2.2⟩, hS.F ht⟩) hS.2.2 hd hlocks
    · contradiction
  case newarray ty =>
    cases ty
    case int =>
      simp only [stepI] at hs
      obtain ⟨_, _, _, h1⟩ := withI_inv hs
      obtain ⟨_, h2⟩ := gd_inv h1
      cases h2
    case boolean =>
      simp only [stepI] at hs
      obtain ⟨_, _, _, h1⟩ := withI_inv hs
      obtain ⟨_, h2⟩ := gd_inv h1
      cases h2
    all_goals (simp only [stepI] at hs; contradiction)
  all_goals
    simp only [stepI, withI, withL, withR, withObj, withArr, withV, gd, nx, jp] at hs
    first
      | contradiction
      | (cases hs; done)
      | (repeat' split at hs) <;> (cases hs; done)
end
end
section
-- CALLS, AND THE WHOLE RUN OF A FRAME
theorem gTbl_good {w : Jvm.Cond} (h : w ∈ gTbl) : (w.onTables && w.keeps) = true ∨ ∃ ty, w = .arrayClass ty := good_of_word (List.mem_filter.mp h).2
theorem goodIn_g {ws : List Jvm.Cond} (h : ∀ w ∈ ws, w ∈ gTbl) : GoodIn gTbl ws := fun w hw => ⟨h w hw, gTbl_good (h w hw)⟩
/-- what okHead says -/
theorem okHead_inv {k : Nat} (h : okHead k = true) : plainName (mY k).cls = true ∧ ((mY k).cls ≠ "java/lang/invoke/MethodHandle" ∧ (mY k).cls ≠ "java/lang/invoke/VarHandle" ∧ (parseMethodDescriptor (mY k).desc).map (fun d => d.parameters.length) = some (mNp k)) ∧ Cond.code (mY k) (mB k) (mL k) (mRet k) ∈ gTbl ∧ Cond.initialized (mY k).cls ∈ gTbl ∧ mL k ≤ 11 ∧
    ((mKind k = 0 ∧ Cond.static (mY k) ∈ gTbl ∧ mNa k = mNp k) ∨ (mKind k = 1 ∧ Cond.instanceMethod (mY k) ∈ gTbl ∧ Cond.selects (mY k).cls (mY k) (mY k) ∈ gTbl ∧ mNa k = mNp k + 1 ∧ ∃ q, vwCl[mCi k]? = some q ∧ q.1 = (mY k).cls) ∨ (mKind k = 2 ∧ Cond.instanceMethod (mY k) ∈ gTbl ∧ (mY k).name = "<init>" ∧ mRet k = none ∧ mNa k = mNp k + 1)) := by
  unfold okHead at h
  simp only [Bool.and_eq_true, decide_eq_true_eq] at h
  obtain ⟨⟨⟨⟨⟨h1, h2⟩, h3⟩, h4⟩, h5⟩, h6⟩ := h
  refine ⟨h1, h2, gTbl_in (memAt_in h3) rfl, gTbl_in (memAt_in h4) rfl, h5, ?_⟩
  split at h6
  · rename_i hk
    simp only [Bool.and_eq_true, beq_iff_eq] at h6
    exact Or.inl ⟨hk, gTbl_in (memAt_in h6.1) rfl, h6.2⟩
  · rename_i hk
    simp only [Bool.and_eq_true, beq_iff_eq] at h6
    obtain ⟨⟨⟨a1, a2⟩, a3⟩, a4⟩ := h6
    refine Or.inr (Or.inl ⟨hk, gTbl_in (memAt_in a1) rfl, gTbl_in (memAt_in a2) rfl, a3, ?_⟩)
    split at a4
    · rename_i q hq
      exact ⟨q, hq, of_decide_eq_true a4⟩
    · cases a4
  · rename_i hk
    simp only [Bool.and_eq_true, beq_iff_eq, decide_eq_true_eq] at h6
    obtain ⟨⟨⟨a1, a2⟩, a3⟩, a4⟩ := h6
    exact Or.inr (Or.inr ⟨hk, gTbl_in (memAt_in a1) rfl, a2, a3, a4⟩)
  · cases h6
section
variable {p : Program} {l : Launch} {e : Env} {R : Room} {s : State} {m : MethodId} {args : Array Value} {below : List Frame} {meth : Method} {c : Code} {Q : State → Prop} {g : LG} {k k1 ip d d1 pc len hint : Nat} {raw i : Instr} {h0 h h1 : LHeap} {H : Heap} {locs : List Loc} {lsR : Array Slot} {ls ls1 : LLoc} {st st1 as r : List Value} {t : Option Nat} {v : Option Value}
theorem PcK_blind : FrameBlind (PcK g as h) := by
  intro a U gf mk hp
  obtain ⟨e1, ⟨hK, hP, hw⟩, hz, hX, hbz, hn, hao⟩ := hp
  exact ⟨e1, ⟨va_K.moved (u := U) (U := U.calling gf mk a) (Vm.Alike.refl U.vm) hK, hP, hw⟩, hz, va_X.moved (u := U) (U := U.calling gf mk a) (Vm.Alike.refl U.vm) hX, hbz, fun w hw => by
    have h1 := hn w hw
    have ht : w.onTables = true := by
      have : ∀ w ∈ nests, w.onTables = true := by decide +kernel
      exact this w hw
    exact va_Nw.same (u := U) (U := U.calling gf mk a) ht rfl h1, va_AO.moved (u := U) (U := U.calling gf mk a) (Vm.Alike.refl U.vm) hao⟩
theorem nest_warm {w : Jvm.Cond} (hw : w ∈ nests) {U : State} (hW : s.WarmedH U.vm) (hZ : va_Nw w s) : va_Nw w U := by
  have : ∀ w ∈ nests, ∃ a i x h, w = .methodLinkNest a i x h := by
    intro w hw
    simp only [nests, List.mem_cons, List.not_mem_nil, or_false] at hw
    repeat' (rcases hw with rfl | hw)
    all_goals first | exact ⟨_, _, _, _, rfl⟩ | (subst hw; exact ⟨_, _, _, _, rfl⟩)
  obtain ⟨a, i, x, h, rfl⟩ := this w hw
  exact va_Nw.warmM hW hZ
theorem PcK_at (F : Fr g k h0 p s m args meth c) (hW : Wld g s H h) (hS : va_S (gA g) s.heap H locs) (hz : H.size = gz g + (h.1 - 1)) {U : State} (hU : U.heap = H) (hWm : s.WarmedH U.vm) : PcK g as h (as.map (tr g)).toArray U := by
  obtain ⟨hx, hb, hml, hret, hown, hts, hlocks, hname, hsz, hX, hbz, hnest⟩ := F
  refine ⟨rfl, ⟨va_K.moved hWm.alike hW.1, by rw [hU]; exact hW.2.1, hW.2.2⟩, by rw [hU]; exact hz, ?_, hbz, fun w hw => nest_warm hw hWm (hnest.1 w hw), va_AO.moved hWm.alike hnest.2⟩
  rw [hU]
  exact (va_X.moved hWm.alike hX).kept (hS.2.1 _ (by omega) (by show ¬ gz g ≤ gb g; omega))
theorem heap_size (A : AT g k d h0 h h1 p R s m args meth c H locs lsR ls) (hz : H.size ≤ s.heap.size + (h.1 - h0.1)) : H.size = gz g + (h.1 - 1) := by
  obtain ⟨F, hW, hS, hL, hc0, hs0, hcR, hsR, hh0, hfr, hlo⟩ := A
  obtain ⟨hx, hb, hml, hret, hown, hts, hlocks, hname, hsz, hX, hbz, hnest⟩ := F
  have := hW.low hsz hS
  have := hW.2.2.1
  omega
/-- a call, by its run: what comes back -/
theorem call_back (A : AT g k d h0 h h1 p R s m args meth c H locs lsR ls) (hm1 : h.1 ≤ h1.1) (hm2 : h.2.1 ≤ h1.2.1) {st0 : List Value} {a : Array Value}
    (hr : va_Run p l e R s m args below meth c H locs (h.1 - h0.1) (h.2.1 - h0.2.1) (h1.1 - h.1) (h1.2.1 - h.2.1) (F0 m pc lsR st0) (r.map (tr g)) (QcK g v h1 a) (gA g))
    (kk : KK g k ip p l e R s m args below meth c Q h0 none ls (v.toList ++ r) h1) (hpc : pcOf k (ip + 1) = pc + 3) : W p l e R s m args below meth c H locs (h.1 - h0.1) (h.2.1 - h0.2.1) Q (F0 m pc lsR st0) := by
  obtain ⟨F, hW, hS, hL, hc0, hs0, hcR, hsR, hh0, hfr, hlo⟩ := A
  have e1 : h.1 - h0.1 + (h1.1 - h.1) = h1.1 - h0.1 := by omega
  have e2 : h.2.1 - h0.2.1 + (h1.2.1 - h.2.1) = h1.2.1 - h0.2.1 := by omega
  cases v with
  | none =>
    refine va_callv (S := Unit) (a := a) hr hS (fun _ _ q => q) (fun _ q => q) (fun u t H1 locs1 ht hvm hw hB hz hk hS1 => ?_)
    rw [e1, e2]
    subst ht
    exact kk.next hpc ⟨hW.1, hB.1, hB.2⟩ hS1 hL
  | some v =>
    cases v with
    | int x =>
      refine va_calli (S := Unit) (a := a) hr hS (fun _ _ q => q) (fun _ q => q) (fun y u t H1 locs1 ht hvm hw hB hz hk hS1 => ?_)
      rw [e1, e2]
      subst ht
      subst hw
      exact kk.next hpc ⟨hW.1, hB.1, hB.2⟩ hS1 hL
    | _ =>
      intro T hT X
      obtain ⟨_, _, _, _, _, _, _, _, _, _, hq, _⟩ := hr T hT X
      exact hq.elim
theorem nest_in {w : Jvm.Cond} (h : nests.contains w = true) : w ∈ nests := by simpa using h
set_option maxHeartbeats 4000000 in
theorem step_call (A : AT g k (d1 + 1) h0 h h1 p R s m args meth c H locs lsR ls) (hd : decode (mB k) pc = .ok (raw, len)) (hok : okB k ip (.invokestatic k1) pc raw len hint = true) (hs : stepI (d1 + 1) (.invokestatic k1) ls st h = some (.inr (.inr (k1, as, r)))) (hcall : callOk k1 as h = true) (hH : okHead k1 = true) (hm1 : h.1 ≤ h1.1) (hm2 : h.2.1 ≤ h1.2.1)
    (hM : Met l (mY k1) (wsK k1) (rmK d1 h h1) (PcK g as h) (QcK g v h1) (h1.1 - h.1) (h1.2.1 - h.2.1) (gA g))
    (kk : KK g k ip p l e R s m args below meth c Q h0 none ls (v.toList ++ r) h1) : GO g p l e R s m args below meth c Q h0 h H locs lsR st pc := by
  simp only [stepI] at hs
  obtain ⟨⟨hn1, hr4⟩, hs2⟩ := gd_inv hs
  have hs3 := Option.some.inj hs2
  have hs4 := Sum.inr.inj (Sum.inr.inj hs3)
  simp only [Prod.mk.injEq, true_and] at hs4
  obtain ⟨has, hrr⟩ := hs4
  rw [hrr] at hr4
  have hst : st = as.reverse ++ r := by rw [← has, ← hrr, List.reverse_reverse, List.take_append_drop]
  simp only [okB, Bool.and_eq_true, beq_iff_eq] at hok
  obtain ⟨⟨hlen, hpc⟩, ho⟩ := hok
  subst hlen
  unfold okCall at ho
  simp only [Bool.and_eq_true] at ho
  obtain ⟨-, ho⟩ := ho
  obtain ⟨p1, p2, p3, p4, p5, p6⟩ := okHead_inv hH
  have A0 := A
  obtain ⟨F, hW, hS, hL, hc0, hs0, hcR, hsR, hh0, hfr, hlo⟩ := A0
  have F0' := F
  obtain ⟨hx, hb, hml, hret, hown, hts, hlocks, hname, hsz, hX, hbz, hnest⟩ := F0'
  have hwk : ∀ w ∈ wsK k1, w ∈ gTbl := fun w hw => by
    rcases List.mem_cons.mp hw with rfl | hw
    · exact p3
    · exact hw
  have hroom : (rmK d1 h h1).frames + 1 ≤ R.frames ∧ 8 + (mL k1 + 11) + (rmK d1 h h1).locals ≤ R.locals := by
    refine ⟨?_, ?_⟩
    · show d1 + 1 ≤ _
      omega
    · show 8 + (mL k1 + 11) + 30 * d1 ≤ _
      omega
  have hcells : h.1 - h0.1 + (h1.1 - h.1) ≤ R.cells ∧ h.2.1 - h0.2.1 + (h1.2.1 - h.2.1) ≤ R.slots := by omega
  have hcat := lv_room (m := m) (pc := pc) (ls := lsR) (rest := st.map (tr g)) (cat_tr (g := g) hr4)
  have hlsz : lsR.size = mL k := hL.1
  have hco := hcall
  unfold callOk at hco
  simp only [Bool.and_eq_true, decide_eq_true_eq, Bool.or_eq_true, beq_iff_eq] at hco
  obtain ⟨⟨⟨-, hexp⟩, hna⟩, hrec⟩ := hco
  refine W.sized fun hsz1 => ?_
  have hH1 := heap_size A hsz1
  have hpre : ∀ U : State, U.heap = H → s.WarmedH U.vm → PcK g as h (as.map (tr g)).toArray U := fun U hU hWm => PcK_at F hW hS hH1 hU hWm
  subst hst
  rcases p6 with ⟨hk, q1, q2⟩ | ⟨hk, q1, q2, q3, q4, q5, q6⟩ | ⟨hk, q1, q2, q3, q4⟩
  · -- static
    have hstk : (F0 m pc lsR ((as.reverse ++ r).map (tr g))).stack = (as.map (tr g)).reverse ++ r.map (tr g) := by
      show (as.reverse ++ r).map (tr g) = _
      rw [List.map_append, List.map_reverse]
    have hlen : (as.map (tr g)).length = mNp k1 := by rw [List.length_map, hna, q2]
    split at ho
    · rename_i ix hraw
      rcases Bool.or_eq_true _ _ ▸ ho with ho | ho
      · exact call_back A hm1 hm2 (va_runS (l := l) (below := below) (e := e) (rest := r.map (tr g)) ⟨hx, hb, hml, hown, hts⟩ hM ⟨callB_of (mNp k1) hts (goodIn_g hwk) rfl rfl rfl (hts _ p4) (hts _ (gTbl_in (memAt_in ho) rfl)) p2 hroom, hts _ q1⟩ ⟨PcK_blind, hpre⟩ rfl hlen hlsz hstk hcat hd hcells) kk hpc
      · exact call_back A hm1 hm2 (va_runSN (l := l) (below := below) (e := e) (rest := r.map (tr g)) ⟨hx, hb, hml, hown, hts⟩ hM ⟨va_cnB (mNp k1) hts (goodIn_g hwk) rfl rfl rfl (hnest.1 _ (nest_in ho)) (hts _ p4) p2 hroom, hts _ q1, trivial⟩ ⟨PcK_blind, hpre⟩ rfl hlen hlsz hstk hcat hd hcells) kk hpc
    · rename_i h9; rw [hk] at h9; cases h9
    · rename_i h9; rw [hk] at h9; cases h9
    · cases ho
  · -- virtual
    rcases hrec with hrec | hrec
    · rw [hk] at hrec; cases hrec
    unfold isRecv at hrec
    split at hrec
    · rename_i a as1
      split at hrec
      · rename_i ci fs hc
        simp only [beq_iff_eq] at hrec
        obtain ⟨a1, rfl, ha, he, -⟩ := w_obj hW hc
        subst hrec
        have hrv := va_recv hW.1 hW.2.1 q5 he
        rw [q6] at hrv
        have hstk : (F0 m pc lsR (((Value.ref (a1 + 1) :: as1).reverse ++ r).map (tr g))).stack = (as1.map (tr g)).reverse ++ .ref (gz g + a1) :: r.map (tr g) := by
          show ((Value.ref (a1 + 1) :: as1).reverse ++ r).map (tr g) = _
          rw [List.reverse_cons, List.append_assoc, List.map_append, List.map_reverse]
          rfl
        have hlen : (as1.map (tr g)).length = mNp k1 := by
          rw [List.length_map]
          rw [List.length_cons, q3] at hna
          omega
        split at ho
        · rename_i h9; rw [hk] at h9; cases h9
        · rename_i ix hraw
          rcases Bool.or_eq_true _ _ ▸ ho with ho | ho
          · exact call_back A hm1 hm2 (va_runV (l := l) (below := below) (e := e) (rest := r.map (tr g)) (As := as1.map (tr g)) ⟨hx, hb, hml, hown, hts⟩ hM ⟨callB_of (mNp k1) hts (goodIn_g hwk) rfl rfl rfl (hts _ p4) (hts _ (gTbl_in (memAt_in ho) rfl)) p2 hroom, hts _ q1, hts _ q2⟩ ⟨PcK_blind, hrv, hpre⟩ rfl hlen hlsz hstk hcat hd hcells) kk hpc
          · exact call_back A hm1 hm2 (va_runVN (l := l) (below := below) (e := e) (rest := r.map (tr g)) (As := as1.map (tr g)) ⟨hx, hb, hml, hown, hts⟩ hM ⟨va_cnB (mNp k1) hts (goodIn_g hwk) rfl rfl rfl (hnest.1 _ (nest_in ho)) (hts _ p4) p2 hroom, hts _ q1, hts _ q2⟩ ⟨PcK_blind, hrv, hpre⟩ rfl hlen hlsz hstk hcat hd hcells) kk hpc
        · rename_i h9; rw [hk] at h9; cases h9
        · cases ho
      · cases hrec
    · cases hrec
  · -- a constructor
    rcases hrec with hrec | hrec
    · rw [hk] at hrec; cases hrec
    unfold isRecv at hrec
    split at hrec
    · rename_i a as1
      have hstk : (F0 m pc lsR (((Value.ref a :: as1).reverse ++ r).map (tr g))).stack = (as1.map (tr g)).reverse ++ .ref (adr g a) :: r.map (tr g) := by
        show ((Value.ref a :: as1).reverse ++ r).map (tr g) = _
        rw [List.reverse_cons, List.append_assoc, List.map_append, List.map_reverse]
        rfl
      have hlen : (as1.map (tr g)).length = mNp k1 := by
        rw [List.length_map]
        rw [List.length_cons, q4] at hna
        omega
      have hwk2 : wsK k1 = Cond.code (mY k1) (mB k1) (mL k1) none :: gTbl := by unfold wsK; rw [q3]
      split at ho
      · rename_i h9; rw [hk] at h9; cases h9
      · rename_i h9; rw [hk] at h9; cases h9
      · rename_i ix hraw
        rcases Bool.or_eq_true _ _ ▸ ho with ho | ho
        · exact call_back A hm1 hm2 (va_runI (l := l) (below := below) (e := e) (rest := r.map (tr g)) (As := as1.map (tr g)) ⟨hx, hb, hml, hown, hts⟩ hM ⟨callB_of (mNp k1) hts (goodIn_g hwk) hwk2 rfl rfl (hts _ p4) (hts _ (gTbl_in (memAt_in ho) rfl)) p2 hroom, q2, hts _ q1⟩ ⟨PcK_blind, hpre⟩ rfl hlen hlsz hstk hcat hd hcells) kk hpc
        · exact call_back A hm1 hm2 (va_runIN (l := l) (below := below) (e := e) (rest := r.map (tr g)) (As := as1.map (tr g)) ⟨hx, hb, hml, hown, hts⟩ hM ⟨va_cnB (mNp k1) hts (goodIn_g hwk) hwk2 rfl rfl (hnest.1 _ (nest_in ho)) (hts _ p4) p2 hroom, q2, hts _ q1⟩ ⟨PcK_blind, hpre⟩ rfl hlen hlsz hstk hcat hd hcells) kk hpc
      · cases ho
    · cases hrec
end
end
section
-- THE LITTLE MACHINE'S RUN OF A FRAME IS THE MACHINE'S
theorem okRows_get {k : Nat} : ∀ (l : List LRow) (a j : Nat) (r : LRow), okRows k l a = true → l[j]? = some r → (okNop k (a + j) r || okRow k (a + j) r) = true := by
  intro l
  induction l with
  | nil => intro a j r _ h; simp at h
  | cons x l ih =>
    intro a j r h hj
    simp only [okRows, Bool.and_eq_true] at h
    cases j with
    | zero => cases hj; exact h.1
    | succ j =>
      have := ih (a + 1) j r h.2 hj
      rw [show a + (j + 1) = a + 1 + j by omega]
      exact this
theorem row_ok {k ip : Nat} {i : Instr} (hR : okRowsAll k) (hi : (lcode k)[ip]? = some i) : (i = .nop ∧ pcOf k (ip + 1) = pcOf k ip) ∨ ∃ raw len hint, decode (mB k) (pcOf k ip) = .ok (raw, len) ∧ okB k ip i (pcOf k ip) raw len hint = true := by
  unfold lcode at hi
  rw [List.getElem?_map] at hi
  cases hr : (mRows k)[ip]? with
  | none => rw [hr] at hi; cases hi
  | some r =>
    rw [hr] at hi
    have hi : r.1 = i := Option.some.inj hi
    subst hi
    have hlt : ip < (mRows k).length := (List.getElem?_eq_some_iff.mp hr).1
    have hpc : pcOf k ip = r.2.1 := by unfold pcOf; rw [hr]
    have hc := hR (ip / 40) (by unfold nCh; omega)
    unfold okChunk at hc
    have hj : (((mRows k).drop (40 * (ip / 40))).take 40)[ip % 40]? = some r := by
      rw [List.getElem?_take, if_pos (by omega), List.getElem?_drop, show 40 * (ip / 40) + ip % 40 = ip by omega]
      exact hr
    have h1 := okRows_get _ _ _ _ hc hj
    rw [show 40 * (ip / 40) + ip % 40 = ip by omega] at h1
    rw [Bool.or_eq_true] at h1
    rcases h1 with h1 | h1
    · unfold okNop at h1
      simp only [Bool.and_eq_true, decide_eq_true_eq, beq_iff_eq] at h1
      exact Or.inl ⟨h1.1, by rw [hpc]; exact h1.2⟩
    · unfold okRow at h1
      simp only [Bool.and_eq_true] at h1
      obtain ⟨h1, h2⟩ := h1
      refine Or.inr ⟨r.2.2.1, r.2.2.2.1, r.2.2.2.2, ?_, by rw [hpc]; exact h2⟩
      rw [hpc]
      split at h1
      · rename_i q hq
        rw [hq, of_decide_eq_true h1]
      · cases h1
set_option maxHeartbeats 4000000 in
theorem stepI_call {d : Nat} {i : Instr} {ls : LLoc} {st as r : List Value} {h : LHeap} {k1 : Nat} (hs : stepI d i ls st h = some (.inr (.inr (k1, as, r)))) : i = .invokestatic k1 := by
  cases i
  case invokestatic n =>
    simp only [stepI] at hs
    obtain ⟨_, hs2⟩ := gd_inv hs
    cases hs2
    rfl
  case newarray ty =>
    cases ty
    case int =>
      simp only [stepI] at hs
      obtain ⟨_, _, _, h1⟩ := withI_inv hs
      obtain ⟨_, h2⟩ := gd_inv h1
      cases h2
    case boolean =>
      simp only [stepI] at hs
      obtain ⟨_, _, _, h1⟩ := withI_inv hs
      obtain ⟨_, h2⟩ := gd_inv h1
      cases h2
    all_goals (simp only [stepI] at hs; contradiction)
  all_goals
    simp only [stepI, withI, withL, withR, withObj, withArr, withV, gd, nx, jp] at hs
    first
      | contradiction
      | (cases hs; done)
      | (repeat' split at hs) <;> (cases hs; done)
theorem callOk_181 {as : List Value} {h : LHeap} : ¬ callOk 181 as h = true := by
  unfold callOk
  simp
theorem callOk_182 {as : List Value} {h : LHeap} : ¬ callOk 182 as h = true := by
  unfold callOk
  simp
theorem pcOf_0 : ∀ k, k < 185 → pcOf k 0 = 0 := by decide +kernel
theorem runF_mono : ∀ (n : Nat) {d k pc : Nat} {ls : LLoc} {st : List Value} {h h1 : LHeap} {v : Option Value}, runF n d k pc ls st h = some (v, h1) → h.1 ≤ h1.1 ∧ h.2.1 ≤ h1.2.1 := by
  intro n
  induction n with
  | zero => intro d k pc ls st h h1 v hr; simp [runF] at hr
  | succ n ih =>
    intro d k pc ls st h h1 v hr
    rw [runF] at hr
    split at hr
    · cases hr
    · split at hr
      · cases hr
      · rename_i t ls1 st1 h2 hs
        have a := stepI_mono hs
        have b := ih hr
        omega
      · cases hr
        exact ⟨Nat.le_refl _, Nat.le_refl _⟩
      · split at hr
        · cases hr
        · split at hr
          · cases hr
          · split at hr
            · cases hr
            · rename_i v2 h2 hc
              have a := ih hc
              have b := ih hr
              omega
theorem expV_len {g : LG} (as : List Value) : (lg_sl (as.map (tr g))).length = (as.flatMap expV).length := by
  induction as with
  | nil => rfl
  | cons v as ih =>
    unfold lg_sl at ih ⊢
    rw [List.map_cons, List.flatMap_cons, List.flatMap_cons, List.length_append, List.length_append, ih]
    congr 1
    unfold expV
    rw [tr_cat]
    split <;> rfl
theorem expV_get {g : LG} {v : Value} : ∀ (as : List Value) (j : Nat), (as.flatMap expV)[j]? = some (some v) → (lg_sl (as.map (tr g)))[j]? = some (.val (tr g v)) := by
  intro as
  induction as with
  | nil => intro j h; simp at h
  | cons w as ih =>
    intro j h
    unfold lg_sl at ih ⊢
    rw [List.map_cons, List.flatMap_cons]
    rw [List.flatMap_cons] at h
    rw [tr_cat]
    unfold expV at h
    by_cases hc : w.category = 2
    · rw [if_pos hc] at h ⊢
      match j, h with
      | 0, h => cases h; rfl
      | 1, h => cases h
      | j + 2, h => exact ih j h
    · rw [if_neg hc] at h ⊢
      match j, h with
      | 0, h => cases h; rfl
      | j + 1, h => exact ih j h
theorem entry_loc {g : LG} {k : Nat} {as : List Value} (h : (as.flatMap expV).length ≤ mL k) : LocOK g ((lg_sl (as.map (tr g)) ++ List.replicate (mL k - (lg_sl (as.map (tr g))).length) Slot.unset).toArray) (mL k) (entL k as) := by
  have hl := lv_entry (as.map (tr g)) (n := mL k) (by rw [expV_len]; exact h)
  refine ⟨hl.1, ?_, hl.2.1, fun j v hv => ?_⟩
  · unfold entL
    rw [List.length_append, List.length_replicate]
    omega
  · unfold entL lGet at hv
    split at hv
    · rename_i w hw
      cases hv
      by_cases hj : j < (as.flatMap expV).length
      · rw [List.getElem?_append_left hj] at hw
        have := expV_get (g := g) as j hw
        rw [List.getElem?_toArray, List.getElem?_append_left (by rw [expV_len]; exact hj)]
        exact this
      · rw [List.getElem?_append_right (by omega), List.getElem?_replicate] at hw
        split at hw <;> cases hw
    · cases hv
/-- what is owed where the frame returns -/
def RetOK (g : LG) (k : Nat) (h0 h1 : LHeap) (v : Option Value) (p : Program) (l : Launch) (e : Env) (R : Room) (s : State) (m : MethodId) (args : Array Value) (below : List Frame) (meth : Method) (c : Code) (Q : State → Prop) : Prop :=
  ∀ (ip d len hint : Nat) (raw i : Instr) (ls : LLoc) (st : List Value) (H : Heap) (locs : List Loc) (lsR : Array Slot), decode (mB k) (pcOf k ip) = .ok (raw, len) → okB k ip i (pcOf k ip) raw len hint = true → stepI d i ls st h1 = some (.inr (.inl v)) → Wld g s H h1 → va_S (gA g) s.heap H locs → W p l e R s m args below meth c H locs (h1.1 - h0.1) (h1.2.1 - h0.2.1) Q (F0 m (pcOf k ip) lsR (st.map (tr g)))
def FrameGoal (g : LG) (l : Launch) (n : Nat) : Prop := ∀ (d k pc : Nat) (ls : LLoc) (st : List Value) (h : LHeap) (v : Option Value) (h1 : LHeap), k < 185 → runF n d k pc ls st h = some (v, h1) →
  ∀ (p : Program) (e : Env) (R : Room) (s : State) (m : MethodId) (args : Array Value) (below : List Frame) (meth : Method) (c : Code) (h0 : LHeap) (Q : State → Prop) (H : Heap) (locs : List Loc) (lsR : Array Slot),
    Fr g k h0 p s m args meth c → Wld g s H h → va_S (gA g) s.heap H locs → LocOK g lsR (mL k) ls → h0.1 ≤ h.1 → h0.2.1 ≤ h.2.1 → 1 ≤ h0.1 → h1.1 - h0.1 ≤ R.cells → h1.2.1 - h0.2.1 ≤ R.slots → d ≤ R.frames → 30 * d ≤ R.locals →
    RetOK g k h0 h1 v p l e R s m args below meth c Q → W p l e R s m args below meth c H locs (h.1 - h0.1) (h.2.1 - h0.2.1) Q (F0 m (pcOf k pc) lsR (st.map (tr g)))
theorem met_of {g : LG} {l : Launch} {n d k : Nat} {as : List Value} {h h1 : LHeap} {v : Option Value} (IH : FrameGoal g l n) (hr : runF n d k 0 (entL k as) [] h = some (v, h1)) (hk : k < 185) (hH : okHead k = true) (hexp : (as.flatMap expV).length ≤ mL k) (h1le : 1 ≤ h.1) : Met l (mY k) (wsK k) (rmK d h h1) (PcK g as h) (QcK g v h1) (h1.1 - h.1) (h1.2.1 - h.2.1) (gA g) := by
  obtain ⟨p1, p2, p3, p4, p5, p6⟩ := okHead_inv hH
  refine Met.ofW (cc := mB k) (maxL := mL k) (ret := mRet k) p1 rfl ?_
  intro p e s m args below meth c s₁ B hml hv
  obtain ⟨rfl, hW, hz, hX, hbz, hnest, hao⟩ := hv
  have hts0 := atoms_spec (ws := wsK k) B.pre
  have hts : ∀ w ∈ gTbl, w.before (as.map (tr g)).toArray s = true := fun w hw => hts0 w (List.mem_cons_of_mem _ hw)
  have F : Fr g k h p s m (as.map (tr g)).toArray meth c := ⟨B.exec, B.bytes, hml, B.returns, findClass_of_methodNamed B.named, hts, B.notSynchronized, fun hq => (name_of_methodNamed B.named B.method).1.trans hq, hz, hX, hbz, hnest, hao⟩
  rw [lg_entry_eq]
  have hS : va_S (gA g) s.heap s.heap [] := va_S.rf
  have hm := runF_mono n hr
  have hR : RetOK g k h h1 v p l e (rmK d h h1) s m (as.map (tr g)).toArray below meth c (MQ below (QcK g v h1) (as.map (tr g)).toArray s (h1.1 - h.1) (h1.2.1 - h.2.1) (gA g)) := fun ip d len hint raw i ls st H locs lsR hd hok hs hW1 hS1 => step_ret F hW1 hS1 hd hok hs
  have := IH d k 0 (entL k as) [] h v h1 hk hr p e (rmK d h h1) s m (as.map (tr g)).toArray below meth c h _ s.heap [] _ F hW hS (entry_loc hexp) (Nat.le_refl _) (Nat.le_refl _) h1le (Nat.le_refl _) (Nat.le_refl _) (Nat.le_refl _) (Nat.le_refl _) hR
  rw [pcOf_0 k hk, Nat.sub_self, Nat.sub_self] at this
  exact this
theorem frame_ok {g : LG} {l : Launch} (hRows : ∀ k, k < 185 → okRowsAll k) (hHeads : ∀ k, k < 184 → okHeadAll k) : ∀ n, FrameGoal g l n := by
  intro n
  induction n with
  | zero => intro d k pc ls st h v h1 hk hr; simp [runF] at hr
  | succ n ih =>
    intro d k pc ls st h v h1 hk hr p e R s m args below meth c h0 Q H locs lsR F hW hS hL hc0 hs0 hh0 hcR hsR hfr hlo hRet
    rw [runF] at hr
    split at hr
    · cases hr
    · rename_i i hi
      rcases row_ok (hRows k hk) hi with ⟨rfl, hnop⟩ | ⟨raw, len, hint, hd, hok⟩
      · split at hr
        · cases hr
        · rename_i t ls1 st1 h2 hs
          simp only [stepI] at hs
          obtain ⟨rfl, rfl, rfl, rfl⟩ := nx_inv hs
          have := ih d k (pc + 1) _ _ _ v h1 hk hr p e R s m args below meth c h0 Q H locs lsR F hW hS hL hc0 hs0 hh0 hcR hsR hfr hlo hRet
          rw [hnop] at this
          exact this
        · rename_i hs
          simp only [stepI, nx] at hs
          cases hs
        · rename_i hs
          simp only [stepI, nx] at hs
          cases hs
      · split at hr
        · cases hr
        · rename_i t ls1 st1 h2 hs
          have hm := stepI_mono hs
          have hm2 := runF_mono n hr
          refine step_next (h1 := h2) ⟨F, hW, hS, hL, hc0, hs0, by omega, by omega, hh0, hfr, hlo⟩ hd hok hs (fun H1 locs1 lsR1 hW1 hS1 hL1 => ?_)
          exact ih d k _ ls1 st1 h2 v h1 hk hr p e R s m args below meth c h0 Q H1 locs1 lsR1 F hW1 hS1 hL1 (by omega) (by omega) hh0 hcR hsR hfr hlo hRet
        · rename_i v2 hs
          cases hr
          exact hRet pc d len hint raw i ls st H locs lsR hd hok hs hW hS
        · rename_i k1 as r hs
          split at hr
          · cases hr
          · rename_i d1
            split at hr
            · cases hr
            · rename_i hcall
              split at hr
              · cases hr
              · rename_i v2 h2 hc
                have hm1 := runF_mono n hc
                have hm2 := runF_mono n hr
                have hk1 : k1 < 184 := by
                  unfold callOk at hcall
                  simp only [Bool.and_eq_true, decide_eq_true_eq] at hcall
                  exact hcall.1.1.1.1
                have hexp : (as.flatMap expV).length ≤ mL k1 := by
                  unfold callOk at hcall
                  simp only [Bool.and_eq_true, decide_eq_true_eq] at hcall
                  exact hcall.1.1.2
                have hinst : i = .invokestatic k1 := by
                  have := stepI_call hs
                  exact this
                subst hinst
                have hH : okHead k1 = true := by
                  rcases hHeads k1 hk1 with h9 | h9 | h9
                  · exact absurd hcall (by subst h9; exact callOk_181)
                  · exact absurd hcall (by subst h9; exact callOk_182)
                  · exact h9
                have hM := met_of ih hc (by omega) hH hexp (hW.2.2.1)
                refine step_call (h1 := h2) ⟨F, hW, hS, hL, hc0, hs0, by omega, by omega, hh0, hfr, hlo⟩ hd hok hs hcall hH hm1.1 hm1.2 hM (fun H1 locs1 lsR1 hW1 hS1 hL1 => ?_)
                exact ih (d1 + 1) k (pc + 1) ls _ h2 v h1 hk hr p e R s m args below meth c h0 Q H1 locs1 lsR1 F hW1 hS1 hL1 (by omega) (by omega) hh0 hcR hsR hfr hlo hRet
end
section
/-! THE CLAIM OUT OF ONE WALK OF THE LAW'S BODY. Your part is whole_start (and what it stands on); all else here is the same for every law, but numbers. -/
def R_law : String := "WakeOrderLaw"
def lw_P (b : Addr) (xs : List Int32) (args : Array Value) (s : State) : Prop := args = #[.ref b] ∧ s.IntsAt b xs ∧ xs.length ≤ 256 ∧ (Jvm.Cond.and given_1 narrow_1).before args s = true
def lw_Q (_ : Array Value) (s : State) (o : Outcome) (t : State) : Prop := o = .returned (some (.int 1)) ∧ Framed s o t [] 600000 7302250
def lw_Z (below : List Frame) (a : Array Value) (s : State) : State → Prop := fun t => ∃ o, t.status = .running ∧ Ended t below o ∧ lw_Q a s o t
/-- the law's own end, with 1 on the stack, nothing written that was there before, its room as the claim has it -/
theorem lw_ret {p : Program} {l : Launch} {e : Env} {s : State} {m : MethodId} {below : List Frame} {meth : Method} {c : Code} {b : Nat} (hx : p.tables.exec = Jvm.exec) (hb : c.code = code) (hr : meth.sig.returnType = ret) (hlocks : meth.locks = false) {pc : Nat} {H : Heap} {ls : Array Slot} (hdg : decode code pc = .ok (.ireturn, 1)) : W p l e room_1 s m #[Value.ref b] below meth c H [] 600000 7302250 (lw_Z below #[Value.ref b] s) (F0 m pc ls [.int 1]) := by
  intro T hT X
  obtain ⟨fs, hret, hrun, hended, hW, hframe⟩ := X.leave (v := some (.int 1)) (hlocks := hlocks) (fun h => by rw [hr] at h; cases h)
  have hmeth' : T.vm.method? m = some meth := X.method'
  refine ⟨T.setFrames fs, ?_, .returned (some (.int 1)), hrun, hended, rfl, ⟨_, rfl⟩, hW, hframe⟩
  jvm_step X.here [X.here.top, hx, hb, hdg, hmeth', hr, ret, narrow_b1]
  (try refine ⟨rfl, ?_⟩); (try refine ⟨rfl, ?_⟩)
  first | (intro acts; rw [hret _ acts rfl rfl rfl]) | rw [hret _ _ rfl rfl rfl]
  exact Steps.refl _
/-- what holds at the law's entry: the machine, the code, the tables' words (any of lw_tbl by 'hts w (by decide +kernel)'), the script of L ints xs at the cell b, what the Statement gives of the start (any of its parts by flat_of_before) -/
def lw_At (p : Program) (s : State) (m : MethodId) (meth : Method) (c : Code) (b L : Nat) (xs : Nat → Int32) : Prop :=
  p.tables.exec = Jvm.exec ∧ c.code = code ∧ meth.sig.returnType = ret ∧ c.maxLocals = 4 ∧ s.vm.findClass R_law = some m.cls ∧ (∀ w ∈ lw_tbl, w.before #[Value.ref b] s = true) ∧ va_X b L xs s s.heap ∧ b < s.heap.size ∧ meth.locks = false ∧ (Jvm.Cond.and given_1 narrow_1).before #[Value.ref b] s = true
end
section
-- THE LAW'S WALK OUT OF THE LITTLE MACHINE'S RUN
def lawH (L : Nat) (xs : Nat → Int32) : LHeap := (1, 0, fun a => if a = 0 then some (.inr (.int, (List.range L).map fun j => .int (xs j))) else none)
/-- what the little machine owes -/
def LawOK : Prop := ∀ (L : Nat) (xs : Nat → Int32), L ≤ 256 → ∃ n h1, runF n 10 184 0 (entL 184 [.ref 0]) [] (lawH L xs) = some (some (.int 1), h1) ∧ h1.1 ≤ 600000 ∧ h1.2.1 ≤ 7302250
theorem stepI_ret {d : Nat} {i : Instr} {ls : LLoc} {st : List Value} {h : LHeap} {v : Option Value} (hs : stepI d i ls st h = some (.inr (.inl v))) : i = .ireturn ∨ i = .areturn ∨ i = .return_ := by
  cases i
  case ireturn => exact Or.inl rfl
  case areturn => exact Or.inr (Or.inl rfl)
  case return_ => exact Or.inr (Or.inr rfl)
  case newarray ty =>
    cases ty
    case int =>
      simp only [stepI] at hs
      obtain ⟨_, _, _, h1⟩ := withI_inv hs
      obtain ⟨_, h2⟩ := gd_inv h1
      cases h2
    case boolean =>
      simp only [stepI] at hs
      obtain ⟨_, _, _, h1⟩ := withI_inv hs
      obtain ⟨_, h2⟩ := gd_inv h1
      cases h2
    all_goals (simp only [stepI] at hs; contradiction)
  all_goals
    simp only [stepI, withI, withL, withR, withObj, withArr, withV, gd, nx, jp] at hs
    first
      | contradiction
      | (cases hs; done)
      | (repeat' split at hs) <;> (cases hs; done)
theorem nests_in : ∀ w ∈ nests, w ∈ lw_tbl := by decide +kernel
theorem nests_tab : ∀ w ∈ nests, w.onTables = true := by decide +kernel
theorem arr_start {s : State} {args : Array Value} {ty : FieldType} (h : (Cond.arrayClass ty).before args s = true) (hty : ∀ C, ¬ ty = .object C) : ∃ cA : ClassId, ArrOfT s cA ty ∧ va_RA s cA ty := by
  obtain ⟨cA, kA, comp, h1, h2, h3⟩ := Cond.arrayClass_spec h
  refine ⟨cA, fun n z => ⟨fun k h => (by cases h), kA, h2, comp, h3⟩, ?_⟩
  cases ty with
  | object C => exact absurd rfl (hty C)
  | _ => exact h1
theorem arrO_start {s : State} {args : Array Value} {C : String} (h : (Cond.arrayOver (.object C)).before args s = true) : ∃ cA : ClassId, ArrOfT s cA (.object C) ∧ va_RA s cA (.object C) := by
  obtain ⟨comp, cA, kA, hcomp, hidx, hkA, hkindA, hnameA⟩ := Cond.arrayOver_spec h
  exact ⟨cA, fun n z => ⟨fun k h => (by cases h), kA, hkA, comp, hkindA⟩, kA, comp, hkA, hkindA, hcomp, hnameA⟩
theorem known_start {s : State} {args : Array Value} (hts : ∀ w ∈ lw_tbl, w.before args s = true) : ∃ D : va_G, ∀ (c : Nat) (q : vw_C), vwCl[c]? = some q → u_Kn s q.1 q.2.1 q.2.2 (D.1 c) (D.2 c) := by
  have h : ∀ c : Nat, ∃ x : ClassId × (Nat → Nat), ∀ q, vwCl[c]? = some q → u_Kn s q.1 q.2.1 q.2.2 x.1 x.2 := by
    intro c
    cases hq : vwCl[c]? with
    | none => exact ⟨(0, fun _ => 0), fun q h => by cases h⟩
    | some q =>
      have hi := (cls_of hq).2.2.2.1
      obtain ⟨cC, iS, h1⟩ := u_known (ws := gTbl) (fun w hw => hts w (List.mem_filter.mp hw).1) (cls_lays hq) (hts _ hi)
      exact ⟨(cC, iS), fun q2 h2 => by cases h2; exact h1⟩
  obtain ⟨f, hf⟩ := Classical.axiomOfChoice h
  exact ⟨(fun c => (f c).1, fun c => (f c).2), fun c q hq => hf c q hq⟩
set_option maxRecDepth 100000 in
theorem law_code : mB 184 = code := rfl
set_option maxRecDepth 100000 in
theorem law_ml : mL 184 = 4 := rfl
set_option maxRecDepth 100000 in
theorem law_ret : mRet 184 = ret := rfl
set_option maxRecDepth 100000 in
theorem law_cls : (mY 184).cls = R_law := rfl
theorem law_name : ¬ (mY 184).name = "<init>" := by decide +kernel
theorem law_bool : mRet 184 = some .boolean := by decide +kernel
theorem start_of {p : Program} {e : Env} {s : State} {m : MethodId} {below : List Frame} {meth : Method} {c : Code} (l : Launch) {b L : Nat} {xs : Nat → Int32} (hL : L ≤ 256) (C0 : lw_At p s m meth c b L xs) (hLaw : LawOK) (hRows : ∀ k, k < 185 → okRowsAll k) (hHeads : ∀ k, k < 184 → okHeadAll k) : W p l e room_1 s m #[Value.ref b] below meth c s.heap [] 0 0 (lw_Z below #[Value.ref b] s) (entryFrame m ([Value.ref b] : List Value).toArray 4) := by
  obtain ⟨hx, hb, hr, hml, hown, hts, hX, hbl, hlocks, hgv⟩ := id C0
  obtain ⟨n, h1, hrun, hc1, hs1⟩ := hLaw L xs hL
  obtain ⟨D, hD⟩ := known_start hts
  obtain ⟨cI, hI1, hI2⟩ := arr_start (ty := .int) (hts _ (by decide +kernel)) (fun C h => by cases h)
  obtain ⟨cZ, hZ1, hZ2⟩ := arr_start (ty := .boolean) (hts _ (by decide +kernel)) (fun C h => by cases h)
  obtain ⟨cS, hS1, hS2⟩ := arrO_start (C := "WakeOrder$State") (hts _ (by decide +kernel))
  obtain ⟨g, hg⟩ : ∃ g : LG, g = (s.heap.size, b, L, xs, D, cI, cZ, cS) := ⟨_, rfl⟩
  have g1 : gz g = s.heap.size := by rw [hg]; rfl
  have g2 : gb g = b := by rw [hg]; rfl
  have g3 : gL g = L := by rw [hg]; rfl
  have g4 : gx g = xs := by rw [hg]; rfl
  have hK : va_K (gD g) vwCl (gT g) s := by
    rw [hg]
    refine ⟨hD, fun k q hq => ?_⟩
    match k, hq with
    | 0, hq => cases hq; exact ⟨hI1, hI2⟩
    | 1, hq => cases hq; exact ⟨hZ1, hZ2⟩
    | 2, hq => cases hq; exact ⟨hS1, hS2⟩
    | k + 3, hq => simp [gT] at hq
  have hF : Fr g 184 (lawH L xs) p s m #[Value.ref b] meth c := by
    refine ⟨hx, by rw [law_code]; exact hb, by rw [law_ml]; exact hml, by rw [law_ret]; exact hr, by rw [law_cls]; exact hown, fun w hw => hts w (List.mem_filter.mp hw).1, hlocks, fun h => absurd h law_name, ?_, ?_, ?_, ?_, va_AO.of (A := #[Value.ref b]) (hts _ (by decide +kernel))⟩
    · rw [g1]; rfl
    · rw [g2, g3, g4]; exact hX
    · rw [g1, g2]; exact hbl
    · exact fun w hw => va_Nw.of (nests_tab w hw) (hts w (nests_in w hw))
  have hW : Wld g s s.heap (lawH L xs) := by
    refine ⟨hK, fun k q hq => ?_, Nat.le_refl _, ?_, fun a c h => ?_⟩
    · simp [wsOf, lawH] at hq
    · rw [g3, g4]; rfl
    · simp [hRd, lawH] at h
  have hloc := entry_loc (g := g) (k := 184) (as := [.ref 0]) (by decide +kernel)
  have hR : RetOK g 184 (lawH L xs) h1 (some (.int 1)) p l e room_1 s m #[Value.ref b] below meth c (lw_Z below #[Value.ref b] s) := by
    intro ip d len hint raw i ls st H locs lsR hd hok hs hW1 hS1
    have hokB := hok
    refine va_forget (fun q hq => ?_) ?_
    · have := hS1.2.2 q hq
      have : gz g ≤ q.base := this
      omega
    refine W.widen (k := 600000) (n := 7302250) (by show h1.1 - 1 ≤ _; omega) (by show h1.2.1 - 0 ≤ _; omega) ?_
    rcases stepI_ret hs with rfl | rfl | rfl
    · have hok : decide (raw = .ireturn) = true ∧ (len == 1) = true ∧ decide (mRet 184 = some .int) = true := by simpa [okB, and_assoc] using hok
      have h3 := of_decide_eq_true hok.2.2
      rw [law_bool] at h3
      cases h3
    · have hok : decide (raw = .ireturn) = true ∧ (len == 1) = true ∧ decide (mRet 184 = some .boolean) = true := by simpa [okB, and_assoc] using hok
      obtain ⟨ho1, ho2, -⟩ := hok
      have ho1 := of_decide_eq_true ho1
      simp only [beq_iff_eq] at ho2
      subst ho1
      subst ho2
      simp only [stepI] at hs
      split at hs
      · obtain ⟨-, hs2⟩ := gd_inv hs
        cases hs2
        rw [law_code] at hd
        exact lw_ret hx hb hr hlocks hd
      · cases hs
    · simp only [stepI] at hs
      split at hs <;> cases hs
  have := frame_ok (g := g) (l := l) hRows hHeads n 10 184 0 (entL 184 [.ref 0]) [] (lawH L xs) (some (.int 1)) h1 (by decide) hrun p e room_1 s m #[Value.ref b] below meth c (lawH L xs) (lw_Z below #[Value.ref b] s) s.heap [] _ hF hW va_S.rf hloc (Nat.le_refl _) (Nat.le_refl _) (Nat.le_refl _) (by show h1.1 - 1 ≤ 600000; omega) (by show h1.2.1 - 0 ≤ 7302250; omega) (Nat.le_refl _) (by decide) hR
  rw [pcOf_0 184 (by decide), Nat.sub_self, Nat.sub_self] at this
  have e1 : ([Value.ref 0] : List Value).map (tr g) = [Value.ref b] := by
    show [Value.ref (gb g)] = _
    rw [g2]
  rw [e1, law_ml] at this
  rw [lg_entry_eq]
  exact this
end
section
theorem oc0_0 : okChunk 0 0 = true := by decide +kernel
theorem or0 : okRowsAll 0 := fun i h => (show ∀ i, i < 1 → okChunk 0 i = true from (lt_s lt_0 oc0_0)) i (Nat.lt_of_lt_of_eq h (by decide +kernel))
theorem oh0 : okHeadAll 0 := Or.inr (Or.inr (by decide +kernel))
theorem oc1_0 : okChunk 1 0 = true := by decide +kernel
theorem or1 : okRowsAll 1 := fun i h => (show ∀ i, i < 1 → okChunk 1 i = true from (lt_s lt_0 oc1_0)) i (Nat.lt_of_lt_of_eq h (by decide +kernel))
theorem oh1 : okHeadAll 1 := Or.inr (Or.inr (by decide +kernel))
theorem oc2_0 : okChunk 2 0 = true := by decide +kernel
theorem or2 : okRowsAll 2 := fun i h => (show ∀ i, i < 1 → okChunk 2 i = true from (lt_s lt_0 oc2_0)) i (Nat.lt_of_lt_of_eq h (by decide +kernel))
theorem oh2 : okHeadAll 2 := Or.inr (Or.inr (by decide +kernel))
theorem oc3_0 : okChunk 3 0 = true := by decide +kernel
theorem or3 : okRowsAll 3 := fun i h => (show ∀ i, i < 1 → okChunk 3 i = true from (lt_s lt_0 oc3_0)) i (Nat.lt_of_lt_of_eq h (by decide +kernel))
theorem oh3 : okHeadAll 3 := Or.inr (Or.inr (by decide +kernel))
theorem oc4_0 : okChunk 4 0 = true := by decide +kernel
theorem or4 : okRowsAll 4 := fun i h => (show ∀ i, i < 1 → okChunk 4 i = true from (lt_s lt_0 oc4_0)) i (Nat.lt_of_lt_of_eq h (by decide +kernel))
theorem oh4 : okHeadAll 4 := Or.inr (Or.inr (by decide +kernel))
theorem oc5_0 : okChunk 5 0 = true := by decide +kernel
theorem oc5_1 : okChunk 5 1 = true := by decide +kernel
theorem or5 : okRowsAll 5 := fun i h => (show ∀ i, i < 2 → okChunk 5 i = true from (lt_s (lt_s lt_0 oc5_0) oc5_1)) i (Nat.lt_of_lt_of_eq h (by decide +kernel))
theorem oh5 : okHeadAll 5 := Or.inr (Or.inr (by decide +kernel))
theorem oc6_0 : okChunk 6 0 = true := by decide +kernel
theorem oc6_1 : okChunk 6 1 = true := by decide +kernel
theorem or6 : okRowsAll 6 := fun i h => (show ∀ i, i < 2 → okChunk 6 i = true from (lt_s (lt_s lt_0 oc6_0) oc6_1)) i (Nat.lt_of_lt_of_eq h (by decide +kernel))
theorem oh6 : okHeadAll 6 := Or.inr (Or.inr (by decide +kernel))
theorem oc7_0 : okChunk 7 0 = true := by decide +kernel
theorem or7 : okRowsAll 7 := fun i h => (show ∀ i, i < 1 → okChunk 7 i = true from (lt_s lt_0 oc7_0)) i (Nat.lt_of_lt_of_eq h (by decide +kernel))
theorem oh7 : okHeadAll 7 := Or.inr (Or.inr (by decide +kernel))
theorem oc8_0 : okChunk 8 0 = true := by decide +kernel
theorem oc8_1 : okChunk 8 1 = true := by decide +kernel
theorem oc8_2 : okChunk 8 2 = true := by decide +kernel
theorem or8 : okRowsAll 8 := fun i h => (show ∀ i, i < 3 → okChunk 8 i = true from (lt_s (lt_s (lt_s lt_0 oc8_0) oc8_1) oc8_2)) i (Nat.lt_of_lt_of_eq h (by decide +kernel))
theorem oh8 : okHeadAll 8 := Or.inr (Or.inr (by decide +kernel))
theorem oc9_0 : okChunk 9 0 = true := by decide +kernel
theorem or9 : okRowsAll 9 := fun i h => (show ∀ i, i < 1 → okChunk 9 i = true from (lt_s lt_0 oc9_0)) i (Nat.lt_of_lt_of_eq h (by decide +kernel))
theorem oh9 : okHeadAll 9 := Or.inr (Or.inr (by decide +kernel))
theorem oc10_0 : okChunk 10 0 = true := by decide +kernel
theorem or10 : okRowsAll 10 := fun i h => (show ∀ i, i < 1 → okChunk 10 i = true from (lt_s lt_0 oc10_0)) i (Nat.lt_of_lt_of_eq h (by decide +kernel))
theorem oh10 : okHeadAll 10 := Or.inr (Or.inr (by decide +kernel))
theorem oc11_0 : okChunk 11 0 = true := by decide +kernel
theorem or11 : okRowsAll 11 := fun i h => (show ∀ i, i < 1 → okChunk 11 i = true from (lt_s lt_0 oc11_0)) i (Nat.lt_of_lt_of_eq h (by decide +kernel))
theorem oh11 : okHeadAll 11 := Or.inr (Or.inr (by decide +kernel))
theorem oc12_0 : okChunk 12 0 = true := by decide +kernel
theorem or12 : okRowsAll 12 := fun i h => (show ∀ i, i < 1 → okChunk 12 i = true from (lt_s lt_0 oc12_0)) i (Nat.lt_of_lt_of_eq h (by decide +kernel))
theorem oh12 : okHeadAll 12 := Or.inr (Or.inr (by decide +kernel))
theorem oc13_0 : okChunk 13 0 = true := by decide +kernel
theorem or13 : okRowsAll 13 := fun i h => (show ∀ i, i < 1 → okChunk 13 i = true from (lt_s lt_0 oc13_0)) i (Nat.lt_of_lt_of_eq h (by decide +kernel))
theorem oh13 : okHeadAll 13 := Or.inr (Or.inr (by decide +kernel))
theorem oc14_0 : okChunk 14 0 = true := by decide +kernel
theorem or14 : okRowsAll 14 := fun i h => (show ∀ i, i < 1 → okChunk 14 i = true from (lt_s lt_0 oc14_0)) i (Nat.lt_of_lt_of_eq h (by decide +kernel))
theorem oh14 : okHeadAll 14 := Or.inr (Or.inr (by decide +kernel))
theorem oc15_0 : okChunk 15 0 = true := by decide +kernel
theorem or15 : okRowsAll 15 := fun i h => (show ∀ i, i < 1 → okChunk 15 i = true from (lt_s lt_0 oc15_0)) i (Nat.lt_of_lt_of_eq h (by decide +kernel))
theorem oh15 : okHeadAll 15 := Or.inr (Or.inr (by decide +kernel))
theorem oc16_0 : okChunk 16 0 = true := by decide +kernel
theorem or16 : okRowsAll 16 := fun i h => (show ∀ i, i < 1 → okChunk 16 i = true from (lt_s lt_0 oc16_0)) i (Nat.lt_of_lt_of_eq h (by decide +kernel))
theorem oh16 : okHeadAll 16 := Or.inr (Or.inr (by decide +kernel))
theorem oc17_0 : okChunk 17 0 = true := by decide +kernel
theorem or17 : okRowsAll 17 := fun i h => (show ∀ i, i < 1 → okChunk 17 i = true from (lt_s lt_0 oc17_0)) i (Nat.lt_of_lt_of_eq h (by decide +kernel))
theorem oh17 : okHeadAll 17 := Or.inr (Or.inr (by decide +kernel))
theorem oc18_0 : okChunk 18 0 = true := by decide +kernel
theorem oc18_1 : okChunk 18 1 = true := by decide +kernel
theorem or18 : okRowsAll 18 := fun i h => (show ∀ i, i < 2 → okChunk 18 i = true from (lt_s (lt_s lt_0 oc18_0) oc18_1)) i (Nat.lt_of_lt_of_eq h (by decide +kernel))
theorem oh18 : okHeadAll 18 := Or.inr (Or.inr (by decide +kernel))
theorem oc19_0 : okChunk 19 0 = true := by decide +kernel
theorem or19 : okRowsAll 19 := fun i h => (show ∀ i, i < 1 → okChunk 19 i = true from (lt_s lt_0 oc19_0)) i (Nat.lt_of_lt_of_eq h (by decide +kernel))
theorem oh19 : okHeadAll 19 := Or.inr (Or.inr (by decide +kernel))
theorem oc20_0 : okChunk 20 0 = true := by decide +kernel
theorem or20 : okRowsAll 20 := fun i h => (show ∀ i, i < 1 → okChunk 20 i = true from (lt_s lt_0 oc20_0)) i (Nat.lt_of_lt_of_eq h (by decide +kernel))
theorem oh20 : okHeadAll 20 := Or.inr (Or.inr (by decide +kernel))
theorem oc21_0 : okChunk 21 0 = true := by decide +kernel
theorem or21 : okRowsAll 21 := fun i h => (show ∀ i, i < 1 → okChunk 21 i = true from (lt_s lt_0 oc21_0)) i (Nat.lt_of_lt_of_eq h (by decide +kernel))
theorem oh21 : okHeadAll 21 := Or.inr (Or.inr (by decide +kernel))
theorem oc22_0 : okChunk 22 0 = true := by decide +kernel
theorem or22 : okRowsAll 22 := fun i h => (show ∀ i, i < 1 → okChunk 22 i = true from (lt_s lt_0 oc22_0)) i (Nat.lt_of_lt_of_eq h (by decide +kernel))
theorem oh22 : okHeadAll 22 := Or.inr (Or.inr (by decide +kernel))
theorem oc23_0 : okChunk 23 0 = true := by decide +kernel
theorem oc23_1 : okChunk 23 1 = true := by decide +kernel
theorem or23 : okRowsAll 23 := fun i h => (show ∀ i, i < 2 → okChunk 23 i = true from (lt_s (lt_s lt_0 oc23_0) oc23_1)) i (Nat.lt_of_lt_of_eq h (by decide +kernel))
theorem oh23 : okHeadAll 23 := Or.inr (Or.inr (by decide +kernel))
theorem oc24_0 : okChunk 24 0 = true := by decide +kernel
theorem or24 : okRowsAll 24 := fun i h => (show ∀ i, i < 1 → okChunk 24 i = true from (lt_s lt_0 oc24_0)) i (Nat.lt_of_lt_of_eq h (by decide +kernel))
theorem oh24 : okHeadAll 24 := Or.inr (Or.inr (by decide +kernel))
theorem oc25_0 : okChunk 25 0 = true := by decide +kernel
theorem or25 : okRowsAll 25 := fun i h => (show ∀ i, i < 1 → okChunk 25 i = true from (lt_s lt_0 oc25_0)) i (Nat.lt_of_lt_of_eq h (by decide +kernel))
theorem oh25 : okHeadAll 25 := Or.inr (Or.inr (by decide +kernel))
theorem oc26_0 : okChunk 26 0 = true := by decide +kernel
theorem or26 : okRowsAll 26 := fun i h => (show ∀ i, i < 1 → okChunk 26 i = true from (lt_s lt_0 oc26_0)) i (Nat.lt_of_lt_of_eq h (by decide +kernel))
theorem oh26 : okHeadAll 26 := Or.inr (Or.inr (by decide +kernel))
theorem oc27_0 : okChunk 27 0 = true := by decide +kernel
theorem or27 : okRowsAll 27 := fun i h => (show ∀ i, i < 1 → okChunk 27 i = true from (lt_s lt_0 oc27_0)) i (Nat.lt_of_lt_of_eq h (by decide +kernel))
theorem oh27 : okHeadAll 27 := Or.inr (Or.inr (by decide +kernel))
theorem oc28_0 : okChunk 28 0 = true := by decide +kernel
theorem or28 : okRowsAll 28 := fun i h => (show ∀ i, i < 1 → okChunk 28 i = true from (lt_s lt_0 oc28_0)) i (Nat.lt_of_lt_of_eq h (by decide +kernel))
theorem oh28 : okHeadAll 28 := Or.inr (Or.inr (by decide +kernel))
theorem oc29_0 : okChunk 29 0 = true := by decide +kernel
theorem or29 : okRowsAll 29 := fun i h => (show ∀ i, i < 1 → okChunk 29 i = true from (lt_s lt_0 oc29_0)) i (Nat.lt_of_lt_of_eq h (by decide +kernel))
theorem oh29 : okHeadAll 29 := Or.inr (Or.inr (by decide +kernel))
theorem oc30_0 : okChunk 30 0 = true := by decide +kernel
theorem or30 : okRowsAll 30 := fun i h => (show ∀ i, i < 1 → okChunk 30 i = true from (lt_s lt_0 oc30_0)) i (Nat.lt_of_lt_of_eq h (by decide +kernel))
theorem oh30 : okHeadAll 30 := Or.inr (Or.inr (by decide +kernel))
theorem oc31_0 : okChunk 31 0 = true := by decide +kernel
theorem or31 : okRowsAll 31 := fun i h => (show ∀ i, i < 1 → okChunk 31 i = true from (lt_s lt_0 oc31_0)) i (Nat.lt_of_lt_of_eq h (by decide +kernel))
theorem oh31 : okHeadAll 31 := Or.inr (Or.inr (by decide +kernel))
theorem oc32_0 : okChunk 32 0 = true := by decide +kernel
theorem oc32_1 : okChunk 32 1 = true := by decide +kernel
theorem or32 : okRowsAll 32 := fun i h => (show ∀ i, i < 2 → okChunk 32 i = true from (lt_s (lt_s lt_0 oc32_0) oc32_1)) i (Nat.lt_of_lt_of_eq h (by decide +kernel))
theorem oh32 : okHeadAll 32 := Or.inr (Or.inr (by decide +kernel))
theorem oc33_0 : okChunk 33 0 = true := by decide +kernel
theorem or33 : okRowsAll 33 := fun i h => (show ∀ i, i < 1 → okChunk 33 i = true from (lt_s lt_0 oc33_0)) i (Nat.lt_of_lt_of_eq h (by decide +kernel))
theorem oh33 : okHeadAll 33 := Or.inr (Or.inr (by decide +kernel))
theorem oc34_0 : okChunk 34 0 = true := by decide +kernel
theorem or34 : okRowsAll 34 := fun i h => (show ∀ i, i < 1 → okChunk 34 i = true from (lt_s lt_0 oc34_0)) i (Nat.lt_of_lt_of_eq h (by decide +kernel))
theorem oh34 : okHeadAll 34 := Or.inr (Or.inr (by decide +kernel))
theorem oc35_0 : okChunk 35 0 = true := by decide +kernel
theorem oc35_1 : okChunk 35 1 = true := by decide +kernel
theorem or35 : okRowsAll 35 := fun i h => (show ∀ i, i < 2 → okChunk 35 i = true from (lt_s (lt_s lt_0 oc35_0) oc35_1)) i (Nat.lt_of_lt_of_eq h (by decide +kernel))
theorem oh35 : okHeadAll 35 := Or.inr (Or.inr (by decide +kernel))
theorem oc36_0 : okChunk 36 0 = true := by decide +kernel
theorem oc36_1 : okChunk 36 1 = true := by decide +kernel
theorem or36 : okRowsAll 36 := fun i h => (show ∀ i, i < 2 → okChunk 36 i = true from (lt_s (lt_s lt_0 oc36_0) oc36_1)) i (Nat.lt_of_lt_of_eq h (by decide +kernel))
theorem oh36 : okHeadAll 36 := Or.inr (Or.inr (by decide +kernel))
theorem oc37_0 : okChunk 37 0 = true := by decide +kernel
theorem or37 : okRowsAll 37 := fun i h => (show ∀ i, i < 1 → okChunk 37 i = true from (lt_s lt_0 oc37_0)) i (Nat.lt_of_lt_of_eq h (by decide +kernel))
theorem oh37 : okHeadAll 37 := Or.inr (Or.inr (by decide +kernel))
theorem oc38_0 : okChunk 38 0 = true := by decide +kernel
theorem or38 : okRowsAll 38 := fun i h => (show ∀ i, i < 1 → okChunk 38 i = true from (lt_s lt_0 oc38_0)) i (Nat.lt_of_lt_of_eq h (by decide +kernel))
theorem oh38 : okHeadAll 38 := Or.inr (Or.inr (by decide +kernel))
theorem oc39_0 : okChunk 39 0 = true := by decide +kernel
theorem or39 : okRowsAll 39 := fun i h => (show ∀ i, i < 1 → okChunk 39 i = true from (lt_s lt_0 oc39_0)) i (Nat.lt_of_lt_of_eq h (by decide +kernel))
theorem oh39 : okHeadAll 39 := Or.inr (Or.inr (by decide +kernel))
theorem oc40_0 : okChunk 40 0 = true := by decide +kernel
theorem oc40_1 : okChunk 40 1 = true := by decide +kernel
theorem or40 : okRowsAll 40 := fun i h => (show ∀ i, i < 2 → okChunk 40 i = true from (lt_s (lt_s lt_0 oc40_0) oc40_1)) i (Nat.lt_of_lt_of_eq h (by decide +kernel))
theorem oh40 : okHeadAll 40 := Or.inr (Or.inr (by decide +kernel))
theorem oc41_0 : okChunk 41 0 = true := by decide +kernel
theorem or41 : okRowsAll 41 := fun i h => (show ∀ i, i < 1 → okChunk 41 i = true from (lt_s lt_0 oc41_0)) i (Nat.lt_of_lt_of_eq h (by decide +kernel))
theorem oh41 : okHeadAll 41 := Or.inr (Or.inr (by decide +kernel))
theorem oc42_0 : okChunk 42 0 = true := by decide +kernel
theorem or42 : okRowsAll 42 := fun i h => (show ∀ i, i < 1 → okChunk 42 i = true from (lt_s lt_0 oc42_0)) i (Nat.lt_of_lt_of_eq h (by decide +kernel))
theorem oh42 : okHeadAll 42 := Or.inr (Or.inr (by decide +kernel))
theorem oc43_0 : okChunk 43 0 = true := by decide +kernel
theorem or43 : okRowsAll 43 := fun i h => (show ∀ i, i < 1 → okChunk 43 i = true from (lt_s lt_0 oc43_0)) i (Nat.lt_of_lt_of_eq h (by decide +kernel))
theorem oh43 : okHeadAll 43 := Or.inr (Or.inr (by decide +kernel))
theorem oc44_0 : okChunk 44 0 = true := by decide +kernel
theorem or44 : okRowsAll 44 := fun i h => (show ∀ i, i < 1 → okChunk 44 i = true from (lt_s lt_0 oc44_0)) i (Nat.lt_of_lt_of_eq h (by decide +kernel))
theorem oh44 : okHeadAll 44 := Or.inr (Or.inr (by decide +kernel))
theorem oc45_0 : okChunk 45 0 = true := by decide +kernel
theorem or45 : okRowsAll 45 := fun i h => (show ∀ i, i < 1 → okChunk 45 i = true from (lt_s lt_0 oc45_0)) i (Nat.lt_of_lt_of_eq h (by decide +kernel))
theorem oh45 : okHeadAll 45 := Or.inr (Or.inr (by decide +kernel))
theorem oc46_0 : okChunk 46 0 = true := by decide +kernel
theorem or46 : okRowsAll 46 := fun i h => (show ∀ i, i < 1 → okChunk 46 i = true from (lt_s lt_0 oc46_0)) i (Nat.lt_of_lt_of_eq h (by decide +kernel))
theorem oh46 : okHeadAll 46 := Or.inr (Or.inr (by decide +kernel))
theorem oc47_0 : okChunk 47 0 = true := by decide +kernel
theorem or47 : okRowsAll 47 := fun i h => (show ∀ i, i < 1 → okChunk 47 i = true from (lt_s lt_0 oc47_0)) i (Nat.lt_of_lt_of_eq h (by decide +kernel))
theorem oh47 : okHeadAll 47 := Or.inr (Or.inr (by decide +kernel))
theorem oc48_0 : okChunk 48 0 = true := by decide +kernel
theorem or48 : okRowsAll 48 := fun i h => (show ∀ i, i < 1 → okChunk 48 i = true from (lt_s lt_0 oc48_0)) i (Nat.lt_of_lt_of_eq h (by decide +kernel))
theorem oh48 : okHeadAll 48 := Or.inr (Or.inr (by decide +kernel))
theorem oc49_0 : okChunk 49 0 = true := by decide +kernel
theorem oc49_1 : okChunk 49 1 = true := by decide +kernel
theorem or49 : okRowsAll 49 := fun i h => (show ∀ i, i < 2 → okChunk 49 i = true from (lt_s (lt_s lt_0 oc49_0) oc49_1)) i (Nat.lt_of_lt_of_eq h (by decide +kernel))
theorem oh49 : okHeadAll 49 := Or.inr (Or.inr (by decide +kernel))
theorem oc50_0 : okChunk 50 0 = true := by decide +kernel
theorem oc50_1 : okChunk 50 1 = true := by decide +kernel
theorem or50 : okRowsAll 50 := fun i h => (show ∀ i, i < 2 → okChunk 50 i = true from (lt_s (lt_s lt_0 oc50_0) oc50_1)) i (Nat.lt_of_lt_of_eq h (by decide +kernel))
theorem oh50 : okHeadAll 50 := Or.inr (Or.inr (by decide +kernel))
theorem oc51_0 : okChunk 51 0 = true := by decide +kernel
theorem or51 : okRowsAll 51 := fun i h => (show ∀ i, i < 1 → okChunk 51 i = true from (lt_s lt_0 oc51_0)) i (Nat.lt_of_lt_of_eq h (by decide +kernel))
theorem oh51 : okHeadAll 51 := Or.inr (Or.inr (by decide +kernel))
theorem oc52_0 : okChunk 52 0 = true := by decide +kernel
theorem oc52_1 : okChunk 52 1 = true := by decide +kernel
theorem or52 : okRowsAll 52 := fun i h => (show ∀ i, i < 2 → okChunk 52 i = true from (lt_s (lt_s lt_0 oc52_0) oc52_1)) i (Nat.lt_of_lt_of_eq h (by decide +kernel))
theorem oh52 : okHeadAll 52 := Or.inr (Or.inr (by decide +kernel))
theorem oc53_0 : okChunk 53 0 = true := by decide +kernel
theorem or53 : okRowsAll 53 := fun i h => (show ∀ i, i < 1 → okChunk 53 i = true from (lt_s lt_0 oc53_0)) i (Nat.lt_of_lt_of_eq h (by decide +kernel))
theorem oh53 : okHeadAll 53 := Or.inr (Or.inr (by decide +kernel))
theorem oc54_0 : okChunk 54 0 = true := by decide +kernel
theorem or54 : okRowsAll 54 := fun i h => (show ∀ i, i < 1 → okChunk 54 i = true from (lt_s lt_0 oc54_0)) i (Nat.lt_of_lt_of_eq h (by decide +kernel))
theorem oh54 : okHeadAll 54 := Or.inr (Or.inr (by decide +kernel))
theorem oc55_0 : okChunk 55 0 = true := by decide +kernel
theorem or55 : okRowsAll 55 := fun i h => (show ∀ i, i < 1 → okChunk 55 i = true from (lt_s lt_0 oc55_0)) i (Nat.lt_of_lt_of_eq h (by decide +kernel))
theorem oh55 : okHeadAll 55 := Or.inr (Or.inr (by decide +kernel))
theorem oc56_0 : okChunk 56 0 = true := by decide +kernel
theorem or56 : okRowsAll 56 := fun i h => (show ∀ i, i < 1 → okChunk 56 i = true from (lt_s lt_0 oc56_0)) i (Nat.lt_of_lt_of_eq h (by decide +kernel))
theorem oh56 : okHeadAll 56 := Or.inr (Or.inr (by decide +kernel))
theorem oc57_0 : okChunk 57 0 = true := by decide +kernel
theorem or57 : okRowsAll 57 := fun i h => (show ∀ i, i < 1 → okChunk 57 i = true from (lt_s lt_0 oc57_0)) i (Nat.lt_of_lt_of_eq h (by decide +kernel))
theorem oh57 : okHeadAll 57 := Or.inr (Or.inr (by decide +kernel))
theorem oc58_0 : okChunk 58 0 = true := by decide +kernel
theorem oc58_1 : okChunk 58 1 = true := by decide +kernel
theorem or58 : okRowsAll 58 := fun i h => (show ∀ i, i < 2 → okChunk 58 i = true from (lt_s (lt_s lt_0 oc58_0) oc58_1)) i (Nat.lt_of_lt_of_eq h (by decide +kernel))
theorem oh58 : okHeadAll 58 := Or.inr (Or.inr (by decide +kernel))
theorem oc59_0 : okChunk 59 0 = true := by decide +kernel
theorem or59 : okRowsAll 59 := fun i h => (show ∀ i, i < 1 → okChunk 59 i = true from (lt_s lt_0 oc59_0)) i (Nat.lt_of_lt_of_eq h (by decide +kernel))
theorem oh59 : okHeadAll 59 := Or.inr (Or.inr (by decide +kernel))
theorem oc60_0 : okChunk 60 0 = true := by decide +kernel
theorem oc60_1 : okChunk 60 1 = true := by decide +kernel
theorem or60 : okRowsAll 60 := fun i h => (show ∀ i, i < 2 → okChunk 60 i = true from (lt_s (lt_s lt_0 oc60_0) oc60_1)) i (Nat.lt_of_lt_of_eq h (by decide +kernel))
theorem oh60 : okHeadAll 60 := Or.inr (Or.inr (by decide +kernel))
theorem oc61_0 : okChunk 61 0 = true := by decide +kernel
theorem oc61_1 : okChunk 61 1 = true := by decide +kernel
theorem or61 : okRowsAll 61 := fun i h => (show ∀ i, i < 2 → okChunk 61 i = true from (lt_s (lt_s lt_0 oc61_0) oc61_1)) i (Nat.lt_of_lt_of_eq h (by decide +kernel))
theorem oh61 : okHeadAll 61 := Or.inr (Or.inr (by decide +kernel))
theorem oc62_0 : okChunk 62 0 = true := by decide +kernel
theorem oc62_1 : okChunk 62 1 = true := by decide +kernel
theorem or62 : okRowsAll 62 := fun i h => (show ∀ i, i < 2 → okChunk 62 i = true from (lt_s (lt_s lt_0 oc62_0) oc62_1)) i (Nat.lt_of_lt_of_eq h (by decide +kernel))
theorem oh62 : okHeadAll 62 := Or.inr (Or.inr (by decide +kernel))
theorem oc63_0 : okChunk 63 0 = true := by decide +kernel
theorem or63 : okRowsAll 63 := fun i h => (show ∀ i, i < 1 → okChunk 63 i = true from (lt_s lt_0 oc63_0)) i (Nat.lt_of_lt_of_eq h (by decide +kernel))
theorem oh63 : okHeadAll 63 := Or.inr (Or.inr (by decide +kernel))
theorem oc64_0 : okChunk 64 0 = true := by decide +kernel
theorem or64 : okRowsAll 64 := fun i h => (show ∀ i, i < 1 → okChunk 64 i = true from (lt_s lt_0 oc64_0)) i (Nat.lt_of_lt_of_eq h (by decide +kernel))
theorem oh64 : okHeadAll 64 := Or.inr (Or.inr (by decide +kernel))
theorem oc65_0 : okChunk 65 0 = true := by decide +kernel
theorem oc65_1 : okChunk 65 1 = true := by decide +kernel
theorem or65 : okRowsAll 65 := fun i h => (show ∀ i, i < 2 → okChunk 65 i = true from (lt_s (lt_s lt_0 oc65_0) oc65_1)) i (Nat.lt_of_lt_of_eq h (by decide +kernel))
theorem oh65 : okHeadAll 65 := Or.inr (Or.inr (by decide +kernel))
theorem oc66_0 : okChunk 66 0 = true := by decide +kernel
theorem or66 : okRowsAll 66 := fun i h => (show ∀ i, i < 1 → okChunk 66 i = true from (lt_s lt_0 oc66_0)) i (Nat.lt_of_lt_of_eq h (by decide +kernel))
theorem oh66 : okHeadAll 66 := Or.inr (Or.inr (by decide +kernel))
theorem oc67_0 : okChunk 67 0 = true := by decide +kernel
theorem oc67_1 : okChunk 67 1 = true := by decide +kernel
theorem or67 : okRowsAll 67 := fun i h => (show ∀ i, i < 2 → okChunk 67 i = true from (lt_s (lt_s lt_0 oc67_0) oc67_1)) i (Nat.lt_of_lt_of_eq h (by decide +kernel))
theorem oh67 : okHeadAll 67 := Or.inr (Or.inr (by decide +kernel))
theorem oc68_0 : okChunk 68 0 = true := by decide +kernel
theorem or68 : okRowsAll 68 := fun i h => (show ∀ i, i < 1 → okChunk 68 i = true from (lt_s lt_0 oc68_0)) i (Nat.lt_of_lt_of_eq h (by decide +kernel))
theorem oh68 : okHeadAll 68 := Or.inr (Or.inr (by decide +kernel))
theorem oc69_0 : okChunk 69 0 = true := by decide +kernel
theorem oc69_1 : okChunk 69 1 = true := by decide +kernel
theorem or69 : okRowsAll 69 := fun i h => (show ∀ i, i < 2 → okChunk 69 i = true from (lt_s (lt_s lt_0 oc69_0) oc69_1)) i (Nat.lt_of_lt_of_eq h (by decide +kernel))
theorem oh69 : okHeadAll 69 := Or.inr (Or.inr (by decide +kernel))
theorem oc70_0 : okChunk 70 0 = true := by decide +kernel
theorem oc70_1 : okChunk 70 1 = true := by decide +kernel
theorem or70 : okRowsAll 70 := fun i h => (show ∀ i, i < 2 → okChunk 70 i = true from (lt_s (lt_s lt_0 oc70_0) oc70_1)) i (Nat.lt_of_lt_of_eq h (by decide +kernel))
theorem oh70 : okHeadAll 70 := Or.inr (Or.inr (by decide +kernel))
theorem oc71_0 : okChunk 71 0 = true := by decide +kernel
theorem or71 : okRowsAll 71 := fun i h => (show ∀ i, i < 1 → okChunk 71 i = true from (lt_s lt_0 oc71_0)) i (Nat.lt_of_lt_of_eq h (by decide +kernel))
theorem oh71 : okHeadAll 71 := Or.inr (Or.inr (by decide +kernel))
theorem oc72_0 : okChunk 72 0 = true := by decide +kernel
theorem oc72_1 : okChunk 72 1 = true := by decide +kernel
theorem or72 : okRowsAll 72 := fun i h => (show ∀ i, i < 2 → okChunk 72 i = true from (lt_s (lt_s lt_0 oc72_0) oc72_1)) i (Nat.lt_of_lt_of_eq h (by decide +kernel))
theorem oh72 : okHeadAll 72 := Or.inr (Or.inr (by decide +kernel))
theorem oc73_0 : okChunk 73 0 = true := by decide +kernel
theorem or73 : okRowsAll 73 := fun i h => (show ∀ i, i < 1 → okChunk 73 i = true from (lt_s lt_0 oc73_0)) i (Nat.lt_of_lt_of_eq h (by decide +kernel))
theorem oh73 : okHeadAll 73 := Or.inr (Or.inr (by decide +kernel))
theorem oc74_0 : okChunk 74 0 = true := by decide +kernel
theorem oc74_1 : okChunk 74 1 = true := by decide +kernel
theorem or74 : okRowsAll 74 := fun i h => (show ∀ i, i < 2 → okChunk 74 i = true from (lt_s (lt_s lt_0 oc74_0) oc74_1)) i (Nat.lt_of_lt_of_eq h (by decide +kernel))
theorem oh74 : okHeadAll 74 := Or.inr (Or.inr (by decide +kernel))
theorem oc75_0 : okChunk 75 0 = true := by decide +kernel
theorem oc75_1 : okChunk 75 1 = true := by decide +kernel
theorem or75 : okRowsAll 75 := fun i h => (show ∀ i, i < 2 → okChunk 75 i = true from (lt_s (lt_s lt_0 oc75_0) oc75_1)) i (Nat.lt_of_lt_of_eq h (by decide +kernel))
theorem oh75 : okHeadAll 75 := Or.inr (Or.inr (by decide +kernel))
theorem oc76_0 : okChunk 76 0 = true := by decide +kernel
theorem or76 : okRowsAll 76 := fun i h => (show ∀ i, i < 1 → okChunk 76 i = true from (lt_s lt_0 oc76_0)) i (Nat.lt_of_lt_of_eq h (by decide +kernel))
theorem oh76 : okHeadAll 76 := Or.inr (Or.inr (by decide +kernel))
theorem oc77_0 : okChunk 77 0 = true := by decide +kernel
theorem or77 : okRowsAll 77 := fun i h => (show ∀ i, i < 1 → okChunk 77 i = true from (lt_s lt_0 oc77_0)) i (Nat.lt_of_lt_of_eq h (by decide +kernel))
theorem oh77 : okHeadAll 77 := Or.inr (Or.inr (by decide +kernel))
theorem oc78_0 : okChunk 78 0 = true := by decide +kernel
theorem oc78_1 : okChunk 78 1 = true := by decide +kernel
theorem or78 : okRowsAll 78 := fun i h => (show ∀ i, i < 2 → okChunk 78 i = true from (lt_s (lt_s lt_0 oc78_0) oc78_1)) i (Nat.lt_of_lt_of_eq h (by decide +kernel))
theorem oh78 : okHeadAll 78 := Or.inr (Or.inr (by decide +kernel))
theorem oc79_0 : okChunk 79 0 = true := by decide +kernel
theorem oc79_1 : okChunk 79 1 = true := by decide +kernel
theorem or79 : okRowsAll 79 := fun i h => (show ∀ i, i < 2 → okChunk 79 i = true from (lt_s (lt_s lt_0 oc79_0) oc79_1)) i (Nat.lt_of_lt_of_eq h (by decide +kernel))
theorem oh79 : okHeadAll 79 := Or.inr (Or.inr (by decide +kernel))
theorem oc80_0 : okChunk 80 0 = true := by decide +kernel
theorem or80 : okRowsAll 80 := fun i h => (show ∀ i, i < 1 → okChunk 80 i = true from (lt_s lt_0 oc80_0)) i (Nat.lt_of_lt_of_eq h (by decide +kernel))
theorem oh80 : okHeadAll 80 := Or.inr (Or.inr (by decide +kernel))
theorem oc81_0 : okChunk 81 0 = true := by decide +kernel
theorem or81 : okRowsAll 81 := fun i h => (show ∀ i, i < 1 → okChunk 81 i = true from (lt_s lt_0 oc81_0)) i (Nat.lt_of_lt_of_eq h (by decide +kernel))
theorem oh81 : okHeadAll 81 := Or.inr (Or.inr (by decide +kernel))
theorem oc82_0 : okChunk 82 0 = true := by decide +kernel
theorem or82 : okRowsAll 82 := fun i h => (show ∀ i, i < 1 → okChunk 82 i = true from (lt_s lt_0 oc82_0)) i (Nat.lt_of_lt_of_eq h (by decide +kernel))
theorem oh82 : okHeadAll 82 := Or.inr (Or.inr (by decide +kernel))
theorem oc83_0 : okChunk 83 0 = true := by decide +kernel
theorem oc83_1 : okChunk 83 1 = true := by decide +kernel
theorem or83 : okRowsAll 83 := fun i h => (show ∀ i, i < 2 → okChunk 83 i = true from (lt_s (lt_s lt_0 oc83_0) oc83_1)) i (Nat.lt_of_lt_of_eq h (by decide +kernel))
theorem oh83 : okHeadAll 83 := Or.inr (Or.inr (by decide +kernel))
theorem oc84_0 : okChunk 84 0 = true := by decide +kernel
theorem or84 : okRowsAll 84 := fun i h => (show ∀ i, i < 1 → okChunk 84 i = true from (lt_s lt_0 oc84_0)) i (Nat.lt_of_lt_of_eq h (by decide +kernel))
theorem oh84 : okHeadAll 84 := Or.inr (Or.inr (by decide +kernel))
theorem oc85_0 : okChunk 85 0 = true := by decide +kernel
theorem oc85_1 : okChunk 85 1 = true := by decide +kernel
theorem or85 : okRowsAll 85 := fun i h => (show ∀ i, i < 2 → okChunk 85 i = true from (lt_s (lt_s lt_0 oc85_0) oc85_1)) i (Nat.lt_of_lt_of_eq h (by decide +kernel))
theorem oh85 : okHeadAll 85 := Or.inr (Or.inr (by decide +kernel))
theorem oc86_0 : okChunk 86 0 = true := by decide +kernel
theorem or86 : okRowsAll 86 := fun i h => (show ∀ i, i < 1 → okChunk 86 i = true from (lt_s lt_0 oc86_0)) i (Nat.lt_of_lt_of_eq h (by decide +kernel))
theorem oh86 : okHeadAll 86 := Or.inr (Or.inr (by decide +kernel))
theorem oc87_0 : okChunk 87 0 = true := by decide +kernel
theorem or87 : okRowsAll 87 := fun i h => (show ∀ i, i < 1 → okChunk 87 i = true from (lt_s lt_0 oc87_0)) i (Nat.lt_of_lt_of_eq h (by decide +kernel))
theorem oh87 : okHeadAll 87 := Or.inr (Or.inr (by decide +kernel))
theorem oc88_0 : okChunk 88 0 = true := by decide +kernel
theorem or88 : okRowsAll 88 := fun i h => (show ∀ i, i < 1 → okChunk 88 i = true from (lt_s lt_0 oc88_0)) i (Nat.lt_of_lt_of_eq h (by decide +kernel))
theorem oh88 : okHeadAll 88 := Or.inr (Or.inr (by decide +kernel))
theorem oc89_0 : okChunk 89 0 = true := by decide +kernel
theorem or89 : okRowsAll 89 := fun i h => (show ∀ i, i < 1 → okChunk 89 i = true from (lt_s lt_0 oc89_0)) i (Nat.lt_of_lt_of_eq h (by decide +kernel))
theorem oh89 : okHeadAll 89 := Or.inr (Or.inr (by decide +kernel))
theorem oc90_0 : okChunk 90 0 = true := by decide +kernel
theorem or90 : okRowsAll 90 := fun i h => (show ∀ i, i < 1 → okChunk 90 i = true from (lt_s lt_0 oc90_0)) i (Nat.lt_of_lt_of_eq h (by decide +kernel))
theorem oh90 : okHeadAll 90 := Or.inr (Or.inr (by decide +kernel))
theorem oc91_0 : okChunk 91 0 = true := by decide +kernel
theorem or91 : okRowsAll 91 := fun i h => (show ∀ i, i < 1 → okChunk 91 i = true from (lt_s lt_0 oc91_0)) i (Nat.lt_of_lt_of_eq h (by decide +kernel))
theorem oh91 : okHeadAll 91 := Or.inr (Or.inr (by decide +kernel))
theorem oc92_0 : okChunk 92 0 = true := by decide +kernel
theorem or92 : okRowsAll 92 := fun i h => (show ∀ i, i < 1 → okChunk 92 i = true from (lt_s lt_0 oc92_0)) i (Nat.lt_of_lt_of_eq h (by decide +kernel))
theorem oh92 : okHeadAll 92 := Or.inr (Or.inr (by decide +kernel))
theorem oc93_0 : okChunk 93 0 = true := by decide +kernel
theorem or93 : okRowsAll 93 := fun i h => (show ∀ i, i < 1 → okChunk 93 i = true from (lt_s lt_0 oc93_0)) i (Nat.lt_of_lt_of_eq h (by decide +kernel))
theorem oh93 : okHeadAll 93 := Or.inr (Or.inr (by decide +kernel))
theorem oc94_0 : okChunk 94 0 = true := by decide +kernel
theorem or94 : okRowsAll 94 := fun i h => (show ∀ i, i < 1 → okChunk 94 i = true from (lt_s lt_0 oc94_0)) i (Nat.lt_of_lt_of_eq h (by decide +kernel))
theorem oh94 : okHeadAll 94 := Or.inr (Or.inr (by decide +kernel))
theorem oc95_0 : okChunk 95 0 = true := by decide +kernel
theorem or95 : okRowsAll 95 := fun i h => (show ∀ i, i < 1 → okChunk 95 i = true from (lt_s lt_0 oc95_0)) i (Nat.lt_of_lt_of_eq h (by decide +kernel))
theorem oh95 : okHeadAll 95 := Or.inr (Or.inr (by decide +kernel))
theorem oc96_0 : okChunk 96 0 = true := by decide +kernel
theorem or96 : okRowsAll 96 := fun i h => (show ∀ i, i < 1 → okChunk 96 i = true from (lt_s lt_0 oc96_0)) i (Nat.lt_of_lt_of_eq h (by decide +kernel))
theorem oh96 : okHeadAll 96 := Or.inr (Or.inr (by decide +kernel))
theorem oc97_0 : okChunk 97 0 = true := by decide +kernel
theorem or97 : okRowsAll 97 := fun i h => (show ∀ i, i < 1 → okChunk 97 i = true from (lt_s lt_0 oc97_0)) i (Nat.lt_of_lt_of_eq h (by decide +kernel))
theorem oh97 : okHeadAll 97 := Or.inr (Or.inr (by decide +kernel))
theorem oc98_0 : okChunk 98 0 = true := by decide +kernel
theorem or98 : okRowsAll 98 := fun i h => (show ∀ i, i < 1 → okChunk 98 i = true from (lt_s lt_0 oc98_0)) i (Nat.lt_of_lt_of_eq h (by decide +kernel))
theorem oh98 : okHeadAll 98 := Or.inr (Or.inr (by decide +kernel))
theorem oc99_0 : okChunk 99 0 = true := by decide +kernel
theorem or99 : okRowsAll 99 := fun i h => (show ∀ i, i < 1 → okChunk 99 i = true from (lt_s lt_0 oc99_0)) i (Nat.lt_of_lt_of_eq h (by decide +kernel))
theorem oh99 : okHeadAll 99 := Or.inr (Or.inr (by decide +kernel))
theorem oc100_0 : okChunk 100 0 = true := by decide +kernel
theorem or100 : okRowsAll 100 := fun i h => (show ∀ i, i < 1 → okChunk 100 i = true from (lt_s lt_0 oc100_0)) i (Nat.lt_of_lt_of_eq h (by decide +kernel))
theorem oh100 : okHeadAll 100 := Or.inr (Or.inr (by decide +kernel))
theorem oc101_0 : okChunk 101 0 = true := by decide +kernel
theorem or101 : okRowsAll 101 := fun i h => (show ∀ i, i < 1 → okChunk 101 i = true from (lt_s lt_0 oc101_0)) i (Nat.lt_of_lt_of_eq h (by decide +kernel))
theorem oh101 : okHeadAll 101 := Or.inr (Or.inr (by decide +kernel))
theorem oc102_0 : okChunk 102 0 = true := by decide +kernel
theorem or102 : okRowsAll 102 := fun i h => (show ∀ i, i < 1 → okChunk 102 i = true from (lt_s lt_0 oc102_0)) i (Nat.lt_of_lt_of_eq h (by decide +kernel))
theorem oh102 : okHeadAll 102 := Or.inr (Or.inr (by decide +kernel))
theorem oc103_0 : okChunk 103 0 = true := by decide +kernel
theorem or103 : okRowsAll 103 := fun i h => (show ∀ i, i < 1 → okChunk 103 i = true from (lt_s lt_0 oc103_0)) i (Nat.lt_of_lt_of_eq h (by decide +kernel))
theorem oh103 : okHeadAll 103 := Or.inr (Or.inr (by decide +kernel))
theorem oc104_0 : okChunk 104 0 = true := by decide +kernel
theorem or104 : okRowsAll 104 := fun i h => (show ∀ i, i < 1 → okChunk 104 i = true from (lt_s lt_0 oc104_0)) i (Nat.lt_of_lt_of_eq h (by decide +kernel))
theorem oh104 : okHeadAll 104 := Or.inr (Or.inr (by decide +kernel))
theorem oc105_0 : okChunk 105 0 = true := by decide +kernel
theorem or105 : okRowsAll 105 := fun i h => (show ∀ i, i < 1 → okChunk 105 i = true from (lt_s lt_0 oc105_0)) i (Nat.lt_of_lt_of_eq h (by decide +kernel))
theorem oh105 : okHeadAll 105 := Or.inr (Or.inr (by decide +kernel))
theorem oc106_0 : okChunk 106 0 = true := by decide +kernel
theorem or106 : okRowsAll 106 := fun i h => (show ∀ i, i < 1 → okChunk 106 i = true from (lt_s lt_0 oc106_0)) i (Nat.lt_of_lt_of_eq h (by decide +kernel))
theorem oh106 : okHeadAll 106 := Or.inr (Or.inr (by decide +kernel))
theorem oc107_0 : okChunk 107 0 = true := by decide +kernel
theorem or107 : okRowsAll 107 := fun i h => (show ∀ i, i < 1 → okChunk 107 i = true from (lt_s lt_0 oc107_0)) i (Nat.lt_of_lt_of_eq h (by decide +kernel))
theorem oh107 : okHeadAll 107 := Or.inr (Or.inr (by decide +kernel))
theorem oc108_0 : okChunk 108 0 = true := by decide +kernel
theorem or108 : okRowsAll 108 := fun i h => (show ∀ i, i < 1 → okChunk 108 i = true from (lt_s lt_0 oc108_0)) i (Nat.lt_of_lt_of_eq h (by decide +kernel))
theorem oh108 : okHeadAll 108 := Or.inr (Or.inr (by decide +kernel))
theorem oc109_0 : okChunk 109 0 = true := by decide +kernel
theorem oc109_1 : okChunk 109 1 = true := by decide +kernel
theorem oc109_2 : okChunk 109 2 = true := by decide +kernel
theorem or109 : okRowsAll 109 := fun i h => (show ∀ i, i < 3 → okChunk 109 i = true from (lt_s (lt_s (lt_s lt_0 oc109_0) oc109_1) oc109_2)) i (Nat.lt_of_lt_of_eq h (by decide +kernel))
theorem oh109 : okHeadAll 109 := Or.inr (Or.inr (by decide +kernel))
theorem oc110_0 : okChunk 110 0 = true := by decide +kernel
theorem or110 : okRowsAll 110 := fun i h => (show ∀ i, i < 1 → okChunk 110 i = true from (lt_s lt_0 oc110_0)) i (Nat.lt_of_lt_of_eq h (by decide +kernel))
theorem oh110 : okHeadAll 110 := Or.inr (Or.inr (by decide +kernel))
theorem oc111_0 : okChunk 111 0 = true := by decide +kernel
theorem or111 : okRowsAll 111 := fun i h => (show ∀ i, i < 1 → okChunk 111 i = true from (lt_s lt_0 oc111_0)) i (Nat.lt_of_lt_of_eq h (by decide +kernel))
theorem oh111 : okHeadAll 111 := Or.inr (Or.inr (by decide +kernel))
theorem oc112_0 : okChunk 112 0 = true := by decide +kernel
theorem or112 : okRowsAll 112 := fun i h => (show ∀ i, i < 1 → okChunk 112 i = true from (lt_s lt_0 oc112_0)) i (Nat.lt_of_lt_of_eq h (by decide +kernel))
theorem oh112 : okHeadAll 112 := Or.inr (Or.inr (by decide +kernel))
theorem oc113_0 : okChunk 113 0 = true := by decide +kernel
theorem or113 : okRowsAll 113 := fun i h => (show ∀ i, i < 1 → okChunk 113 i = true from (lt_s lt_0 oc113_0)) i (Nat.lt_of_lt_of_eq h (by decide +kernel))
theorem oh113 : okHeadAll 113 := Or.inr (Or.inr (by decide +kernel))
theorem oc114_0 : okChunk 114 0 = true := by decide +kernel
theorem or114 : okRowsAll 114 := fun i h => (show ∀ i, i < 1 → okChunk 114 i = true from (lt_s lt_0 oc114_0)) i (Nat.lt_of_lt_of_eq h (by decide +kernel))
theorem oh114 : okHeadAll 114 := Or.inr (Or.inr (by decide +kernel))
theorem oc115_0 : okChunk 115 0 = true := by decide +kernel
theorem or115 : okRowsAll 115 := fun i h => (show ∀ i, i < 1 → okChunk 115 i = true from (lt_s lt_0 oc115_0)) i (Nat.lt_of_lt_of_eq h (by decide +kernel))
theorem oh115 : okHeadAll 115 := Or.inr (Or.inr (by decide +kernel))
theorem oc116_0 : okChunk 116 0 = true := by decide +kernel
theorem or116 : okRowsAll 116 := fun i h => (show ∀ i, i < 1 → okChunk 116 i = true from (lt_s lt_0 oc116_0)) i (Nat.lt_of_lt_of_eq h (by decide +kernel))
theorem oh116 : okHeadAll 116 := Or.inr (Or.inr (by decide +kernel))
theorem oc117_0 : okChunk 117 0 = true := by decide +kernel
theorem or117 : okRowsAll 117 := fun i h => (show ∀ i, i < 1 → okChunk 117 i = true from (lt_s lt_0 oc117_0)) i (Nat.lt_of_lt_of_eq h (by decide +kernel))
theorem oh117 : okHeadAll 117 := Or.inr (Or.inr (by decide +kernel))
theorem oc118_0 : okChunk 118 0 = true := by decide +kernel
theorem oc118_1 : okChunk 118 1 = true := by decide +kernel
theorem oc118_2 : okChunk 118 2 = true := by decide +kernel
theorem or118 : okRowsAll 118 := fun i h => (show ∀ i, i < 3 → okChunk 118 i = true from (lt_s (lt_s (lt_s lt_0 oc118_0) oc118_1) oc118_2)) i (Nat.lt_of_lt_of_eq h (by decide +kernel))
theorem oh118 : okHeadAll 118 := Or.inr (Or.inr (by decide +kernel))
theorem oc119_0 : okChunk 119 0 = true := by decide +kernel
theorem or119 : okRowsAll 119 := fun i h => (show ∀ i, i < 1 → okChunk 119 i = true from (lt_s lt_0 oc119_0)) i (Nat.lt_of_lt_of_eq h (by decide +kernel))
theorem oh119 : okHeadAll 119 := Or.inr (Or.inr (by decide +kernel))
theorem oc120_0 : okChunk 120 0 = true := by decide +kernel
theorem or120 : okRowsAll 120 := fun i h => (show ∀ i, i < 1 → okChunk 120 i = true from (lt_s lt_0 oc120_0)) i (Nat.lt_of_lt_of_eq h (by decide +kernel))
theorem oh120 : okHeadAll 120 := Or.inr (Or.inr (by decide +kernel))
theorem oc121_0 : okChunk 121 0 = true := by decide +kernel
theorem oc121_1 : okChunk 121 1 = true := by decide +kernel
theorem or121 : okRowsAll 121 := fun i h => (show ∀ i, i < 2 → okChunk 121 i = true from (lt_s (lt_s lt_0 oc121_0) oc121_1)) i (Nat.lt_of_lt_of_eq h (by decide +kernel))
theorem oh121 : okHeadAll 121 := Or.inr (Or.inr (by decide +kernel))
theorem oc122_0 : okChunk 122 0 = true := by decide +kernel
theorem oc122_1 : okChunk 122 1 = true := by decide +kernel
theorem or122 : okRowsAll 122 := fun i h => (show ∀ i, i < 2 → okChunk 122 i = true from (lt_s (lt_s lt_0 oc122_0) oc122_1)) i (Nat.lt_of_lt_of_eq h (by decide +kernel))
theorem oh122 : okHeadAll 122 := Or.inr (Or.inr (by decide +kernel))
theorem oc123_0 : okChunk 123 0 = true := by decide +kernel
theorem oc123_1 : okChunk 123 1 = true := by decide +kernel
theorem oc123_2 : okChunk 123 2 = true := by decide +kernel
theorem oc123_3 : okChunk 123 3 = true := by decide +kernel
theorem or123 : okRowsAll 123 := fun i h => (show ∀ i, i < 4 → okChunk 123 i = true from (lt_s (lt_s (lt_s (lt_s lt_0 oc123_0) oc123_1) oc123_2) oc123_3)) i (Nat.lt_of_lt_of_eq h (by decide +kernel))
theorem oh123 : okHeadAll 123 := Or.inr (Or.inr (by decide +kernel))
theorem oc124_0 : okChunk 124 0 = true := by decide +kernel
theorem oc124_1 : okChunk 124 1 = true := by decide +kernel
theorem oc124_2 : okChunk 124 2 = true := by decide +kernel
theorem or124 : okRowsAll 124 := fun i h => (show ∀ i, i < 3 → okChunk 124 i = true from (lt_s (lt_s (lt_s lt_0 oc124_0) oc124_1) oc124_2)) i (Nat.lt_of_lt_of_eq h (by decide +kernel))
theorem oh124 : okHeadAll 124 := Or.inr (Or.inr (by decide +kernel))
theorem oc125_0 : okChunk 125 0 = true := by decide +kernel
theorem oc125_1 : okChunk 125 1 = true := by decide +kernel
theorem or125 : okRowsAll 125 := fun i h => (show ∀ i, i < 2 → okChunk 125 i = true from (lt_s (lt_s lt_0 oc125_0) oc125_1)) i (Nat.lt_of_lt_of_eq h (by decide +kernel))
theorem oh125 : okHeadAll 125 := Or.inr (Or.inr (by decide +kernel))
theorem oc126_0 : okChunk 126 0 = true := by decide +kernel
theorem or126 : okRowsAll 126 := fun i h => (show ∀ i, i < 1 → okChunk 126 i = true from (lt_s lt_0 oc126_0)) i (Nat.lt_of_lt_of_eq h (by decide +kernel))
theorem oh126 : okHeadAll 126 := Or.inr (Or.inr (by decide +kernel))
theorem oc127_0 : okChunk 127 0 = true := by decide +kernel
theorem or127 : okRowsAll 127 := fun i h => (show ∀ i, i < 1 → okChunk 127 i = true from (lt_s lt_0 oc127_0)) i (Nat.lt_of_lt_of_eq h (by decide +kernel))
theorem oh127 : okHeadAll 127 := Or.inr (Or.inr (by decide +kernel))
theorem oc128_0 : okChunk 128 0 = true := by decide +kernel
theorem or128 : okRowsAll 128 := fun i h => (show ∀ i, i < 1 → okChunk 128 i = true from (lt_s lt_0 oc128_0)) i (Nat.lt_of_lt_of_eq h (by decide +kernel))
theorem oh128 : okHeadAll 128 := Or.inr (Or.inr (by decide +kernel))
theorem oc129_0 : okChunk 129 0 = true := by decide +kernel
theorem oc129_1 : okChunk 129 1 = true := by decide +kernel
theorem oc129_2 : okChunk 129 2 = true := by decide +kernel
theorem or129 : okRowsAll 129 := fun i h => (show ∀ i, i < 3 → okChunk 129 i = true from (lt_s (lt_s (lt_s lt_0 oc129_0) oc129_1) oc129_2)) i (Nat.lt_of_lt_of_eq h (by decide +kernel))
theorem oh129 : okHeadAll 129 := Or.inr (Or.inr (by decide +kernel))
theorem oc130_0 : okChunk 130 0 = true := by decide +kernel
theorem oc130_1 : okChunk 130 1 = true := by decide +kernel
theorem oc130_2 : okChunk 130 2 = true := by decide +kernel
theorem or130 : okRowsAll 130 := fun i h => (show ∀ i, i < 3 → okChunk 130 i = true from (lt_s (lt_s (lt_s lt_0 oc130_0) oc130_1) oc130_2)) i (Nat.lt_of_lt_of_eq h (by decide +kernel))
theorem oh130 : okHeadAll 130 := Or.inr (Or.inr (by decide +kernel))
theorem oc131_0 : okChunk 131 0 = true := by decide +kernel
theorem oc131_1 : okChunk 131 1 = true := by decide +kernel
theorem or131 : okRowsAll 131 := fun i h => (show ∀ i, i < 2 → okChunk 131 i = true from (lt_s (lt_s lt_0 oc131_0) oc131_1)) i (Nat.lt_of_lt_of_eq h (by decide +kernel))
theorem oh131 : okHeadAll 131 := Or.inr (Or.inr (by decide +kernel))
theorem oc132_0 : okChunk 132 0 = true := by decide +kernel
theorem or132 : okRowsAll 132 := fun i h => (show ∀ i, i < 1 → okChunk 132 i = true from (lt_s lt_0 oc132_0)) i (Nat.lt_of_lt_of_eq h (by decide +kernel))
theorem oh132 : okHeadAll 132 := Or.inr (Or.inr (by decide +kernel))
theorem oc133_0 : okChunk 133 0 = true := by decide +kernel
theorem or133 : okRowsAll 133 := fun i h => (show ∀ i, i < 1 → okChunk 133 i = true from (lt_s lt_0 oc133_0)) i (Nat.lt_of_lt_of_eq h (by decide +kernel))
theorem oh133 : okHeadAll 133 := Or.inr (Or.inr (by decide +kernel))
theorem oc134_0 : okChunk 134 0 = true := by decide +kernel
theorem oc134_1 : okChunk 134 1 = true := by decide +kernel
theorem or134 : okRowsAll 134 := fun i h => (show ∀ i, i < 2 → okChunk 134 i = true from (lt_s (lt_s lt_0 oc134_0) oc134_1)) i (Nat.lt_of_lt_of_eq h (by decide +kernel))
theorem oh134 : okHeadAll 134 := Or.inr (Or.inr (by decide +kernel))
theorem oc135_0 : okChunk 135 0 = true := by decide +kernel
theorem or135 : okRowsAll 135 := fun i h => (show ∀ i, i < 1 → okChunk 135 i = true from (lt_s lt_0 oc135_0)) i (Nat.lt_of_lt_of_eq h (by decide +kernel))
theorem oh135 : okHeadAll 135 := Or.inr (Or.inr (by decide +kernel))
theorem oc136_0 : okChunk 136 0 = true := by decide +kernel
theorem or136 : okRowsAll 136 := fun i h => (show ∀ i, i < 1 → okChunk 136 i = true from (lt_s lt_0 oc136_0)) i (Nat.lt_of_lt_of_eq h (by decide +kernel))
theorem oh136 : okHeadAll 136 := Or.inr (Or.inr (by decide +kernel))
theorem oc137_0 : okChunk 137 0 = true := by decide +kernel
theorem oc137_1 : okChunk 137 1 = true := by decide +kernel
theorem or137 : okRowsAll 137 := fun i h => (show ∀ i, i < 2 → okChunk 137 i = true from (lt_s (lt_s lt_0 oc137_0) oc137_1)) i (Nat.lt_of_lt_of_eq h (by decide +kernel))
theorem oh137 : okHeadAll 137 := Or.inr (Or.inr (by decide +kernel))
theorem oc138_0 : okChunk 138 0 = true := by decide +kernel
theorem oc138_1 : okChunk 138 1 = true := by decide +kernel
theorem or138 : okRowsAll 138 := fun i h => (show ∀ i, i < 2 → okChunk 138 i = true from (lt_s (lt_s lt_0 oc138_0) oc138_1)) i (Nat.lt_of_lt_of_eq h (by decide +kernel))
theorem oh138 : okHeadAll 138 := Or.inr (Or.inr (by decide +kernel))
theorem oc139_0 : okChunk 139 0 = true := by decide +kernel
theorem or139 : okRowsAll 139 := fun i h => (show ∀ i, i < 1 → okChunk 139 i = true from (lt_s lt_0 oc139_0)) i (Nat.lt_of_lt_of_eq h (by decide +kernel))
theorem oh139 : okHeadAll 139 := Or.inr (Or.inr (by decide +kernel))
theorem oc140_0 : okChunk 140 0 = true := by decide +kernel
theorem oc140_1 : okChunk 140 1 = true := by decide +kernel
theorem or140 : okRowsAll 140 := fun i h => (show ∀ i, i < 2 → okChunk 140 i = true from (lt_s (lt_s lt_0 oc140_0) oc140_1)) i (Nat.lt_of_lt_of_eq h (by decide +kernel))
theorem oh140 : okHeadAll 140 := Or.inr (Or.inr (by decide +kernel))
theorem oc141_0 : okChunk 141 0 = true := by decide +kernel
theorem or141 : okRowsAll 141 := fun i h => (show ∀ i, i < 1 → okChunk 141 i = true from (lt_s lt_0 oc141_0)) i (Nat.lt_of_lt_of_eq h (by decide +kernel))
theorem oh141 : okHeadAll 141 := Or.inr (Or.inr (by decide +kernel))
theorem oc142_0 : okChunk 142 0 = true := by decide +kernel
theorem or142 : okRowsAll 142 := fun i h => (show ∀ i, i < 1 → okChunk 142 i = true from (lt_s lt_0 oc142_0)) i (Nat.lt_of_lt_of_eq h (by decide +kernel))
theorem oh142 : okHeadAll 142 := Or.inr (Or.inr (by decide +kernel))
theorem oc143_0 : okChunk 143 0 = true := by decide +kernel
theorem or143 : okRowsAll 143 := fun i h => (show ∀ i, i < 1 → okChunk 143 i = true from (lt_s lt_0 oc143_0)) i (Nat.lt_of_lt_of_eq h (by decide +kernel))
theorem oh143 : okHeadAll 143 := Or.inr (Or.inr (by decide +kernel))
theorem oc144_0 : okChunk 144 0 = true := by decide +kernel
theorem oc144_1 : okChunk 144 1 = true := by decide +kernel
theorem or144 : okRowsAll 144 := fun i h => (show ∀ i, i < 2 → okChunk 144 i = true from (lt_s (lt_s lt_0 oc144_0) oc144_1)) i (Nat.lt_of_lt_of_eq h (by decide +kernel))
theorem oh144 : okHeadAll 144 := Or.inr (Or.inr (by decide +kernel))
theorem oc145_0 : okChunk 145 0 = true := by decide +kernel
theorem or145 : okRowsAll 145 := fun i h => (show ∀ i, i < 1 → okChunk 145 i = true from (lt_s lt_0 oc145_0)) i (Nat.lt_of_lt_of_eq h (by decide +kernel))
theorem oh145 : okHeadAll 145 := Or.inr (Or.inr (by decide +kernel))
theorem oc146_0 : okChunk 146 0 = true := by decide +kernel
theorem or146 : okRowsAll 146 := fun i h => (show ∀ i, i < 1 → okChunk 146 i = true from (lt_s lt_0 oc146_0)) i (Nat.lt_of_lt_of_eq h (by decide +kernel))
theorem oh146 : okHeadAll 146 := Or.inr (Or.inr (by decide +kernel))
theorem oc147_0 : okChunk 147 0 = true := by decide +kernel
theorem or147 : okRowsAll 147 := fun i h => (show ∀ i, i < 1 → okChunk 147 i = true from (lt_s lt_0 oc147_0)) i (Nat.lt_of_lt_of_eq h (by decide +kernel))
theorem oh147 : okHeadAll 147 := Or.inr (Or.inr (by decide +kernel))
theorem oc148_0 : okChunk 148 0 = true := by decide +kernel
theorem or148 : okRowsAll 148 := fun i h => (show ∀ i, i < 1 → okChunk 148 i = true from (lt_s lt_0 oc148_0)) i (Nat.lt_of_lt_of_eq h (by decide +kernel))
theorem oh148 : okHeadAll 148 := Or.inr (Or.inr (by decide +kernel))
theorem oc149_0 : okChunk 149 0 = true := by decide +kernel
theorem or149 : okRowsAll 149 := fun i h => (show ∀ i, i < 1 → okChunk 149 i = true from (lt_s lt_0 oc149_0)) i (Nat.lt_of_lt_of_eq h (by decide +kernel))
theorem oh149 : okHeadAll 149 := Or.inr (Or.inr (by decide +kernel))
theorem oc150_0 : okChunk 150 0 = true := by decide +kernel
theorem oc150_1 : okChunk 150 1 = true := by decide +kernel
theorem or150 : okRowsAll 150 := fun i h => (show ∀ i, i < 2 → okChunk 150 i = true from (lt_s (lt_s lt_0 oc150_0) oc150_1)) i (Nat.lt_of_lt_of_eq h (by decide +kernel))
theorem oh150 : okHeadAll 150 := Or.inr (Or.inr (by decide +kernel))
theorem oc151_0 : okChunk 151 0 = true := by decide +kernel
theorem or151 : okRowsAll 151 := fun i h => (show ∀ i, i < 1 → okChunk 151 i = true from (lt_s lt_0 oc151_0)) i (Nat.lt_of_lt_of_eq h (by decide +kernel))
theorem oh151 : okHeadAll 151 := Or.inr (Or.inr (by decide +kernel))
theorem oc152_0 : okChunk 152 0 = true := by decide +kernel
theorem or152 : okRowsAll 152 := fun i h => (show ∀ i, i < 1 → okChunk 152 i = true from (lt_s lt_0 oc152_0)) i (Nat.lt_of_lt_of_eq h (by decide +kernel))
theorem oh152 : okHeadAll 152 := Or.inr (Or.inr (by decide +kernel))
theorem oc153_0 : okChunk 153 0 = true := by decide +kernel
theorem or153 : okRowsAll 153 := fun i h => (show ∀ i, i < 1 → okChunk 153 i = true from (lt_s lt_0 oc153_0)) i (Nat.lt_of_lt_of_eq h (by decide +kernel))
theorem oh153 : okHeadAll 153 := Or.inr (Or.inr (by decide +kernel))
theorem oc154_0 : okChunk 154 0 = true := by decide +kernel
theorem or154 : okRowsAll 154 := fun i h => (show ∀ i, i < 1 → okChunk 154 i = true from (lt_s lt_0 oc154_0)) i (Nat.lt_of_lt_of_eq h (by decide +kernel))
theorem oh154 : okHeadAll 154 := Or.inr (Or.inr (by decide +kernel))
theorem oc155_0 : okChunk 155 0 = true := by decide +kernel
theorem or155 : okRowsAll 155 := fun i h => (show ∀ i, i < 1 → okChunk 155 i = true from (lt_s lt_0 oc155_0)) i (Nat.lt_of_lt_of_eq h (by decide +kernel))
theorem oh155 : okHeadAll 155 := Or.inr (Or.inr (by decide +kernel))
theorem oc156_0 : okChunk 156 0 = true := by decide +kernel
theorem oc156_1 : okChunk 156 1 = true := by decide +kernel
theorem or156 : okRowsAll 156 := fun i h => (show ∀ i, i < 2 → okChunk 156 i = true from (lt_s (lt_s lt_0 oc156_0) oc156_1)) i (Nat.lt_of_lt_of_eq h (by decide +kernel))
theorem oh156 : okHeadAll 156 := Or.inr (Or.inr (by decide +kernel))
theorem oc157_0 : okChunk 157 0 = true := by decide +kernel
theorem or157 : okRowsAll 157 := fun i h => (show ∀ i, i < 1 → okChunk 157 i = true from (lt_s lt_0 oc157_0)) i (Nat.lt_of_lt_of_eq h (by decide +kernel))
theorem oh157 : okHeadAll 157 := Or.inr (Or.inr (by decide +kernel))
theorem oc158_0 : okChunk 158 0 = true := by decide +kernel
theorem or158 : okRowsAll 158 := fun i h => (show ∀ i, i < 1 → okChunk 158 i = true from (lt_s lt_0 oc158_0)) i (Nat.lt_of_lt_of_eq h (by decide +kernel))
theorem oh158 : okHeadAll 158 := Or.inr (Or.inr (by decide +kernel))
theorem oc159_0 : okChunk 159 0 = true := by decide +kernel
theorem or159 : okRowsAll 159 := fun i h => (show ∀ i, i < 1 → okChunk 159 i = true from (lt_s lt_0 oc159_0)) i (Nat.lt_of_lt_of_eq h (by decide +kernel))
theorem oh159 : okHeadAll 159 := Or.inr (Or.inr (by decide +kernel))
theorem oc160_0 : okChunk 160 0 = true := by decide +kernel
theorem oc160_1 : okChunk 160 1 = true := by decide +kernel
theorem or160 : okRowsAll 160 := fun i h => (show ∀ i, i < 2 → okChunk 160 i = true from (lt_s (lt_s lt_0 oc160_0) oc160_1)) i (Nat.lt_of_lt_of_eq h (by decide +kernel))
theorem oh160 : okHeadAll 160 := Or.inr (Or.inr (by decide +kernel))
theorem oc161_0 : okChunk 161 0 = true := by decide +kernel
theorem oc161_1 : okChunk 161 1 = true := by decide +kernel
theorem or161 : okRowsAll 161 := fun i h => (show ∀ i, i < 2 → okChunk 161 i = true from (lt_s (lt_s lt_0 oc161_0) oc161_1)) i (Nat.lt_of_lt_of_eq h (by decide +kernel))
theorem oh161 : okHeadAll 161 := Or.inr (Or.inr (by decide +kernel))
theorem oc162_0 : okChunk 162 0 = true := by decide +kernel
theorem oc162_1 : okChunk 162 1 = true := by decide +kernel
theorem or162 : okRowsAll 162 := fun i h => (show ∀ i, i < 2 → okChunk 162 i = true from (lt_s (lt_s lt_0 oc162_0) oc162_1)) i (Nat.lt_of_lt_of_eq h (by decide +kernel))
theorem oh162 : okHeadAll 162 := Or.inr (Or.inr (by decide +kernel))
theorem oc163_0 : okChunk 163 0 = true := by decide +kernel
theorem oc163_1 : okChunk 163 1 = true := by decide +kernel
theorem oc163_2 : okChunk 163 2 = true := by decide +kernel
theorem or163 : okRowsAll 163 := fun i h => (show ∀ i, i < 3 → okChunk 163 i = true from (lt_s (lt_s (lt_s lt_0 oc163_0) oc163_1) oc163_2)) i (Nat.lt_of_lt_of_eq h (by decide +kernel))
theorem oh163 : okHeadAll 163 := Or.inr (Or.inr (by decide +kernel))
theorem oc164_0 : okChunk 164 0 = true := by decide +kernel
theorem or164 : okRowsAll 164 := fun i h => (show ∀ i, i < 1 → okChunk 164 i = true from (lt_s lt_0 oc164_0)) i (Nat.lt_of_lt_of_eq h (by decide +kernel))
theorem oh164 : okHeadAll 164 := Or.inr (Or.inr (by decide +kernel))
theorem oc165_0 : okChunk 165 0 = true := by decide +kernel
theorem or165 : okRowsAll 165 := fun i h => (show ∀ i, i < 1 → okChunk 165 i = true from (lt_s lt_0 oc165_0)) i (Nat.lt_of_lt_of_eq h (by decide +kernel))
theorem oh165 : okHeadAll 165 := Or.inr (Or.inr (by decide +kernel))
theorem oc166_0 : okChunk 166 0 = true := by decide +kernel
theorem oc166_1 : okChunk 166 1 = true := by decide +kernel
theorem or166 : okRowsAll 166 := fun i h => (show ∀ i, i < 2 → okChunk 166 i = true from (lt_s (lt_s lt_0 oc166_0) oc166_1)) i (Nat.lt_of_lt_of_eq h (by decide +kernel))
theorem oh166 : okHeadAll 166 := Or.inr (Or.inr (by decide +kernel))
theorem oc167_0 : okChunk 167 0 = true := by decide +kernel
theorem or167 : okRowsAll 167 := fun i h => (show ∀ i, i < 1 → okChunk 167 i = true from (lt_s lt_0 oc167_0)) i (Nat.lt_of_lt_of_eq h (by decide +kernel))
theorem oh167 : okHeadAll 167 := Or.inr (Or.inr (by decide +kernel))
theorem oc168_0 : okChunk 168 0 = true := by decide +kernel
theorem or168 : okRowsAll 168 := fun i h => (show ∀ i, i < 1 → okChunk 168 i = true from (lt_s lt_0 oc168_0)) i (Nat.lt_of_lt_of_eq h (by decide +kernel))
theorem oh168 : okHeadAll 168 := Or.inr (Or.inr (by decide +kernel))
theorem oc169_0 : okChunk 169 0 = true := by decide +kernel
theorem or169 : okRowsAll 169 := fun i h => (show ∀ i, i < 1 → okChunk 169 i = true from (lt_s lt_0 oc169_0)) i (Nat.lt_of_lt_of_eq h (by decide +kernel))
theorem oh169 : okHeadAll 169 := Or.inr (Or.inr (by decide +kernel))
theorem oc170_0 : okChunk 170 0 = true := by decide +kernel
theorem oc170_1 : okChunk 170 1 = true := by decide +kernel
theorem or170 : okRowsAll 170 := fun i h => (show ∀ i, i < 2 → okChunk 170 i = true from (lt_s (lt_s lt_0 oc170_0) oc170_1)) i (Nat.lt_of_lt_of_eq h (by decide +kernel))
theorem oh170 : okHeadAll 170 := Or.inr (Or.inr (by decide +kernel))
theorem oc171_0 : okChunk 171 0 = true := by decide +kernel
theorem or171 : okRowsAll 171 := fun i h => (show ∀ i, i < 1 → okChunk 171 i = true from (lt_s lt_0 oc171_0)) i (Nat.lt_of_lt_of_eq h (by decide +kernel))
theorem oh171 : okHeadAll 171 := Or.inr (Or.inr (by decide +kernel))
theorem oc172_0 : okChunk 172 0 = true := by decide +kernel
theorem or172 : okRowsAll 172 := fun i h => (show ∀ i, i < 1 → okChunk 172 i = true from (lt_s lt_0 oc172_0)) i (Nat.lt_of_lt_of_eq h (by decide +kernel))
theorem oh172 : okHeadAll 172 := Or.inr (Or.inr (by decide +kernel))
theorem oc173_0 : okChunk 173 0 = true := by decide +kernel
theorem oc173_1 : okChunk 173 1 = true := by decide +kernel
theorem or173 : okRowsAll 173 := fun i h => (show ∀ i, i < 2 → okChunk 173 i = true from (lt_s (lt_s lt_0 oc173_0) oc173_1)) i (Nat.lt_of_lt_of_eq h (by decide +kernel))
theorem oh173 : okHeadAll 173 := Or.inr (Or.inr (by decide +kernel))
theorem oc174_0 : okChunk 174 0 = true := by decide +kernel
theorem oc174_1 : okChunk 174 1 = true := by decide +kernel
theorem or174 : okRowsAll 174 := fun i h => (show ∀ i, i < 2 → okChunk 174 i = true from (lt_s (lt_s lt_0 oc174_0) oc174_1)) i (Nat.lt_of_lt_of_eq h (by decide +kernel))
theorem oh174 : okHeadAll 174 := Or.inr (Or.inr (by decide +kernel))
theorem oc175_0 : okChunk 175 0 = true := by decide +kernel
theorem or175 : okRowsAll 175 := fun i h => (show ∀ i, i < 1 → okChunk 175 i = true from (lt_s lt_0 oc175_0)) i (Nat.lt_of_lt_of_eq h (by decide +kernel))
theorem oh175 : okHeadAll 175 := Or.inr (Or.inr (by decide +kernel))
theorem oc176_0 : okChunk 176 0 = true := by decide +kernel
theorem or176 : okRowsAll 176 := fun i h => (show ∀ i, i < 1 → okChunk 176 i = true from (lt_s lt_0 oc176_0)) i (Nat.lt_of_lt_of_eq h (by decide +kernel))
theorem oh176 : okHeadAll 176 := Or.inr (Or.inr (by decide +kernel))
theorem oc177_0 : okChunk 177 0 = true := by decide +kernel
theorem or177 : okRowsAll 177 := fun i h => (show ∀ i, i < 1 → okChunk 177 i = true from (lt_s lt_0 oc177_0)) i (Nat.lt_of_lt_of_eq h (by decide +kernel))
theorem oh177 : okHeadAll 177 := Or.inr (Or.inr (by decide +kernel))
theorem oc178_0 : okChunk 178 0 = true := by decide +kernel
theorem oc178_1 : okChunk 178 1 = true := by decide +kernel
theorem or178 : okRowsAll 178 := fun i h => (show ∀ i, i < 2 → okChunk 178 i = true from (lt_s (lt_s lt_0 oc178_0) oc178_1)) i (Nat.lt_of_lt_of_eq h (by decide +kernel))
theorem oh178 : okHeadAll 178 := Or.inr (Or.inr (by decide +kernel))
theorem oc179_0 : okChunk 179 0 = true := by decide +kernel
theorem oc179_1 : okChunk 179 1 = true := by decide +kernel
theorem or179 : okRowsAll 179 := fun i h => (show ∀ i, i < 2 → okChunk 179 i = true from (lt_s (lt_s lt_0 oc179_0) oc179_1)) i (Nat.lt_of_lt_of_eq h (by decide +kernel))
theorem oh179 : okHeadAll 179 := Or.inr (Or.inr (by decide +kernel))
theorem oc180_0 : okChunk 180 0 = true := by decide +kernel
theorem oc180_1 : okChunk 180 1 = true := by decide +kernel
theorem or180 : okRowsAll 180 := fun i h => (show ∀ i, i < 2 → okChunk 180 i = true from (lt_s (lt_s lt_0 oc180_0) oc180_1)) i (Nat.lt_of_lt_of_eq h (by decide +kernel))
theorem oh180 : okHeadAll 180 := Or.inr (Or.inr (by decide +kernel))
theorem oc181_0 : okChunk 181 0 = true := by decide +kernel
theorem or181 : okRowsAll 181 := fun i h => (show ∀ i, i < 1 → okChunk 181 i = true from (lt_s lt_0 oc181_0)) i (Nat.lt_of_lt_of_eq h (by decide +kernel))
theorem oh181 : okHeadAll 181 := Or.inl rfl
theorem oc182_0 : okChunk 182 0 = true := by decide +kernel
theorem or182 : okRowsAll 182 := fun i h => (show ∀ i, i < 1 → okChunk 182 i = true from (lt_s lt_0 oc182_0)) i (Nat.lt_of_lt_of_eq h (by decide +kernel))
theorem oh182 : okHeadAll 182 := Or.inr (Or.inl rfl)
theorem oc183_0 : okChunk 183 0 = true := by decide +kernel
theorem or183 : okRowsAll 183 := fun i h => (show ∀ i, i < 1 → okChunk 183 i = true from (lt_s lt_0 oc183_0)) i (Nat.lt_of_lt_of_eq h (by decide +kernel))
theorem oh183 : okHeadAll 183 := Or.inr (Or.inr (by decide +kernel))
theorem oc184_0 : okChunk 184 0 = true := by decide +kernel
theorem oc184_1 : okChunk 184 1 = true := by decide +kernel
theorem oc184_2 : okChunk 184 2 = true := by decide +kernel
theorem oc184_3 : okChunk 184 3 = true := by decide +kernel
theorem oc184_4 : okChunk 184 4 = true := by decide +kernel
theorem oc184_5 : okChunk 184 5 = true := by decide +kernel
theorem oc184_6 : okChunk 184 6 = true := by decide +kernel
theorem oc184_7 : okChunk 184 7 = true := by decide +kernel
theorem oc184_8 : okChunk 184 8 = true := by decide +kernel
theorem oc184_9 : okChunk 184 9 = true := by decide +kernel
theorem oc184_10 : okChunk 184 10 = true := by decide +kernel
theorem oc184_11 : okChunk 184 11 = true := by decide +kernel
theorem oc184_12 : okChunk 184 12 = true := by decide +kernel
theorem oc184_13 : okChunk 184 13 = true := by decide +kernel
theorem oc184_14 : okChunk 184 14 = true := by decide +kernel
theorem or184 : okRowsAll 184 := fun i h => (show ∀ i, i < 15 → okChunk 184 i = true from (lt_s (lt_s (lt_s (lt_s (lt_s (lt_s (lt_s (lt_s (lt_s (lt_s (lt_s (lt_s (lt_s (lt_s (lt_s lt_0 oc184_0) oc184_1) oc184_2) oc184_3) oc184_4) oc184_5) oc184_6) oc184_7) oc184_8) oc184_9) oc184_10) oc184_11) oc184_12) oc184_13) oc184_14)) i (Nat.lt_of_lt_of_eq h (by decide +kernel))
theorem orA0 : ∀ k, k < 0 → okRowsAll k := lt_0
theorem ohA0 : ∀ k, k < 0 → okHeadAll k := lt_0
theorem orA1 : ∀ k, k < 1 → okRowsAll k := lt_s orA0 or0
theorem ohA1 : ∀ k, k < 1 → okHeadAll k := lt_s ohA0 oh0
theorem orA2 : ∀ k, k < 2 → okRowsAll k := lt_s orA1 or1
theorem ohA2 : ∀ k, k < 2 → okHeadAll k := lt_s ohA1 oh1
theorem orA3 : ∀ k, k < 3 → okRowsAll k := lt_s orA2 or2
theorem ohA3 : ∀ k, k < 3 → okHeadAll k := lt_s ohA2 oh2
theorem orA4 : ∀ k, k < 4 → okRowsAll k := lt_s orA3 or3
theorem ohA4 : ∀ k, k < 4 → okHeadAll k := lt_s ohA3 oh3
theorem orA5 : ∀ k, k < 5 → okRowsAll k := lt_s orA4 or4
theorem ohA5 : ∀ k, k < 5 → okHeadAll k := lt_s ohA4 oh4
theorem orA6 : ∀ k, k < 6 → okRowsAll k := lt_s orA5 or5
theorem ohA6 : ∀ k, k < 6 → okHeadAll k := lt_s ohA5 oh5
theorem orA7 : ∀ k, k < 7 → okRowsAll k := lt_s orA6 or6
theorem ohA7 : ∀ k, k < 7 → okHeadAll k := lt_s ohA6 oh6
theorem orA8 : ∀ k, k < 8 → okRowsAll k := lt_s orA7 or7
theorem ohA8 : ∀ k, k < 8 → okHeadAll k := lt_s ohA7 oh7
theorem orA9 : ∀ k, k < 9 → okRowsAll k := lt_s orA8 or8
theorem ohA9 : ∀ k, k < 9 → okHeadAll k := lt_s ohA8 oh8
theorem orA10 : ∀ k, k < 10 → okRowsAll k := lt_s orA9 or9
theorem ohA10 : ∀ k, k < 10 → okHeadAll k := lt_s ohA9 oh9
theorem orA11 : ∀ k, k < 11 → okRowsAll k := lt_s orA10 or10
theorem ohA11 : ∀ k, k < 11 → okHeadAll k := lt_s ohA10 oh10
theorem orA12 : ∀ k, k < 12 → okRowsAll k := lt_s orA11 or11
theorem ohA12 : ∀ k, k < 12 → okHeadAll k := lt_s ohA11 oh11
theorem orA13 : ∀ k, k < 13 → okRowsAll k := lt_s orA12 or12
theorem ohA13 : ∀ k, k < 13 → okHeadAll k := lt_s ohA12 oh12
theorem orA14 : ∀ k, k < 14 → okRowsAll k := lt_s orA13 or13
theorem ohA14 : ∀ k, k < 14 → okHeadAll k := lt_s ohA13 oh13
theorem orA15 : ∀ k, k < 15 → okRowsAll k := lt_s orA14 or14
theorem ohA15 : ∀ k, k < 15 → okHeadAll k := lt_s ohA14 oh14
theorem orA16 : ∀ k, k < 16 → okRowsAll k := lt_s orA15 or15
theorem ohA16 : ∀ k, k < 16 → okHeadAll k := lt_s ohA15 oh15
theorem orA17 : ∀ k, k < 17 → okRowsAll k := lt_s orA16 or16
theorem ohA17 : ∀ k, k < 17 → okHeadAll k := lt_s ohA16 oh16
theorem orA18 : ∀ k, k < 18 → okRowsAll k := lt_s orA17 or17
theorem ohA18 : ∀ k, k < 18 → okHeadAll k := lt_s ohA17 oh17
theorem orA19 : ∀ k, k < 19 → okRowsAll k := lt_s orA18 or18
theorem ohA19 : ∀ k, k < 19 → okHeadAll k := lt_s ohA18 oh18
theorem orA20 : ∀ k, k < 20 → okRowsAll k := lt_s orA19 or19
theorem ohA20 : ∀ k, k < 20 → okHeadAll k := lt_s ohA19 oh19
theorem orA21 : ∀ k, k < 21 → okRowsAll k := lt_s orA20 or20
theorem ohA21 : ∀ k, k < 21 → okHeadAll k := lt_s ohA20 oh20
theorem orA22 : ∀ k, k < 22 → okRowsAll k := lt_s orA21 or21
theorem ohA22 : ∀ k, k < 22 → okHeadAll k := lt_s ohA21 oh21
theorem orA23 : ∀ k, k < 23 → okRowsAll k := lt_s orA22 or22
theorem ohA23 : ∀ k, k < 23 → okHeadAll k := lt_s ohA22 oh22
theorem orA24 : ∀ k, k < 24 → okRowsAll k := lt_s orA23 or23
theorem ohA24 : ∀ k, k < 24 → okHeadAll k := lt_s ohA23 oh23
theorem orA25 : ∀ k, k < 25 → okRowsAll k := lt_s orA24 or24
theorem ohA25 : ∀ k, k < 25 → okHeadAll k := lt_s ohA24 oh24
theorem orA26 : ∀ k, k < 26 → okRowsAll k := lt_s orA25 or25
theorem ohA26 : ∀ k, k < 26 → okHeadAll k := lt_s ohA25 oh25
theorem orA27 : ∀ k, k < 27 → okRowsAll k := lt_s orA26 or26
theorem ohA27 : ∀ k, k < 27 → okHeadAll k := lt_s ohA26 oh26
theorem orA28 : ∀ k, k < 28 → okRowsAll k := lt_s orA27 or27
theorem ohA28 : ∀ k, k < 28 → okHeadAll k := lt_s ohA27 oh27
theorem orA29 : ∀ k, k < 29 → okRowsAll k := lt_s orA28 or28
theorem ohA29 : ∀ k, k < 29 → okHeadAll k := lt_s ohA28 oh28
theorem orA30 : ∀ k, k < 30 → okRowsAll k := lt_s orA29 or29
theorem ohA30 : ∀ k, k < 30 → okHeadAll k := lt_s ohA29 oh29
theorem orA31 : ∀ k, k < 31 → okRowsAll k := lt_s orA30 or30
theorem ohA31 : ∀ k, k < 31 → okHeadAll k := lt_s ohA30 oh30
theorem orA32 : ∀ k, k < 32 → okRowsAll k := lt_s orA31 or31
theorem ohA32 : ∀ k, k < 32 → okHeadAll k := lt_s ohA31 oh31
theorem orA33 : ∀ k, k < 33 → okRowsAll k := lt_s orA32 or32
theorem ohA33 : ∀ k, k < 33 → okHeadAll k := lt_s ohA32 oh32
theorem orA34 : ∀ k, k < 34 → okRowsAll k := lt_s orA33 or33
theorem ohA34 : ∀ k, k < 34 → okHeadAll k := lt_s ohA33 oh33
theorem orA35 : ∀ k, k < 35 → okRowsAll k := lt_s orA34 or34
theorem ohA35 : ∀ k, k < 35 → okHeadAll k := lt_s ohA34 oh34
theorem orA36 : ∀ k, k < 36 → okRowsAll k := lt_s orA35 or35
theorem ohA36 : ∀ k, k < 36 → okHeadAll k := lt_s ohA35 oh35
theorem orA37 : ∀ k, k < 37 → okRowsAll k := lt_s orA36 or36
theorem ohA37 : ∀ k, k < 37 → okHeadAll k := lt_s ohA36 oh36
theorem orA38 : ∀ k, k < 38 → okRowsAll k := lt_s orA37 or37
theorem ohA38 : ∀ k, k < 38 → okHeadAll k := lt_s ohA37 oh37
theorem orA39 : ∀ k, k < 39 → okRowsAll k := lt_s orA38 or38
theorem ohA39 : ∀ k, k < 39 → okHeadAll k := lt_s ohA38 oh38
theorem orA40 : ∀ k, k < 40 → okRowsAll k := lt_s orA39 or39
theorem ohA40 : ∀ k, k < 40 → okHeadAll k := lt_s ohA39 oh39
theorem orA41 : ∀ k, k < 41 → okRowsAll k := lt_s orA40 or40
theorem ohA41 : ∀ k, k < 41 → okHeadAll k := lt_s ohA40 oh40
theorem orA42 : ∀ k, k < 42 → okRowsAll k := lt_s orA41 or41
theorem ohA42 : ∀ k, k < 42 → okHeadAll k := lt_s ohA41 oh41
theorem orA43 : ∀ k, k < 43 → okRowsAll k := lt_s orA42 or42
theorem ohA43 : ∀ k, k < 43 → okHeadAll k := lt_s ohA42 oh42
theorem orA44 : ∀ k, k < 44 → okRowsAll k := lt_s orA43 or43
theorem ohA44 : ∀ k, k < 44 → okHeadAll k := lt_s ohA43 oh43
theorem orA45 : ∀ k, k < 45 → okRowsAll k := lt_s orA44 or44
theorem ohA45 : ∀ k, k < 45 → okHeadAll k := lt_s ohA44 oh44
theorem orA46 : ∀ k, k < 46 → okRowsAll k := lt_s orA45 or45
theorem ohA46 : ∀ k, k < 46 → okHeadAll k := lt_s ohA45 oh45
theorem orA47 : ∀ k, k < 47 → okRowsAll k := lt_s orA46 or46
theorem ohA47 : ∀ k, k < 47 → okHeadAll k := lt_s ohA46 oh46
theorem orA48 : ∀ k, k < 48 → okRowsAll k := lt_s orA47 or47
theorem ohA48 : ∀ k, k < 48 → okHeadAll k := lt_s ohA47 oh47
theorem orA49 : ∀ k, k < 49 → okRowsAll k := lt_s orA48 or48
theorem ohA49 : ∀ k, k < 49 → okHeadAll k := lt_s ohA48 oh48
theorem orA50 : ∀ k, k < 50 → okRowsAll k := lt_s orA49 or49
theorem ohA50 : ∀ k, k < 50 → okHeadAll k := lt_s ohA49 oh49
theorem orA51 : ∀ k, k < 51 → okRowsAll k := lt_s orA50 or50
theorem ohA51 : ∀ k, k < 51 → okHeadAll k := lt_s ohA50 oh50
theorem orA52 : ∀ k, k < 52 → okRowsAll k := lt_s orA51 or51
theorem ohA52 : ∀ k, k < 52 → okHeadAll k := lt_s ohA51 oh51
theorem orA53 : ∀ k, k < 53 → okRowsAll k := lt_s orA52 or52
theorem ohA53 : ∀ k, k < 53 → okHeadAll k := lt_s ohA52 oh52
theorem orA54 : ∀ k, k < 54 → okRowsAll k := lt_s orA53 or53
theorem ohA54 : ∀ k, k < 54 → okHeadAll k := lt_s ohA53 oh53
theorem orA55 : ∀ k, k < 55 → okRowsAll k := lt_s orA54 or54
theorem ohA55 : ∀ k, k < 55 → okHeadAll k := lt_s ohA54 oh54
theorem orA56 : ∀ k, k < 56 → okRowsAll k := lt_s orA55 or55
theorem ohA56 : ∀ k, k < 56 → okHeadAll k := lt_s ohA55 oh55
theorem orA57 : ∀ k, k < 57 → okRowsAll k := lt_s orA56 or56
theorem ohA57 : ∀ k, k < 57 → okHeadAll k := lt_s ohA56 oh56
theorem orA58 : ∀ k, k < 58 → okRowsAll k := lt_s orA57 or57
theorem ohA58 : ∀ k, k < 58 → okHeadAll k := lt_s ohA57 oh57
theorem orA59 : ∀ k, k < 59 → okRowsAll k := lt_s orA58 or58
theorem ohA59 : ∀ k, k < 59 → okHeadAll k := lt_s ohA58 oh58
theorem orA60 : ∀ k, k < 60 → okRowsAll k := lt_s orA59 or59
theorem ohA60 : ∀ k, k < 60 → okHeadAll k := lt_s ohA59 oh59
theorem orA61 : ∀ k, k < 61 → okRowsAll k := lt_s orA60 or60
theorem ohA61 : ∀ k, k < 61 → okHeadAll k := lt_s ohA60 oh60
theorem orA62 : ∀ k, k < 62 → okRowsAll k := lt_s orA61 or61
theorem ohA62 : ∀ k, k < 62 → okHeadAll k := lt_s ohA61 oh61
theorem orA63 : ∀ k, k < 63 → okRowsAll k := lt_s orA62 or62
theorem ohA63 : ∀ k, k < 63 → okHeadAll k := lt_s ohA62 oh62
theorem orA64 : ∀ k, k < 64 → okRowsAll k := lt_s orA63 or63
theorem ohA64 : ∀ k, k < 64 → okHeadAll k := lt_s ohA63 oh63
theorem orA65 : ∀ k, k < 65 → okRowsAll k := lt_s orA64 or64
theorem ohA65 : ∀ k, k < 65 → okHeadAll k := lt_s ohA64 oh64
theorem orA66 : ∀ k, k < 66 → okRowsAll k := lt_s orA65 or65
theorem ohA66 : ∀ k, k < 66 → okHeadAll k := lt_s ohA65 oh65
theorem orA67 : ∀ k, k < 67 → okRowsAll k := lt_s orA66 or66
theorem ohA67 : ∀ k, k < 67 → okHeadAll k := lt_s ohA66 oh66
theorem orA68 : ∀ k, k < 68 → okRowsAll k := lt_s orA67 or67
theorem ohA68 : ∀ k, k < 68 → okHeadAll k := lt_s ohA67 oh67
theorem orA69 : ∀ k, k < 69 → okRowsAll k := lt_s orA68 or68
theorem ohA69 : ∀ k, k < 69 → okHeadAll k := lt_s ohA68 oh68
theorem orA70 : ∀ k, k < 70 → okRowsAll k := lt_s orA69 or69
theorem ohA70 : ∀ k, k < 70 → okHeadAll k := lt_s ohA69 oh69
theorem orA71 : ∀ k, k < 71 → okRowsAll k := lt_s orA70 or70
theorem ohA71 : ∀ k, k < 71 → okHeadAll k := lt_s ohA70 oh70
theorem orA72 : ∀ k, k < 72 → okRowsAll k := lt_s orA71 or71
theorem ohA72 : ∀ k, k < 72 → okHeadAll k := lt_s ohA71 oh71
theorem orA73 : ∀ k, k < 73 → okRowsAll k := lt_s orA72 or72
theorem ohA73 : ∀ k, k < 73 → okHeadAll k := lt_s ohA72 oh72
theorem orA74 : ∀ k, k < 74 → okRowsAll k := lt_s orA73 or73
theorem ohA74 : ∀ k, k < 74 → okHeadAll k := lt_s ohA73 oh73
theorem orA75 : ∀ k, k < 75 → okRowsAll k := lt_s orA74 or74
theorem ohA75 : ∀ k, k < 75 → okHeadAll k := lt_s ohA74 oh74
theorem orA76 : ∀ k, k < 76 → okRowsAll k := lt_s orA75 or75
theorem ohA76 : ∀ k, k < 76 → okHeadAll k := lt_s ohA75 oh75
theorem orA77 : ∀ k, k < 77 → okRowsAll k := lt_s orA76 or76
theorem ohA77 : ∀ k, k < 77 → okHeadAll k := lt_s ohA76 oh76
theorem orA78 : ∀ k, k < 78 → okRowsAll k := lt_s orA77 or77
theorem ohA78 : ∀ k, k < 78 → okHeadAll k := lt_s ohA77 oh77
theorem orA79 : ∀ k, k < 79 → okRowsAll k := lt_s orA78 or78
theorem ohA79 : ∀ k, k < 79 → okHeadAll k := lt_s ohA78 oh78
theorem orA80 : ∀ k, k < 80 → okRowsAll k := lt_s orA79 or79
theorem ohA80 : ∀ k, k < 80 → okHeadAll k := lt_s ohA79 oh79
theorem orA81 : ∀ k, k < 81 → okRowsAll k := lt_s orA80 or80
theorem ohA81 : ∀ k, k < 81 → okHeadAll k := lt_s ohA80 oh80
theorem orA82 : ∀ k, k < 82 → okRowsAll k := lt_s orA81 or81
theorem ohA82 : ∀ k, k < 82 → okHeadAll k := lt_s ohA81 oh81
theorem orA83 : ∀ k, k < 83 → okRowsAll k := lt_s orA82 or82
theorem ohA83 : ∀ k, k < 83 → okHeadAll k := lt_s ohA82 oh82
theorem orA84 : ∀ k, k < 84 → okRowsAll k := lt_s orA83 or83
theorem ohA84 : ∀ k, k < 84 → okHeadAll k := lt_s ohA83 oh83
theorem orA85 : ∀ k, k < 85 → okRowsAll k := lt_s orA84 or84
theorem ohA85 : ∀ k, k < 85 → okHeadAll k := lt_s ohA84 oh84
theorem orA86 : ∀ k, k < 86 → okRowsAll k := lt_s orA85 or85
theorem ohA86 : ∀ k, k < 86 → okHeadAll k := lt_s ohA85 oh85
theorem orA87 : ∀ k, k < 87 → okRowsAll k := lt_s orA86 or86
theorem ohA87 : ∀ k, k < 87 → okHeadAll k := lt_s ohA86 oh86
theorem orA88 : ∀ k, k < 88 → okRowsAll k := lt_s orA87 or87
theorem ohA88 : ∀ k, k < 88 → okHeadAll k := lt_s ohA87 oh87
theorem orA89 : ∀ k, k < 89 → okRowsAll k := lt_s orA88 or88
theorem ohA89 : ∀ k, k < 89 → okHeadAll k := lt_s ohA88 oh88
theorem orA90 : ∀ k, k < 90 → okRowsAll k := lt_s orA89 or89
theorem ohA90 : ∀ k, k < 90 → okHeadAll k := lt_s ohA89 oh89
theorem orA91 : ∀ k, k < 91 → okRowsAll k := lt_s orA90 or90
theorem ohA91 : ∀ k, k < 91 → okHeadAll k := lt_s ohA90 oh90
theorem orA92 : ∀ k, k < 92 → okRowsAll k := lt_s orA91 or91
theorem ohA92 : ∀ k, k < 92 → okHeadAll k := lt_s ohA91 oh91
theorem orA93 : ∀ k, k < 93 → okRowsAll k := lt_s orA92 or92
theorem ohA93 : ∀ k, k < 93 → okHeadAll k := lt_s ohA92 oh92
theorem orA94 : ∀ k, k < 94 → okRowsAll k := lt_s orA93 or93
theorem ohA94 : ∀ k, k < 94 → okHeadAll k := lt_s ohA93 oh93
theorem orA95 : ∀ k, k < 95 → okRowsAll k := lt_s orA94 or94
theorem ohA95 : ∀ k, k < 95 → okHeadAll k := lt_s ohA94 oh94
theorem orA96 : ∀ k, k < 96 → okRowsAll k := lt_s orA95 or95
theorem ohA96 : ∀ k, k < 96 → okHeadAll k := lt_s ohA95 oh95
theorem orA97 : ∀ k, k < 97 → okRowsAll k := lt_s orA96 or96
theorem ohA97 : ∀ k, k < 97 → okHeadAll k := lt_s ohA96 oh96
theorem orA98 : ∀ k, k < 98 → okRowsAll k := lt_s orA97 or97
theorem ohA98 : ∀ k, k < 98 → okHeadAll k := lt_s ohA97 oh97
theorem orA99 : ∀ k, k < 99 → okRowsAll k := lt_s orA98 or98
theorem ohA99 : ∀ k, k < 99 → okHeadAll k := lt_s ohA98 oh98
theorem orA100 : ∀ k, k < 100 → okRowsAll k := lt_s orA99 or99
theorem ohA100 : ∀ k, k < 100 → okHeadAll k := lt_s ohA99 oh99
theorem orA101 : ∀ k, k < 101 → okRowsAll k := lt_s orA100 or100
theorem ohA101 : ∀ k, k < 101 → okHeadAll k := lt_s ohA100 oh100
theorem orA102 : ∀ k, k < 102 → okRowsAll k := lt_s orA101 or101
theorem ohA102 : ∀ k, k < 102 → okHeadAll k := lt_s ohA101 oh101
theorem orA103 : ∀ k, k < 103 → okRowsAll k := lt_s orA102 or102
theorem ohA103 : ∀ k, k < 103 → okHeadAll k := lt_s ohA102 oh102
theorem orA104 : ∀ k, k < 104 → okRowsAll k := lt_s orA103 or103
theorem ohA104 : ∀ k, k < 104 → okHeadAll k := lt_s ohA103 oh103
theorem orA105 : ∀ k, k < 105 → okRowsAll k := lt_s orA104 or104
theorem ohA105 : ∀ k, k < 105 → okHeadAll k := lt_s ohA104 oh104
theorem orA106 : ∀ k, k < 106 → okRowsAll k := lt_s orA105 or105
theorem ohA106 : ∀ k, k < 106 → okHeadAll k := lt_s ohA105 oh105
theorem orA107 : ∀ k, k < 107 → okRowsAll k := lt_s orA106 or106
theorem ohA107 : ∀ k, k < 107 → okHeadAll k := lt_s ohA106 oh106
theorem orA108 : ∀ k, k < 108 → okRowsAll k := lt_s orA107 or107
theorem ohA108 : ∀ k, k < 108 → okHeadAll k := lt_s ohA107 oh107
theorem orA109 : ∀ k, k < 109 → okRowsAll k := lt_s orA108 or108
theorem ohA109 : ∀ k, k < 109 → okHeadAll k := lt_s ohA108 oh108
theorem orA110 : ∀ k, k < 110 → okRowsAll k := lt_s orA109 or109
theorem ohA110 : ∀ k, k < 110 → okHeadAll k := lt_s ohA109 oh109
theorem orA111 : ∀ k, k < 111 → okRowsAll k := lt_s orA110 or110
theorem ohA111 : ∀ k, k < 111 → okHeadAll k := lt_s ohA110 oh110
theorem orA112 : ∀ k, k < 112 → okRowsAll k := lt_s orA111 or111
theorem ohA112 : ∀ k, k < 112 → okHeadAll k := lt_s ohA111 oh111
theorem orA113 : ∀ k, k < 113 → okRowsAll k := lt_s orA112 or112
theorem ohA113 : ∀ k, k < 113 → okHeadAll k := lt_s ohA112 oh112
theorem orA114 : ∀ k, k < 114 → okRowsAll k := lt_s orA113 or113
theorem ohA114 : ∀ k, k < 114 → okHeadAll k := lt_s ohA113 oh113
theorem orA115 : ∀ k, k < 115 → okRowsAll k := lt_s orA114 or114
theorem ohA115 : ∀ k, k < 115 → okHeadAll k := lt_s ohA114 oh114
theorem orA116 : ∀ k, k < 116 → okRowsAll k := lt_s orA115 or115
theorem ohA116 : ∀ k, k < 116 → okHeadAll k := lt_s ohA115 oh115
theorem orA117 : ∀ k, k < 117 → okRowsAll k := lt_s orA116 or116
theorem ohA117 : ∀ k, k < 117 → okHeadAll k := lt_s ohA116 oh116
theorem orA118 : ∀ k, k < 118 → okRowsAll k := lt_s orA117 or117
theorem ohA118 : ∀ k, k < 118 → okHeadAll k := lt_s ohA117 oh117
theorem orA119 : ∀ k, k < 119 → okRowsAll k := lt_s orA118 or118
theorem ohA119 : ∀ k, k < 119 → okHeadAll k := lt_s ohA118 oh118
theorem orA120 : ∀ k, k < 120 → okRowsAll k := lt_s orA119 or119
theorem ohA120 : ∀ k, k < 120 → okHeadAll k := lt_s ohA119 oh119
theorem orA121 : ∀ k, k < 121 → okRowsAll k := lt_s orA120 or120
theorem ohA121 : ∀ k, k < 121 → okHeadAll k := lt_s ohA120 oh120
theorem orA122 : ∀ k, k < 122 → okRowsAll k := lt_s orA121 or121
theorem ohA122 : ∀ k, k < 122 → okHeadAll k := lt_s ohA121 oh121
theorem orA123 : ∀ k, k < 123 → okRowsAll k := lt_s orA122 or122
theorem ohA123 : ∀ k, k < 123 → okHeadAll k := lt_s ohA122 oh122
theorem orA124 : ∀ k, k < 124 → okRowsAll k := lt_s orA123 or123
theorem ohA124 : ∀ k, k < 124 → okHeadAll k := lt_s ohA123 oh123
theorem orA125 : ∀ k, k < 125 → okRowsAll k := lt_s orA124 or124
theorem ohA125 : ∀ k, k < 125 → okHeadAll k := lt_s ohA124 oh124
theorem orA126 : ∀ k, k < 126 → okRowsAll k := lt_s orA125 or125
theorem ohA126 : ∀ k, k < 126 → okHeadAll k := lt_s ohA125 oh125
theorem orA127 : ∀ k, k < 127 → okRowsAll k := lt_s orA126 or126
theorem ohA127 : ∀ k, k < 127 → okHeadAll k := lt_s ohA126 oh126
theorem orA128 : ∀ k, k < 128 → okRowsAll k := lt_s orA127 or127
theorem ohA128 : ∀ k, k < 128 → okHeadAll k := lt_s ohA127 oh127
theorem orA129 : ∀ k, k < 129 → okRowsAll k := lt_s orA128 or128
theorem ohA129 : ∀ k, k < 129 → okHeadAll k := lt_s ohA128 oh128
theorem orA130 : ∀ k, k < 130 → okRowsAll k := lt_s orA129 or129
theorem ohA130 : ∀ k, k < 130 → okHeadAll k := lt_s ohA129 oh129
theorem orA131 : ∀ k, k < 131 → okRowsAll k := lt_s orA130 or130
theorem ohA131 : ∀ k, k < 131 → okHeadAll k := lt_s ohA130 oh130
theorem orA132 : ∀ k, k < 132 → okRowsAll k := lt_s orA131 or131
theorem ohA132 : ∀ k, k < 132 → okHeadAll k := lt_s ohA131 oh131
theorem orA133 : ∀ k, k < 133 → okRowsAll k := lt_s orA132 or132
theorem ohA133 : ∀ k, k < 133 → okHeadAll k := lt_s ohA132 oh132
theorem orA134 : ∀ k, k < 134 → okRowsAll k := lt_s orA133 or133
theorem ohA134 : ∀ k, k < 134 → okHeadAll k := lt_s ohA133 oh133
theorem orA135 : ∀ k, k < 135 → okRowsAll k := lt_s orA134 or134
theorem ohA135 : ∀ k, k < 135 → okHeadAll k := lt_s ohA134 oh134
theorem orA136 : ∀ k, k < 136 → okRowsAll k := lt_s orA135 or135
theorem ohA136 : ∀ k, k < 136 → okHeadAll k := lt_s ohA135 oh135
theorem orA137 : ∀ k, k < 137 → okRowsAll k := lt_s orA136 or136
theorem ohA137 : ∀ k, k < 137 → okHeadAll k := lt_s ohA136 oh136
theorem orA138 : ∀ k, k < 138 → okRowsAll k := lt_s orA137 or137
theorem ohA138 : ∀ k, k < 138 → okHeadAll k := lt_s ohA137 oh137
theorem orA139 : ∀ k, k < 139 → okRowsAll k := lt_s orA138 or138
theorem ohA139 : ∀ k, k < 139 → okHeadAll k := lt_s ohA138 oh138
theorem orA140 : ∀ k, k < 140 → okRowsAll k := lt_s orA139 or139
theorem ohA140 : ∀ k, k < 140 → okHeadAll k := lt_s ohA139 oh139
theorem orA141 : ∀ k, k < 141 → okRowsAll k := lt_s orA140 or140
theorem ohA141 : ∀ k, k < 141 → okHeadAll k := lt_s ohA140 oh140
theorem orA142 : ∀ k, k < 142 → okRowsAll k := lt_s orA141 or141
theorem ohA142 : ∀ k, k < 142 → okHeadAll k := lt_s ohA141 oh141
theorem orA143 : ∀ k, k < 143 → okRowsAll k := lt_s orA142 or142
theorem ohA143 : ∀ k, k < 143 → okHeadAll k := lt_s ohA142 oh142
theorem orA144 : ∀ k, k < 144 → okRowsAll k := lt_s orA143 or143
theorem ohA144 : ∀ k, k < 144 → okHeadAll k := lt_s ohA143 oh143
theorem orA145 : ∀ k, k < 145 → okRowsAll k := lt_s orA144 or144
theorem ohA145 : ∀ k, k < 145 → okHeadAll k := lt_s ohA144 oh144
theorem orA146 : ∀ k, k < 146 → okRowsAll k := lt_s orA145 or145
theorem ohA146 : ∀ k, k < 146 → okHeadAll k := lt_s ohA145 oh145
theorem orA147 : ∀ k, k < 147 → okRowsAll k := lt_s orA146 or146
theorem ohA147 : ∀ k, k < 147 → okHeadAll k := lt_s ohA146 oh146
theorem orA148 : ∀ k, k < 148 → okRowsAll k := lt_s orA147 or147
theorem ohA148 : ∀ k, k < 148 → okHeadAll k := lt_s ohA147 oh147
theorem orA149 : ∀ k, k < 149 → okRowsAll k := lt_s orA148 or148
theorem ohA149 : ∀ k, k < 149 → okHeadAll k := lt_s ohA148 oh148
theorem orA150 : ∀ k, k < 150 → okRowsAll k := lt_s orA149 or149
theorem ohA150 : ∀ k, k < 150 → okHeadAll k := lt_s ohA149 oh149
theorem orA151 : ∀ k, k < 151 → okRowsAll k := lt_s orA150 or150
theorem ohA151 : ∀ k, k < 151 → okHeadAll k := lt_s ohA150 oh150
theorem orA152 : ∀ k, k < 152 → okRowsAll k := lt_s orA151 or151
theorem ohA152 : ∀ k, k < 152 → okHeadAll k := lt_s ohA151 oh151
theorem orA153 : ∀ k, k < 153 → okRowsAll k := lt_s orA152 or152
theorem ohA153 : ∀ k, k < 153 → okHeadAll k := lt_s ohA152 oh152
theorem orA154 : ∀ k, k < 154 → okRowsAll k := lt_s orA153 or153
theorem ohA154 : ∀ k, k < 154 → okHeadAll k := lt_s ohA153 oh153
theorem orA155 : ∀ k, k < 155 → okRowsAll k := lt_s orA154 or154
theorem ohA155 : ∀ k, k < 155 → okHeadAll k := lt_s ohA154 oh154
theorem orA156 : ∀ k, k < 156 → okRowsAll k := lt_s orA155 or155
theorem ohA156 : ∀ k, k < 156 → okHeadAll k := lt_s ohA155 oh155
theorem orA157 : ∀ k, k < 157 → okRowsAll k := lt_s orA156 or156
theorem ohA157 : ∀ k, k < 157 → okHeadAll k := lt_s ohA156 oh156
theorem orA158 : ∀ k, k < 158 → okRowsAll k := lt_s orA157 or157
theorem ohA158 : ∀ k, k < 158 → okHeadAll k := lt_s ohA157 oh157
theorem orA159 : ∀ k, k < 159 → okRowsAll k := lt_s orA158 or158
theorem ohA159 : ∀ k, k < 159 → okHeadAll k := lt_s ohA158 oh158
theorem orA160 : ∀ k, k < 160 → okRowsAll k := lt_s orA159 or159
theorem ohA160 : ∀ k, k < 160 → okHeadAll k := lt_s ohA159 oh159
theorem orA161 : ∀ k, k < 161 → okRowsAll k := lt_s orA160 or160
theorem ohA161 : ∀ k, k < 161 → okHeadAll k := lt_s ohA160 oh160
theorem orA162 : ∀ k, k < 162 → okRowsAll k := lt_s orA161 or161
theorem ohA162 : ∀ k, k < 162 → okHeadAll k := lt_s ohA161 oh161
theorem orA163 : ∀ k, k < 163 → okRowsAll k := lt_s orA162 or162
theorem ohA163 : ∀ k, k < 163 → okHeadAll k := lt_s ohA162 oh162
theorem orA164 : ∀ k, k < 164 → okRowsAll k := lt_s orA163 or163
theorem ohA164 : ∀ k, k < 164 → okHeadAll k := lt_s ohA163 oh163
theorem orA165 : ∀ k, k < 165 → okRowsAll k := lt_s orA164 or164
theorem ohA165 : ∀ k, k < 165 → okHeadAll k := lt_s ohA164 oh164
theorem orA166 : ∀ k, k < 166 → okRowsAll k := lt_s orA165 or165
theorem ohA166 : ∀ k, k < 166 → okHeadAll k := lt_s ohA165 oh165
theorem orA167 : ∀ k, k < 167 → okRowsAll k := lt_s orA166 or166
theorem ohA167 : ∀ k, k < 167 → okHeadAll k := lt_s ohA166 oh166
theorem orA168 : ∀ k, k < 168 → okRowsAll k := lt_s orA167 or167
theorem ohA168 : ∀ k, k < 168 → okHeadAll k := lt_s ohA167 oh167
theorem orA169 : ∀ k, k < 169 → okRowsAll k := lt_s orA168 or168
theorem ohA169 : ∀ k, k < 169 → okHeadAll k := lt_s ohA168 oh168
theorem orA170 : ∀ k, k < 170 → okRowsAll k := lt_s orA169 or169
theorem ohA170 : ∀ k, k < 170 → okHeadAll k := lt_s ohA169 oh169
theorem orA171 : ∀ k, k < 171 → okRowsAll k := lt_s orA170 or170
theorem ohA171 : ∀ k, k < 171 → okHeadAll k := lt_s ohA170 oh170
theorem orA172 : ∀ k, k < 172 → okRowsAll k := lt_s orA171 or171
theorem ohA172 : ∀ k, k < 172 → okHeadAll k := lt_s ohA171 oh171
theorem orA173 : ∀ k, k < 173 → okRowsAll k := lt_s orA172 or172
theorem ohA173 : ∀ k, k < 173 → okHeadAll k := lt_s ohA172 oh172
theorem orA174 : ∀ k, k < 174 → okRowsAll k := lt_s orA173 or173
theorem ohA174 : ∀ k, k < 174 → okHeadAll k := lt_s ohA173 oh173
theorem orA175 : ∀ k, k < 175 → okRowsAll k := lt_s orA174 or174
theorem ohA175 : ∀ k, k < 175 → okHeadAll k := lt_s ohA174 oh174
theorem orA176 : ∀ k, k < 176 → okRowsAll k := lt_s orA175 or175
theorem ohA176 : ∀ k, k < 176 → okHeadAll k := lt_s ohA175 oh175
theorem orA177 : ∀ k, k < 177 → okRowsAll k := lt_s orA176 or176
theorem ohA177 : ∀ k, k < 177 → okHeadAll k := lt_s ohA176 oh176
theorem orA178 : ∀ k, k < 178 → okRowsAll k := lt_s orA177 or177
theorem ohA178 : ∀ k, k < 178 → okHeadAll k := lt_s ohA177 oh177
theorem orA179 : ∀ k, k < 179 → okRowsAll k := lt_s orA178 or178
theorem ohA179 : ∀ k, k < 179 → okHeadAll k := lt_s ohA178 oh178
theorem orA180 : ∀ k, k < 180 → okRowsAll k := lt_s orA179 or179
theorem ohA180 : ∀ k, k < 180 → okHeadAll k := lt_s ohA179 oh179
theorem orA181 : ∀ k, k < 181 → okRowsAll k := lt_s orA180 or180
theorem ohA181 : ∀ k, k < 181 → okHeadAll k := lt_s ohA180 oh180
theorem orA182 : ∀ k, k < 182 → okRowsAll k := lt_s orA181 or181
theorem ohA182 : ∀ k, k < 182 → okHeadAll k := lt_s ohA181 oh181
theorem orA183 : ∀ k, k < 183 → okRowsAll k := lt_s orA182 or182
theorem ohA183 : ∀ k, k < 183 → okHeadAll k := lt_s ohA182 oh182
theorem orA184 : ∀ k, k < 184 → okRowsAll k := lt_s orA183 or183
theorem ohA184 : ∀ k, k < 184 → okHeadAll k := lt_s ohA183 oh183
theorem orA185 : ∀ k, k < 185 → okRowsAll k := lt_s orA184 or184
end
section
theorem law_ok : LawOK := sorry
end
section
theorem whole_start {p : Program} {e : Env} {s : State} {m : MethodId} {below : List Frame} {meth : Method} {c : Code} (l : Launch) (hflags : l.flags = flags0) {b L : Nat} {xs : Nat → Int32} (hL : L ≤ 256) (C0 : lw_At p s m meth c b L xs) : W p l e room_1 s m #[Value.ref b] below meth c s.heap [] 0 0 (lw_Z below #[Value.ref b] s) (entryFrame m ([Value.ref b] : List Value).toArray 4) := by
  exact start_of l hL C0 law_ok orA185 ohA184
-- ===== YOUR PART ENDS =====
set_option maxHeartbeats 4000000 in
theorem lw_walk (l : Launch) (hflags : l.flags = flags0) (b : Addr) (xs : List Int32) : MetFree l x (headSpec (Jvm.Cond.code x code maxLocals ret :: tables_1) room_1) (lw_P b xs) (fun _ _ _ _ _ => True) lw_Q := by
  refine MetFree.of_bodyS (code := code) (maxLocals := maxLocals) (ret := ret) (by decide) ?_ ?_
  · intro args s m h hn
    obtain ⟨meth, c, h1, h2, h3, h4, h5, h6, -, -⟩ := Cond.code_spec hn (atoms_spec (ws := Jvm.Cond.code x code maxLocals ret :: tables_1) h _ List.mem_cons_self)
    exact ⟨meth, c, h1, h2, h3, h4, h5, h6⟩
  · intro p e s m args below meth c s₁ B hml0 hP _
    obtain ⟨rfl, hx, hbd, hgv⟩ := hP
    obtain ⟨scr, harrAt, hlist, hof, hsmall⟩ := hx
    obtain ⟨hcb, hkn, -, -⟩ := State.arrayAt?_spec harrAt
    have hown : s.vm.findClass R_law = some m.cls := findClass_of_methodNamed B.named
    have hts0 : ∀ c ∈ (Jvm.Cond.code x code maxLocals ret :: tables_1), c.before #[Value.ref b] s = true := atoms_spec (ws := Jvm.Cond.code x code maxLocals ret :: tables_1) B.pre
    have hts : ∀ w ∈ lw_tbl, w.before #[Value.ref b] s = true := k2_hts_sels lw_privs (fun w hw => hts0 w (List.mem_cons_of_mem _ hw)) lw_privs_ok
    have hml : c.maxLocals = 4 := B.maxLocals_eq (hts0 _ List.mem_cons_self)
    have X₀ : Stand p l e room_1 s m #[Value.ref b] below meth c s₁ [] 0 0 := Stand.of_body B
    have hh0 : s₁.heap = s.heap := by rw [B.state]; rfl
    have hsz : scr.slots.size = xs.length := by rw [← Array.length_toList, hlist, List.length_map]
    have hval : ∀ j : Nat, j < xs.length → scr.slots[j]? = some (.int (xs.getD j 0)) := fun j hj => by
      rw [← Array.getElem?_toList, hlist]
      simp [hj]
    have hbl : b < s.heap.size := (Array.getElem?_eq_some_iff.mp hcb).1
    have hX : va_X b xs.length (fun j => xs.getD j 0) s s.heap := ⟨scr, hcb, hof, hkn, hsz, hval⟩
    have K : W p l e room_1 s m #[Value.ref b] below meth c s₁.heap [] 0 0 (lw_Z below #[Value.ref b] s) (entryFrame m ([Value.ref b] : List Value).toArray 4) := by
      rw [hh0]
      exact whole_start l hflags hbd ⟨B.exec, B.bytes, B.returns, hml, hown, hts, hX, hbl, B.notSynchronized, hgv⟩
    obtain ⟨t, a1, o, b1, b2, b3⟩ := K s₁ rfl X₀
    exact ⟨t, o, a1, b1, b2, b3⟩
theorem lw_pre_spec {args : Array Value} {s : State} (h : (Jvm.Cond.and given_1 narrow_1).before args s = true) (hr : rest_1_c.before args s = true) : ∃ (b : Addr) (xs : List Int32), lw_P b xs args s := by
  have hs := flat_of_before _ h
  have hq := flat_of_before _ hr
  have hc : (Cond.count 1).before args s = true := hs _ (by decide +kernel)
  have harr : (Cond.arrayOf (.arg 0) .int).before args s = true := hs _ (by decide +kernel)
  have hle : (Cond.le (.length (.arg 0)) (.int 256)).before args s = true := hs _ (by decide +kernel)
  have hlen : (Cond.isInt (.length (.arg 0))).before args s = true := hq _ (by decide +kernel)
  have hall : (Cond.all (.arg 0) (.isInt (.elem (.arg 0) (.index 0)))).before args s = true := hq _ (by decide +kernel)
  obtain ⟨b, xs, hb, hx⟩ := State.ints_of_pre rfl harr hlen hall
  have hsm : xs.length < 2 ^ 31 := hx.choose_spec.2.2.2
  have hev : (Term.length (.arg 0)).eval args s none [] s = some (.int xs.length.toInt32) := hx.length_eval hb
  have hv := Cond.le_ints hev (show (Term.int 256).eval args s none [] s = some (.int 256) from rfl)
  have hd : xs.length.toInt32 ≤ 256 := by
    simpa [Cond.before, Cond.holds, hv] using hle
  have hN : xs.length ≤ 256 := (Int32.ofNat_le_ofNat hsm (by decide)).mp (show Int32.ofNat xs.length ≤ Int32.ofNat 256 from hd)
  exact ⟨b, xs, Cond.one_arg hc (show args[0]? = some (.ref b) from hb), hx, hN, h⟩
theorem lw_comes (l : Launch) (hflags : l.flags = flags0) : Comes l x (Jvm.Cond.code x code maxLocals ret :: tables_1) room_1 (fun tb e args s => Calls_1 tb e args s ∧ rest_1 tb e args s ∧ Pre_1 tb e args s)
    (fun _ _ args s o t => lw_Q args s o t) := by
  intro p e ha hc hk s m args below hf hfit hheap happ hpre
  obtain ⟨b, xs, hP⟩ := lw_pre_spec hpre.2.2 hpre.2.1
  obtain ⟨k, o, h1, h2, h3, hQ⟩ := lw_walk l hflags b xs p e ha hc hk s m args below hf ((Spec.applies_iff_loose hf).mp happ).1 hP trivial
  exact ⟨k, o, h1, h2, h3, hQ⟩
theorem lw_frame {s t : State} {o : Outcome} {args : Array Value} (h : Framed s o t [] 600000 7302250) :
    Framed s o t (fieldLocs frame_1_writes args s ++ arrayLocs frame_1_arrays args s ++ staticLocs frame_1_statics s) 600000 7302250 := h
theorem lw_limb (L : Cond) (hL : ∀ (args : Array Value) (s t : State), L.after args s (.returned (some (.int 1))) t = true) :
    ArmFor flags0 classFile x code maxLocals ret World_1 tables_1 room_1 Calls_1 rest_1 Pre_1
      (fun tb e a s o t => postC L tb e a s o t ∧ Framed s o t (fieldLocs frame_1_writes a s ++ arrayLocs frame_1_arrays a s ++ staticLocs frame_1_statics s) 600000 7302250) := by
  intro l hflags _ _ p e ha hc hk s m args below hf hfit hheap happ hpre
  obtain ⟨k, o, h1, h2, h3, rfl, hF⟩ := lw_comes l hflags p e ha hc hk s m args below hf hfit hheap happ hpre
  exact ⟨k, _, h1, h2, h3, hL args s _, lw_frame hF⟩
theorem i_vc : Claimed_1_1 ∧ Claimed_1_2 := ⟨lw_limb limb_1_1 (fun args s t => by simp [limb_1_1, Cond.after, Cond.holds, Cond.value]), lw_limb limb_1_2 (fun args s t => Cond.after_iff.mpr (by
  first | (rw [show limb_1_2 = Cond.eq .result (.int 1) from rfl, Cond.eq_ints (x := 1) (y := 1) rfl rfl]; simp; done) | (simp [limb_1_2, Cond.value, Term.eval]; done)))⟩
end
