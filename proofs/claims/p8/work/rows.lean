section
-- ===== PART A: goes FIRST, ahead of the names: the tables' words, and 'selects' of the private methods out of them =====
/-- a private method of a class that the tables say can be made, by its rows of tables_1 -/
def lw_okq (q : MethodName × Nat) : Prop := (q.1.cls ≠ "java/lang/invoke/MethodHandle" ∧ q.1.cls ≠ "java/lang/invoke/VarHandle") ∧ Cond.instantiable q.1.cls q.2 ∈ tables_1 ∧ Cond.privateMethod q.1 ∈ tables_1 ∧ Cond.instanceMethod q.1 ∈ tables_1
theorem lw_p0 : lw_okq (⟨"java/lang/Throwable", "fillInStackTrace", "(I)Ljava/lang/Throwable;"⟩, 6) := ⟨⟨by decide +kernel, by decide +kernel⟩, List.mem_of_getElem? (i := 259) (by decide +kernel), List.mem_of_getElem? (i := 257) (by decide +kernel), List.mem_of_getElem? (i := 258) (by decide +kernel)⟩
theorem lw_p1 : lw_okq (⟨"CrossbarNet", "lineOf", "(II)LCrossbarNet$Line;"⟩, 5) := ⟨⟨by decide +kernel, by decide +kernel⟩, List.mem_of_getElem? (i := 17) (by decide +kernel), List.mem_of_getElem? (i := 423) (by decide +kernel), List.mem_of_getElem? (i := 424) (by decide +kernel)⟩
theorem lw_p2 : lw_okq (⟨"CrossbarNet", "askForRegister", "(LCrossbarNet$Office;LCrossbarNet$Line;)V"⟩, 5) := ⟨⟨by decide +kernel, by decide +kernel⟩, List.mem_of_getElem? (i := 17) (by decide +kernel), List.mem_of_getElem? (i := 427) (by decide +kernel), List.mem_of_getElem? (i := 428) (by decide +kernel)⟩
theorem lw_p3 : lw_okq (⟨"CrossbarNet", "beginCall", "(LCrossbarNet$Office;LCrossbarNet$Line;I)V"⟩, 5) := ⟨⟨by decide +kernel, by decide +kernel⟩, List.mem_of_getElem? (i := 17) (by decide +kernel), List.mem_of_getElem? (i := 435) (by decide +kernel), List.mem_of_getElem? (i := 436) (by decide +kernel)⟩
theorem lw_p4 : lw_okq (⟨"CrossbarNet", "seize", "(LCrossbarNet$Call;I)V"⟩, 5) := ⟨⟨by decide +kernel, by decide +kernel⟩, List.mem_of_getElem? (i := 17) (by decide +kernel), List.mem_of_getElem? (i := 457) (by decide +kernel), List.mem_of_getElem? (i := 458) (by decide +kernel)⟩
theorem lw_p5 : lw_okq (⟨"CrossbarNet", "setHolder", "(ILCrossbarNet$Call;)V"⟩, 5) := ⟨⟨by decide +kernel, by decide +kernel⟩, List.mem_of_getElem? (i := 17) (by decide +kernel), List.mem_of_getElem? (i := 461) (by decide +kernel), List.mem_of_getElem? (i := 462) (by decide +kernel)⟩
theorem lw_p6 : lw_okq (⟨"CrossbarNet", "answer", "(LCrossbarNet$Call;)V"⟩, 5) := ⟨⟨by decide +kernel, by decide +kernel⟩, List.mem_of_getElem? (i := 17) (by decide +kernel), List.mem_of_getElem? (i := 465) (by decide +kernel), List.mem_of_getElem? (i := 466) (by decide +kernel)⟩
theorem lw_p7 : lw_okq (⟨"CrossbarNet", "charge", "(LCrossbarNet$Call;)V"⟩, 5) := ⟨⟨by decide +kernel, by decide +kernel⟩, List.mem_of_getElem? (i := 17) (by decide +kernel), List.mem_of_getElem? (i := 473) (by decide +kernel), List.mem_of_getElem? (i := 474) (by decide +kernel)⟩
theorem lw_p8 : lw_okq (⟨"CrossbarNet", "end", "(LCrossbarNet$Call;I)V"⟩, 5) := ⟨⟨by decide +kernel, by decide +kernel⟩, List.mem_of_getElem? (i := 17) (by decide +kernel), List.mem_of_getElem? (i := 492) (by decide +kernel), List.mem_of_getElem? (i := 493) (by decide +kernel)⟩
theorem lw_p9 : lw_okq (⟨"CrossbarNet", "takeDigit", "(LCrossbarNet$Office;LCrossbarNet$Call;I)V"⟩, 5) := ⟨⟨by decide +kernel, by decide +kernel⟩, List.mem_of_getElem? (i := 17) (by decide +kernel), List.mem_of_getElem? (i := 517) (by decide +kernel), List.mem_of_getElem? (i := 518) (by decide +kernel)⟩
theorem lw_p10 : lw_okq (⟨"CrossbarNet", "makeJob", "(LCrossbarNet$Office;LCrossbarNet$Call;)V"⟩, 5) := ⟨⟨by decide +kernel, by decide +kernel⟩, List.mem_of_getElem? (i := 17) (by decide +kernel), List.mem_of_getElem? (i := 530) (by decide +kernel), List.mem_of_getElem? (i := 531) (by decide +kernel)⟩
theorem lw_p11 : lw_okq (⟨"CrossbarNet", "doOldestJob", "(LCrossbarNet$Office;)V"⟩, 5) := ⟨⟨by decide +kernel, by decide +kernel⟩, List.mem_of_getElem? (i := 17) (by decide +kernel), List.mem_of_getElem? (i := 543) (by decide +kernel), List.mem_of_getElem? (i := 544) (by decide +kernel)⟩
theorem lw_p12 : lw_okq (⟨"CrossbarNet", "callLine", "(LCrossbarNet$Office;LCrossbarNet$Call;I)V"⟩, 5) := ⟨⟨by decide +kernel, by decide +kernel⟩, List.mem_of_getElem? (i := 17) (by decide +kernel), List.mem_of_getElem? (i := 552) (by decide +kernel), List.mem_of_getElem? (i := 553) (by decide +kernel)⟩
theorem lw_p13 : lw_okq (⟨"CrossbarNet$Office", "firstFree", "(LCrossbarNet$Row;I)I"⟩, 9) := ⟨⟨by decide +kernel, by decide +kernel⟩, List.mem_of_getElem? (i := 32) (by decide +kernel), List.mem_of_getElem? (i := 561) (by decide +kernel), List.mem_of_getElem? (i := 562) (by decide +kernel)⟩
theorem lw_p14 : lw_okq (⟨"CrossbarNet", "seizeWayWithin", "(LCrossbarNet$Office;LCrossbarNet$Call;LCrossbarNet$Line;)Z"⟩, 5) := ⟨⟨by decide +kernel, by decide +kernel⟩, List.mem_of_getElem? (i := 17) (by decide +kernel), List.mem_of_getElem? (i := 572) (by decide +kernel), List.mem_of_getElem? (i := 573) (by decide +kernel)⟩
theorem lw_p15 : lw_okq (⟨"CrossbarNet", "seizeLink", "(LCrossbarNet$Office;LCrossbarNet$Call;I)Z"⟩, 5) := ⟨⟨by decide +kernel, by decide +kernel⟩, List.mem_of_getElem? (i := 17) (by decide +kernel), List.mem_of_getElem? (i := 584) (by decide +kernel), List.mem_of_getElem? (i := 585) (by decide +kernel)⟩
def lw_privs_1 : List (MethodName × Nat) := [(⟨"java/lang/Throwable", "fillInStackTrace", "(I)Ljava/lang/Throwable;"⟩, 6), (⟨"CrossbarNet", "lineOf", "(II)LCrossbarNet$Line;"⟩, 5), (⟨"CrossbarNet", "askForRegister", "(LCrossbarNet$Office;LCrossbarNet$Line;)V"⟩, 5), (⟨"CrossbarNet", "beginCall", "(LCrossbarNet$Office;LCrossbarNet$Line;I)V"⟩, 5), (⟨"CrossbarNet", "seize", "(LCrossbarNet$Call;I)V"⟩, 5), (⟨"CrossbarNet", "setHolder", "(ILCrossbarNet$Call;)V"⟩, 5), (⟨"CrossbarNet", "answer", "(LCrossbarNet$Call;)V"⟩, 5), (⟨"CrossbarNet", "charge", "(LCrossbarNet$Call;)V"⟩, 5), (⟨"CrossbarNet", "end", "(LCrossbarNet$Call;I)V"⟩, 5), (⟨"CrossbarNet", "takeDigit", "(LCrossbarNet$Office;LCrossbarNet$Call;I)V"⟩, 5), (⟨"CrossbarNet", "makeJob", "(LCrossbarNet$Office;LCrossbarNet$Call;)V"⟩, 5), (⟨"CrossbarNet", "doOldestJob", "(LCrossbarNet$Office;)V"⟩, 5), (⟨"CrossbarNet", "callLine", "(LCrossbarNet$Office;LCrossbarNet$Call;I)V"⟩, 5), (⟨"CrossbarNet$Office", "firstFree", "(LCrossbarNet$Row;I)I"⟩, 9), (⟨"CrossbarNet", "seizeWayWithin", "(LCrossbarNet$Office;LCrossbarNet$Call;LCrossbarNet$Line;)Z"⟩, 5), (⟨"CrossbarNet", "seizeLink", "(LCrossbarNet$Office;LCrossbarNet$Call;I)Z"⟩, 5)]
theorem lw_r1 : ∀ q ∈ lw_privs_1, lw_okq q := List.forall_mem_cons.mpr ⟨lw_p0, List.forall_mem_cons.mpr ⟨lw_p1, List.forall_mem_cons.mpr ⟨lw_p2, List.forall_mem_cons.mpr ⟨lw_p3, List.forall_mem_cons.mpr ⟨lw_p4, List.forall_mem_cons.mpr ⟨lw_p5, List.forall_mem_cons.mpr ⟨lw_p6, List.forall_mem_cons.mpr ⟨lw_p7, List.forall_mem_cons.mpr ⟨lw_p8, List.forall_mem_cons.mpr ⟨lw_p9, List.forall_mem_cons.mpr ⟨lw_p10, List.forall_mem_cons.mpr ⟨lw_p11, List.forall_mem_cons.mpr ⟨lw_p12, List.forall_mem_cons.mpr ⟨lw_p13, List.forall_mem_cons.mpr ⟨lw_p14, List.forall_mem_cons.mpr ⟨lw_p15, fun _ h => absurd h List.not_mem_nil⟩⟩⟩⟩⟩⟩⟩⟩⟩⟩⟩⟩⟩⟩⟩⟩
theorem lw_p16 : lw_okq (⟨"CrossbarNet", "release", "(LCrossbarNet$Call;I)V"⟩, 5) := ⟨⟨by decide +kernel, by decide +kernel⟩, List.mem_of_getElem? (i := 17) (by decide +kernel), List.mem_of_getElem? (i := 588) (by decide +kernel), List.mem_of_getElem? (i := 589) (by decide +kernel)⟩
theorem lw_p17 : lw_okq (⟨"CrossbarNet", "sendOnward", "(LCrossbarNet$Office;LCrossbarNet$Call;LCrossbarNet$Route;)V"⟩, 5) := ⟨⟨by decide +kernel, by decide +kernel⟩, List.mem_of_getElem? (i := 17) (by decide +kernel), List.mem_of_getElem? (i := 592) (by decide +kernel), List.mem_of_getElem? (i := 593) (by decide +kernel)⟩
theorem lw_p18 : lw_okq (⟨"CrossbarNet", "seizeOnward", "(LCrossbarNet$Office;LCrossbarNet$Call;LCrossbarNet$Office;)Z"⟩, 5) := ⟨⟨by decide +kernel, by decide +kernel⟩, List.mem_of_getElem? (i := 17) (by decide +kernel), List.mem_of_getElem? (i := 600) (by decide +kernel), List.mem_of_getElem? (i := 601) (by decide +kernel)⟩
theorem lw_p19 : lw_okq (⟨"CrossbarNet", "firstIdleTrunk", "(II)I"⟩, 5) := ⟨⟨by decide +kernel, by decide +kernel⟩, List.mem_of_getElem? (i := 17) (by decide +kernel), List.mem_of_getElem? (i := 604) (by decide +kernel), List.mem_of_getElem? (i := 605) (by decide +kernel)⟩
theorem lw_p20 : lw_okq (⟨"CrossbarNet", "sendDigits", "()V"⟩, 5) := ⟨⟨by decide +kernel, by decide +kernel⟩, List.mem_of_getElem? (i := 17) (by decide +kernel), List.mem_of_getElem? (i := 620) (by decide +kernel), List.mem_of_getElem? (i := 621) (by decide +kernel)⟩
theorem lw_p21 : lw_okq (⟨"CrossbarNet", "sendDigit", "(LCrossbarNet$Call;)V"⟩, 5) := ⟨⟨by decide +kernel, by decide +kernel⟩, List.mem_of_getElem? (i := 17) (by decide +kernel), List.mem_of_getElem? (i := 624) (by decide +kernel), List.mem_of_getElem? (i := 625) (by decide +kernel)⟩
theorem lw_p22 : lw_okq (⟨"CrossbarNet", "letTimePass", "()V"⟩, 5) := ⟨⟨by decide +kernel, by decide +kernel⟩, List.mem_of_getElem? (i := 17) (by decide +kernel), List.mem_of_getElem? (i := 628) (by decide +kernel), List.mem_of_getElem? (i := 629) (by decide +kernel)⟩
theorem lw_p23 : lw_okq (⟨"CrossbarNet", "waitForDigit", "(LCrossbarNet$Call;)V"⟩, 5) := ⟨⟨by decide +kernel, by decide +kernel⟩, List.mem_of_getElem? (i := 17) (by decide +kernel), List.mem_of_getElem? (i := 632) (by decide +kernel), List.mem_of_getElem? (i := 633) (by decide +kernel)⟩
theorem lw_p24 : lw_okq (⟨"CrossbarNet", "spendTalkTick", "(LCrossbarNet$Call;)V"⟩, 5) := ⟨⟨by decide +kernel, by decide +kernel⟩, List.mem_of_getElem? (i := 17) (by decide +kernel), List.mem_of_getElem? (i := 636) (by decide +kernel), List.mem_of_getElem? (i := 637) (by decide +kernel)⟩
theorem lw_p25 : lw_okq (⟨"CrossbarNet", "giveRegisters", "()V"⟩, 5) := ⟨⟨by decide +kernel, by decide +kernel⟩, List.mem_of_getElem? (i := 17) (by decide +kernel), List.mem_of_getElem? (i := 648) (by decide +kernel), List.mem_of_getElem? (i := 649) (by decide +kernel)⟩
theorem lw_p26 : lw_okq (⟨"CrossbarNet", "countIdleTrunks", "(I)I"⟩, 5) := ⟨⟨by decide +kernel, by decide +kernel⟩, List.mem_of_getElem? (i := 17) (by decide +kernel), List.mem_of_getElem? (i := 712) (by decide +kernel), List.mem_of_getElem? (i := 713) (by decide +kernel)⟩
theorem lw_p27 : lw_okq (⟨"CrossbarNetModel", "refused", "(I)Z"⟩, 49) := ⟨⟨by decide +kernel, by decide +kernel⟩, List.mem_of_getElem? (i := 723) (by decide +kernel), List.mem_of_getElem? (i := 889) (by decide +kernel), List.mem_of_getElem? (i := 890) (by decide +kernel)⟩
theorem lw_p28 : lw_okq (⟨"CrossbarNetModel", "idleRegister", "(I)I"⟩, 49) := ⟨⟨by decide +kernel, by decide +kernel⟩, List.mem_of_getElem? (i := 723) (by decide +kernel), List.mem_of_getElem? (i := 914) (by decide +kernel), List.mem_of_getElem? (i := 915) (by decide +kernel)⟩
theorem lw_p29 : lw_okq (⟨"CrossbarNetModel", "doesWait", "(I)Z"⟩, 49) := ⟨⟨by decide +kernel, by decide +kernel⟩, List.mem_of_getElem? (i := 723) (by decide +kernel), List.mem_of_getElem? (i := 918) (by decide +kernel), List.mem_of_getElem? (i := 919) (by decide +kernel)⟩
theorem lw_p30 : lw_okq (⟨"CrossbarNetModel", "begin", "(I)V"⟩, 49) := ⟨⟨by decide +kernel, by decide +kernel⟩, List.mem_of_getElem? (i := 723) (by decide +kernel), List.mem_of_getElem? (i := 922) (by decide +kernel), List.mem_of_getElem? (i := 923) (by decide +kernel)⟩
theorem lw_p31 : lw_okq (⟨"CrossbarNetModel", "seize", "(II)V"⟩, 49) := ⟨⟨by decide +kernel, by decide +kernel⟩, List.mem_of_getElem? (i := 723) (by decide +kernel), List.mem_of_getElem? (i := 926) (by decide +kernel), List.mem_of_getElem? (i := 927) (by decide +kernel)⟩
def lw_privs_2 : List (MethodName × Nat) := [(⟨"CrossbarNet", "release", "(LCrossbarNet$Call;I)V"⟩, 5), (⟨"CrossbarNet", "sendOnward", "(LCrossbarNet$Office;LCrossbarNet$Call;LCrossbarNet$Route;)V"⟩, 5), (⟨"CrossbarNet", "seizeOnward", "(LCrossbarNet$Office;LCrossbarNet$Call;LCrossbarNet$Office;)Z"⟩, 5), (⟨"CrossbarNet", "firstIdleTrunk", "(II)I"⟩, 5), (⟨"CrossbarNet", "sendDigits", "()V"⟩, 5), (⟨"CrossbarNet", "sendDigit", "(LCrossbarNet$Call;)V"⟩, 5), (⟨"CrossbarNet", "letTimePass", "()V"⟩, 5), (⟨"CrossbarNet", "waitForDigit", "(LCrossbarNet$Call;)V"⟩, 5), (⟨"CrossbarNet", "spendTalkTick", "(LCrossbarNet$Call;)V"⟩, 5), (⟨"CrossbarNet", "giveRegisters", "()V"⟩, 5), (⟨"CrossbarNet", "countIdleTrunks", "(I)I"⟩, 5), (⟨"CrossbarNetModel", "refused", "(I)Z"⟩, 49), (⟨"CrossbarNetModel", "idleRegister", "(I)I"⟩, 49), (⟨"CrossbarNetModel", "doesWait", "(I)Z"⟩, 49), (⟨"CrossbarNetModel", "begin", "(I)V"⟩, 49), (⟨"CrossbarNetModel", "seize", "(II)V"⟩, 49)]
theorem lw_r2 : ∀ q ∈ lw_privs_2, lw_okq q := List.forall_mem_cons.mpr ⟨lw_p16, List.forall_mem_cons.mpr ⟨lw_p17, List.forall_mem_cons.mpr ⟨lw_p18, List.forall_mem_cons.mpr ⟨lw_p19, List.forall_mem_cons.mpr ⟨lw_p20, List.forall_mem_cons.mpr ⟨lw_p21, List.forall_mem_cons.mpr ⟨lw_p22, List.forall_mem_cons.mpr ⟨lw_p23, List.forall_mem_cons.mpr ⟨lw_p24, List.forall_mem_cons.mpr ⟨lw_p25, List.forall_mem_cons.mpr ⟨lw_p26, List.forall_mem_cons.mpr ⟨lw_p27, List.forall_mem_cons.mpr ⟨lw_p28, List.forall_mem_cons.mpr ⟨lw_p29, List.forall_mem_cons.mpr ⟨lw_p30, List.forall_mem_cons.mpr ⟨lw_p31, fun _ h => absurd h List.not_mem_nil⟩⟩⟩⟩⟩⟩⟩⟩⟩⟩⟩⟩⟩⟩⟩⟩
theorem lw_p32 : lw_okq (⟨"CrossbarNetModel", "give", "(II)V"⟩, 49) := ⟨⟨by decide +kernel, by decide +kernel⟩, List.mem_of_getElem? (i := 723) (by decide +kernel), List.mem_of_getElem? (i := 930) (by decide +kernel), List.mem_of_getElem? (i := 931) (by decide +kernel)⟩
theorem lw_p33 : lw_okq (⟨"CrossbarNetModel", "over", "(II)V"⟩, 49) := ⟨⟨by decide +kernel, by decide +kernel⟩, List.mem_of_getElem? (i := 723) (by decide +kernel), List.mem_of_getElem? (i := 938) (by decide +kernel), List.mem_of_getElem? (i := 939) (by decide +kernel)⟩
theorem lw_p34 : lw_okq (⟨"CrossbarNetModel", "end", "(I)V"⟩, 49) := ⟨⟨by decide +kernel, by decide +kernel⟩, List.mem_of_getElem? (i := 723) (by decide +kernel), List.mem_of_getElem? (i := 942) (by decide +kernel), List.mem_of_getElem? (i := 943) (by decide +kernel)⟩
theorem lw_p35 : lw_okq (⟨"CrossbarNetModel", "release", "(II)V"⟩, 49) := ⟨⟨by decide +kernel, by decide +kernel⟩, List.mem_of_getElem? (i := 723) (by decide +kernel), List.mem_of_getElem? (i := 946) (by decide +kernel), List.mem_of_getElem? (i := 947) (by decide +kernel)⟩
theorem lw_p36 : lw_okq (⟨"CrossbarNetModel", "dropJob", "(I)V"⟩, 49) := ⟨⟨by decide +kernel, by decide +kernel⟩, List.mem_of_getElem? (i := 723) (by decide +kernel), List.mem_of_getElem? (i := 950) (by decide +kernel), List.mem_of_getElem? (i := 951) (by decide +kernel)⟩
theorem lw_p37 : lw_okq (⟨"CrossbarNetModel", "prefixFor", "(II)I"⟩, 49) := ⟨⟨by decide +kernel, by decide +kernel⟩, List.mem_of_getElem? (i := 723) (by decide +kernel), List.mem_of_getElem? (i := 958) (by decide +kernel), List.mem_of_getElem? (i := 959) (by decide +kernel)⟩
theorem lw_p38 : lw_okq (⟨"CrossbarNetModel", "fits", "(II)Z"⟩, 49) := ⟨⟨by decide +kernel, by decide +kernel⟩, List.mem_of_getElem? (i := 723) (by decide +kernel), List.mem_of_getElem? (i := 962) (by decide +kernel), List.mem_of_getElem? (i := 963) (by decide +kernel)⟩
theorem lw_p39 : lw_okq (⟨"CrossbarNetModel", "mayBecome", "(II)Z"⟩, 49) := ⟨⟨by decide +kernel, by decide +kernel⟩, List.mem_of_getElem? (i := 723) (by decide +kernel), List.mem_of_getElem? (i := 966) (by decide +kernel), List.mem_of_getElem? (i := 967) (by decide +kernel)⟩
theorem lw_p40 : lw_okq (⟨"CrossbarNetModel", "fail", "(II)V"⟩, 49) := ⟨⟨by decide +kernel, by decide +kernel⟩, List.mem_of_getElem? (i := 723) (by decide +kernel), List.mem_of_getElem? (i := 970) (by decide +kernel), List.mem_of_getElem? (i := 971) (by decide +kernel)⟩
theorem lw_p41 : lw_okq (⟨"CrossbarNetModel", "addJob", "(II)V"⟩, 49) := ⟨⟨by decide +kernel, by decide +kernel⟩, List.mem_of_getElem? (i := 723) (by decide +kernel), List.mem_of_getElem? (i := 974) (by decide +kernel), List.mem_of_getElem? (i := 975) (by decide +kernel)⟩
theorem lw_p42 : lw_okq (⟨"CrossbarNetModel", "one", "()V"⟩, 49) := ⟨⟨by decide +kernel, by decide +kernel⟩, List.mem_of_getElem? (i := 723) (by decide +kernel), List.mem_of_getElem? (i := 982) (by decide +kernel), List.mem_of_getElem? (i := 983) (by decide +kernel)⟩
theorem lw_p43 : lw_okq (⟨"CrossbarNetModel", "doJob", "(I)V"⟩, 49) := ⟨⟨by decide +kernel, by decide +kernel⟩, List.mem_of_getElem? (i := 723) (by decide +kernel), List.mem_of_getElem? (i := 986) (by decide +kernel), List.mem_of_getElem? (i := 987) (by decide +kernel)⟩
theorem lw_p44 : lw_okq (⟨"CrossbarNetModel", "complete", "(III)V"⟩, 49) := ⟨⟨by decide +kernel, by decide +kernel⟩, List.mem_of_getElem? (i := 723) (by decide +kernel), List.mem_of_getElem? (i := 990) (by decide +kernel), List.mem_of_getElem? (i := 991) (by decide +kernel)⟩
theorem lw_p45 : lw_okq (⟨"CrossbarNetModel", "hunted", "(II)I"⟩, 49) := ⟨⟨by decide +kernel, by decide +kernel⟩, List.mem_of_getElem? (i := 723) (by decide +kernel), List.mem_of_getElem? (i := 994) (by decide +kernel), List.mem_of_getElem? (i := 995) (by decide +kernel)⟩
theorem lw_p46 : lw_okq (⟨"CrossbarNetModel", "isFree", "(I)Z"⟩, 49) := ⟨⟨by decide +kernel, by decide +kernel⟩, List.mem_of_getElem? (i := 723) (by decide +kernel), List.mem_of_getElem? (i := 998) (by decide +kernel), List.mem_of_getElem? (i := 999) (by decide +kernel)⟩
theorem lw_p47 : lw_okq (⟨"CrossbarNetModel", "idleJunctor", "(I)I"⟩, 49) := ⟨⟨by decide +kernel, by decide +kernel⟩, List.mem_of_getElem? (i := 723) (by decide +kernel), List.mem_of_getElem? (i := 1002) (by decide +kernel), List.mem_of_getElem? (i := 1003) (by decide +kernel)⟩
def lw_privs_3 : List (MethodName × Nat) := [(⟨"CrossbarNetModel", "give", "(II)V"⟩, 49), (⟨"CrossbarNetModel", "over", "(II)V"⟩, 49), (⟨"CrossbarNetModel", "end", "(I)V"⟩, 49), (⟨"CrossbarNetModel", "release", "(II)V"⟩, 49), (⟨"CrossbarNetModel", "dropJob", "(I)V"⟩, 49), (⟨"CrossbarNetModel", "prefixFor", "(II)I"⟩, 49), (⟨"CrossbarNetModel", "fits", "(II)Z"⟩, 49), (⟨"CrossbarNetModel", "mayBecome", "(II)Z"⟩, 49), (⟨"CrossbarNetModel", "fail", "(II)V"⟩, 49), (⟨"CrossbarNetModel", "addJob", "(II)V"⟩, 49), (⟨"CrossbarNetModel", "one", "()V"⟩, 49), (⟨"CrossbarNetModel", "doJob", "(I)V"⟩, 49), (⟨"CrossbarNetModel", "complete", "(III)V"⟩, 49), (⟨"CrossbarNetModel", "hunted", "(II)I"⟩, 49), (⟨"CrossbarNetModel", "isFree", "(I)Z"⟩, 49), (⟨"CrossbarNetModel", "idleJunctor", "(I)I"⟩, 49)]
theorem lw_r3 : ∀ q ∈ lw_privs_3, lw_okq q := List.forall_mem_cons.mpr ⟨lw_p32, List.forall_mem_cons.mpr ⟨lw_p33, List.forall_mem_cons.mpr ⟨lw_p34, List.forall_mem_cons.mpr ⟨lw_p35, List.forall_mem_cons.mpr ⟨lw_p36, List.forall_mem_cons.mpr ⟨lw_p37, List.forall_mem_cons.mpr ⟨lw_p38, List.forall_mem_cons.mpr ⟨lw_p39, List.forall_mem_cons.mpr ⟨lw_p40, List.forall_mem_cons.mpr ⟨lw_p41, List.forall_mem_cons.mpr ⟨lw_p42, List.forall_mem_cons.mpr ⟨lw_p43, List.forall_mem_cons.mpr ⟨lw_p44, List.forall_mem_cons.mpr ⟨lw_p45, List.forall_mem_cons.mpr ⟨lw_p46, List.forall_mem_cons.mpr ⟨lw_p47, fun _ h => absurd h List.not_mem_nil⟩⟩⟩⟩⟩⟩⟩⟩⟩⟩⟩⟩⟩⟩⟩⟩
theorem lw_p48 : lw_okq (⟨"CrossbarNetModel", "findWay", "(III)Z"⟩, 49) := ⟨⟨by decide +kernel, by decide +kernel⟩, List.mem_of_getElem? (i := 723) (by decide +kernel), List.mem_of_getElem? (i := 1006) (by decide +kernel), List.mem_of_getElem? (i := 1007) (by decide +kernel)⟩
theorem lw_p49 : lw_okq (⟨"CrossbarNetModel", "forward", "(III)V"⟩, 49) := ⟨⟨by decide +kernel, by decide +kernel⟩, List.mem_of_getElem? (i := 723) (by decide +kernel), List.mem_of_getElem? (i := 1013) (by decide +kernel), List.mem_of_getElem? (i := 1014) (by decide +kernel)⟩
theorem lw_p50 : lw_okq (⟨"CrossbarNetModel", "idleTrunk", "(II)I"⟩, 49) := ⟨⟨by decide +kernel, by decide +kernel⟩, List.mem_of_getElem? (i := 723) (by decide +kernel), List.mem_of_getElem? (i := 1017) (by decide +kernel), List.mem_of_getElem? (i := 1018) (by decide +kernel)⟩
theorem lw_p51 : lw_okq (⟨"CrossbarNetModel", "send", "(II)V"⟩, 49) := ⟨⟨by decide +kernel, by decide +kernel⟩, List.mem_of_getElem? (i := 723) (by decide +kernel), List.mem_of_getElem? (i := 1021) (by decide +kernel), List.mem_of_getElem? (i := 1022) (by decide +kernel)⟩
theorem lw_p52 : lw_okq (⟨"CrossbarNetModel", "pass", "(I)V"⟩, 49) := ⟨⟨by decide +kernel, by decide +kernel⟩, List.mem_of_getElem? (i := 723) (by decide +kernel), List.mem_of_getElem? (i := 1025) (by decide +kernel), List.mem_of_getElem? (i := 1026) (by decide +kernel)⟩
theorem lw_p53 : lw_okq (⟨"CrossbarNetModel", "hand", "(I)V"⟩, 49) := ⟨⟨by decide +kernel, by decide +kernel⟩, List.mem_of_getElem? (i := 723) (by decide +kernel), List.mem_of_getElem? (i := 1029) (by decide +kernel), List.mem_of_getElem? (i := 1030) (by decide +kernel)⟩
def lw_privs_4 : List (MethodName × Nat) := [(⟨"CrossbarNetModel", "findWay", "(III)Z"⟩, 49), (⟨"CrossbarNetModel", "forward", "(III)V"⟩, 49), (⟨"CrossbarNetModel", "idleTrunk", "(II)I"⟩, 49), (⟨"CrossbarNetModel", "send", "(II)V"⟩, 49), (⟨"CrossbarNetModel", "pass", "(I)V"⟩, 49), (⟨"CrossbarNetModel", "hand", "(I)V"⟩, 49)]
theorem lw_r4 : ∀ q ∈ lw_privs_4, lw_okq q := List.forall_mem_cons.mpr ⟨lw_p48, List.forall_mem_cons.mpr ⟨lw_p49, List.forall_mem_cons.mpr ⟨lw_p50, List.forall_mem_cons.mpr ⟨lw_p51, List.forall_mem_cons.mpr ⟨lw_p52, List.forall_mem_cons.mpr ⟨lw_p53, fun _ h => absurd h List.not_mem_nil⟩⟩⟩⟩⟩⟩
def lw_privs : List (MethodName × Nat) := lw_privs_1 ++ (lw_privs_2 ++ (lw_privs_3 ++ (lw_privs_4)))
def lw_tbl : List Cond := k2_sels lw_privs ++ tables_1
theorem lw_privs_ok : ∀ q ∈ lw_privs, lw_okq q := by
  show ∀ q ∈ lw_privs_1 ++ (lw_privs_2 ++ (lw_privs_3 ++ (lw_privs_4))), lw_okq q
  exact List.forall_mem_append.mpr ⟨lw_r1, List.forall_mem_append.mpr ⟨lw_r2, List.forall_mem_append.mpr ⟨lw_r3, lw_r4⟩⟩⟩
end
section
/-! ===== BEGIN words of one list among another's, by their places ===== -/
theorem goodIn_r {big : List Cond} (ws : List Cond) (ps : List Nat) (hp : ws = ps.filterMap (fun i => big[i]?)) (h : ws.all goodWord = true) : GoodIn big ws := by
  intro w hw
  have h1 := List.all_eq_true.mp h w hw
  rw [hp] at hw
  obtain ⟨i, -, hi⟩ := List.mem_filterMap.mp hw
  have hm : w ∈ big := by first | exact List.mem_of_getElem? hi | exact List.getElem?_mem hi
  exact ⟨hm, good_of_word h1⟩
theorem goodIn_app {big a b : List Cond} (ha : GoodIn big a) (hb : GoodIn big b) : GoodIn big (a ++ b) := fun w h => (List.mem_append.mp h).elim (ha w) (hb w)
theorem goodIn_ca {big a b : List Cond} {c : Cond} (ha : GoodIn big (c :: a)) (hb : GoodIn big b) : GoodIn big (c :: (a ++ b)) := fun w h => (List.mem_cons.mp h).elim (fun e => ha w (List.mem_cons.mpr (Or.inl e))) (fun h => (List.mem_append.mp h).elim (fun h => ha w (List.mem_cons.mpr (Or.inr h))) (hb w))
theorem goodIn_sub {big ws : List Cond} (hm : ∀ w ∈ ws, w ∈ big) (h : ws.all goodWord = true) : GoodIn big ws := fun w hw => ⟨hm w hw, good_of_word (List.all_eq_true.mp h w hw)⟩
/-! ===== END ===== -/

/-! ===== BEGIN exceptions that leave a method, and their catching by the caller (launches without stack traces) ===== -/
section VXA
/-! The laws vx_back, vx_callV, vx_callS, vx_callSW, vx_throw0, vx_throwS follow proofs of the library, with one case more: JvmDerived/Free/Laws.lean (Back.of_free), Shelf42/LK1.lean (callV, callS), Shelf/KitTraced.lean (throwNew0V, throwNewS). -/
/-- where a method has thrown q: the class by its name, the cell, what was written, the world -/
def vx_T (XC : String → State → State → Prop) (st : State) (q : Addr) (t : State) (mc ms : Nat) (free : Addr → Prop) : Prop :=
  ∃ (E : String) (ce : Cell) (L : List Loc), XC E st t ∧ t.heap[q]? = some ce ∧ ce.vm = .none ∧ st.vm.findClass E = some ce.cls ∧ st.WarmedH t.vm ∧ st.sameButNew ({ t with vm := st.vm } : State) L mc ms ∧ ∀ z ∈ L, free z.base
def vx_Q (Qc : Array Value → State → Outcome → State → Prop) (XC : String → State → State → Prop) (mc ms : Nat) (free : Addr → Prop) : Array Value → State → Outcome → State → Prop := fun a st o t =>
  (Qc a st o t ∧ ∃ L, FrameEnd st o t L mc ms ∧ ∀ q ∈ L, free q.base) ∨ ∃ q, o = .threw q ∧ vx_T XC st q t mc ms free
/-- a callee that returns or throws -/
def vx_Met (l : Launch) (y : MethodName) (ws : List Cond) (rm : Room) (Pc : Array Value → State → Prop) (Qc : Array Value → State → Outcome → State → Prop) (XC : String → State → State → Prop) (mc ms : Nat) (free : Addr → Prop) : Prop :=
  MetFree l y (headSpec ws rm) Pc (fun _ _ _ _ _ => True) (vx_Q Qc XC mc ms free)
def vx_Post (XC : String → State → State → Prop) (mc ms : Nat) (free : Addr → Prop) : Pt → Array Value → Addr → Pt → Prop := fun A a q B =>
  ∃ (g : JFrame) (mk : MethodId) (t : State) (L : List Loc) (E : String) (ce : Cell), B.U.heap = t.heap ∧ B.U.vm = t.vm ∧ XC E (A.U.calling g mk a) t ∧ t.heap[q]? = some ce ∧ ce.vm = .none ∧ A.U.vm.findClass E = some ce.cls ∧ B.locs = A.locs ++ L ∧ (∀ z ∈ L, free z.base) ∧ B.cells = A.cells + mc ∧ B.slots = A.slots + ms
def vx_Back (l : Launch) (R : Room) (p : Program) (e : Env) (below : List Frame) (s : State) (sargs : Array Value) (y : MethodName) (len W9 : Nat)
    (Pre : Pt → Array Value → Prop) (Post : Pt → Array Value → Option Value → Pt → Prop) (PostX : Pt → Array Value → Addr → Pt → Prop) : Prop :=
  ∀ (m : MethodId) (meth : Method) (c : Code) (A : Pt) (g : JFrame) (ig : Instr) (mk : MethodId) (a : Array Value),
    Stand p l e R s m sargs below meth c A.U A.locs A.cells A.slots → g.method = m → g.locals.size = c.maxLocals → decode c.code g.pc = .ok (ig, len) →
    2 * g.monitorRoom + (g.stack.map fun v => v.category).sum ≤ W9 → A.U.methodNamed? y = some mk → Pre A a →
    (∃ (v : Option Value) (B : Pt), Stand p l e R s m sargs below meth c B.U B.locs B.cells B.slots ∧ Post A a v B ∧
      Steps p.tables e below (doInvoke e (A.U.setTop g) [] mk a).1 (B.U.setTop { g with pc := g.pc + len, stack := v.toList ++ g.stack })) ∨
    (∃ (q : Addr) (B : Pt), Stand p l e R s m sargs below meth c B.U B.locs B.cells B.slots ∧ PostX A a q B ∧
      Steps p.tables e below (doInvoke e (A.U.setTop g) [] mk a).1 ((B.U.setTop g).pushFrame (.throwing q)))
section Payer
variable {l : Launch} {R : Room} {p : Program} {e : Env} {below : List Frame} {s : State} {sargs : Array Value} {y : MethodName} {len W9 : Nat}
theorem vx_back {ws : List Cond} {rm : Room} {Pc : Array Value → State → Prop} {Qc : Array Value → State → Outcome → State → Prop} {XC : String → State → State → Prop} {mc ms : Nat} {free : Addr → Prop} {bytes : ByteArray} {maxL : Nat} {ret : Option FieldType}
    (hM : vx_Met l y ws rm Pc Qc XC mc ms free) (hblind : FrameBlind Pc) (hrc : rm.cells = mc) (hrs : rm.slots = ms)
    (hframes : rm.frames + 1 ≤ R.frames) (hlocals : W9 + (maxL + 11) + rm.locals ≤ R.locals)
    (hws : ∀ w ∈ ws, ∀ a' U, s.WarmedH U.vm → w.before a' U = true) (hcode : Cond.code y bytes maxL ret ∈ ws) (hinit : ∀ a' U, s.WarmedH U.vm → (Cond.initialized y.cls).before a' U = true) :
    vx_Back l R p e below s sargs y len W9 (PreOf R mc ms Pc) (PostOf Qc mc ms free) (vx_Post XC mc ms free) := by
  intro m meth c A g ig mk a X hg hsize hdg hW hn hp
  have h1 : (headSpec ws rm).pre.before a A.U = true := atoms_intro fun w hw => hws w hw _ _ X.warmed
  have h2 : (Cond.code y bytes maxL ret).before a A.U = true := hws _ hcode _ _ X.warmed
  have h3 : (Cond.initialized y.cls).before a A.U = true := hinit _ _ X.warmed
  have h4 : A.cells + (headSpec ws rm).room.cells ≤ R.cells := by rw [show (headSpec ws rm).room.cells = mc from hrc]; exact hp.1
  have h5 : A.slots + (headSpec ws rm).room.slots ≤ R.slots := by rw [show (headSpec ws rm).room.slots = ms from hrs]; exact hp.2.1
  have hPc : Pc a (A.U.calling g mk a) := hblind _ _ _ _ hp.2.2
  obtain ⟨U, Ls, c0, s0⟩ := A
  dsimp only [Pt.U, Pt.locs, Pt.cells, Pt.slots] at h1 h2 h3 h4 h5 X hn hPc ⊢
  obtain ⟨methY, cY, hmY, hcY, -, hlY, -, -, -, -⟩ := Cond.code_spec hn h2
  obtain ⟨kY, hkY, -⟩ := className_of_methodNamed hn
  have hinitY : kY.init = .initialized := Cond.initialized_spec (findClass_of_methodNamed hn) hkY h3
  have h : At U g.method c below := by rw [hg]; exact X.here
  have hlocals9 : W9 + (maxL + 11) + (headSpec ws rm).room.locals ≤ R.locals := hlocals
  have happ : (headSpec ws rm).appliesLoose y e.platform (U.calling g mk a) = true :=
    Spec.appliesLoose_calling (g := g) h hdg hn hkY hinitY
      (X.room_calling (g := g) (R' := (headSpec ws rm).room) hsize hmY hcY hframes (by rw [hlY]; omega) h4 h5) h1
  obtain ⟨mid, hmid⟩ := h.above
  have hfr : (U.setTop g).frames = (.java g :: mid) ++ below := by rw [State.frames_setTop' g h.top, hmid]; rfl
  obtain ⟨o, s₂, hsteps, -, hend, hq⟩ := Steps.callFree hM p X.admits X.cas X.clock (acts := []) hfr happ hPc trivial
  have hq' : vx_Q Qc XC mc ms free a (U.calling g mk a) o s₂ := hq
  rw [State.frames_setTop' g h.top] at hend
  obtain ⟨g₀, hg0⟩ := Option.isSome_iff_exists.mp h.top
  obtain ⟨r, hr⟩ := State.topJava?_eq_some.mp hg0
  have hr' : (({ U with heap := s₂.heap, slotsUsed := s₂.slotsUsed } : State).setVm s₂.vm).frames = .java g₀ :: r := hr
  rcases hq' with ⟨hqc, L, hfe, hL⟩ | ⟨q, rfl, E, ce, L, hx, hce, hcv, hcl, hW₂, hsm, hL⟩
  · obtain ⟨⟨v, rfl⟩, hW₂, e2, q2, q3, q4, q5, q6⟩ := id hfe
    have e3 : s₂ = ({ (U.calling g mk a).setFrames s₂.frames with heap := s₂.heap, slotsUsed := s₂.slotsUsed } : State).setVm s₂.vm := by
      have : s₂ = ({ s₂ with vm := (U.calling g mk a).vm } : State).setVm s₂.vm := rfl
      rw [e2] at this
      exact this
    obtain ⟨c₂, i₂, len₂, hc₂, hd₂, hf₂⟩ := hend
    have hW' : U.WarmedH s₂.vm := hW₂
    have hcc : c₂ = c := by
      have h1 : s₂.code? g.method = U.code? g.method := by
        rw [State.code?_eq, State.code?_eq, hW'.alike.method?]
      exact Option.some.inj (hc₂.symm.trans (h1.trans h.code))
    subst hcc
    have hlen : len₂ = len := by rw [hdg] at hd₂; cases hd₂; rfl
    subst hlen
    have hs₂ : s₂ = (({ U with heap := s₂.heap, slotsUsed := s₂.slotsUsed } : State).setVm s₂.vm).setTop { g with pc := g.pc + len₂, stack := v.toList ++ g.stack } := by
      refine e3.trans ?_
      rw [hf₂, State.calling_eq h.top, State.setFrames_setFrames, State.setTop_of_frames _ hr', hr]
      rfl
    have hsame : U.sameButNew ({ U with heap := s₂.heap, slotsUsed := s₂.slotsUsed } : State) L mc ms := by
      refine ⟨?_, q2, q3, q4, q5, q6⟩
      obtain ⟨t, ht, -⟩ := State.frames_cons hr
      show ({ U with heap := s₂.heap, slotsUsed := s₂.slotsUsed } : State) = { U.setFrames U.frames with heap := s₂.heap, slotsUsed := s₂.slotsUsed }
      rw [State.setFrames_self ht]
    subst hg
    refine Or.inl ⟨v, ⟨(({ U with heap := s₂.heap, slotsUsed := s₂.slotsUsed } : State).setVm s₂.vm), Ls ++ L, c0 + mc, s0 + ms⟩,
      ⟨X.admits, X.cas, X.clock, X.frames, X.room, X.hears, X.method, X.code, (X.here.setHeapUsed s₂.heap s₂.slotsUsed).setVm hW'.alike, X.tail, State.WarmedH.trans X.warmed hW', X.limits, X.bytes, X.same.trans (hsame.setVm s.vm)⟩,
      ⟨g, mk, s₂, L, rfl, rfl, hqc, rfl, hL, rfl, rfl⟩, ?_⟩
    show Steps p.tables e below _ ((({ U with heap := s₂.heap, slotsUsed := s₂.slotsUsed } : State).setVm s₂.vm).setTop { g with pc := g.pc + len₂, stack := v.toList ++ g.stack })
    rw [← hs₂]
    exact hsteps
  · obtain ⟨e2, q2, q3, q4, q5, q6⟩ := id hsm
    have e3 : s₂ = ({ (U.calling g mk a).setFrames s₂.frames with heap := s₂.heap, slotsUsed := s₂.slotsUsed } : State).setVm s₂.vm := by
      have : s₂ = ({ s₂ with vm := (U.calling g mk a).vm } : State).setVm s₂.vm := rfl
      rw [e2] at this
      exact this
    have hf₂ : s₂.frames = .throwing q :: .java g :: U.frames.tail := hend
    have hW' : U.WarmedH s₂.vm := hW₂
    have hs₂ : s₂ = ((({ U with heap := s₂.heap, slotsUsed := s₂.slotsUsed } : State).setVm s₂.vm).setTop g).pushFrame (.throwing q) := by
      refine e3.trans ?_
      rw [hf₂, State.calling_eq h.top, State.setFrames_setFrames, State.pushFrame, State.frames_setTop _ hr', State.setTop_of_frames _ hr', State.setFrames_setFrames, hr]
      rfl
    have hsame : U.sameButNew ({ U with heap := s₂.heap, slotsUsed := s₂.slotsUsed } : State) L mc ms := by
      refine ⟨?_, q2, q3, q4, q5, q6⟩
      obtain ⟨t, ht, -⟩ := State.frames_cons hr
      show ({ U with heap := s₂.heap, slotsUsed := s₂.slotsUsed } : State) = { U.setFrames U.frames with heap := s₂.heap, slotsUsed := s₂.slotsUsed }
      rw [State.setFrames_self ht]
    subst hg
    refine Or.inr ⟨q, ⟨(({ U with heap := s₂.heap, slotsUsed := s₂.slotsUsed } : State).setVm s₂.vm), Ls ++ L, c0 + mc, s0 + ms⟩,
      ⟨X.admits, X.cas, X.clock, X.frames, X.room, X.hears, X.method, X.code, (X.here.setHeapUsed s₂.heap s₂.slotsUsed).setVm hW'.alike, X.tail, State.WarmedH.trans X.warmed hW', X.limits, X.bytes, X.same.trans (hsame.setVm s.vm)⟩,
      ⟨g, mk, s₂, L, E, ce, rfl, rfl, hx, hce, hcv, hcl, rfl, hL, rfl, rfl⟩, ?_⟩
    show Steps p.tables e below _ (((({ U with heap := s₂.heap, slotsUsed := s₂.slotsUsed } : State).setVm s₂.vm).setTop g).pushFrame (.throwing q))
    rw [← hs₂]
    exact hsteps
end Payer
section Calls
variable {p : Program} {l : Launch} {e : Env} {R : Room} {s : State} {m : MethodId} {args : Array Value} {below : List Frame} {meth : Method} {c : Code} {T : State} {locs : List Loc} {cells slots : Nat}
theorem vx_callV (X : Stand p l e R s m args below meth c T locs cells slots) (hexec : p.tables.exec = Jvm.exec) {own C : String} {index : Nat} {y : MethodName} {bytes : ByteArray} {maxL : Nat} {ret : Option FieldType}
    (hown : s.vm.findClass own = some m.cls) (hlink : (Cond.methodLink own index y).before args s = true) (hinst : (Cond.instanceMethod y).before args s = true) (hsel : (Cond.selects C y y).before args s = true)
    (hcode : (Cond.code y bytes maxL ret).before args s = true) (hy : y.cls ≠ "java/lang/invoke/MethodHandle" ∧ y.cls ≠ "java/lang/invoke/VarHandle")
    {W9 : Nat} {Pre : Pt → Array Value → Prop} {Post : Pt → Array Value → Option Value → Pt → Prop} {PostX : Pt → Array Value → Addr → Pt → Prop} (hK : vx_Back l R p e below s args y 3 W9 Pre Post PostX)
    {b : Addr} {cellB : Cell} (hcell : T.heap[b]? = some cellB) (hobj : cellB.vm.isStatics = false) (hcls : s.vm.findClass C = some cellB.cls)
    {g : JFrame} (hg : g.method = m) (hsize : g.locals.size = c.maxLocals) {argsL rest : List Value} (hlen : ∀ sig, parseMethodDescriptor y.desc = some sig → argsL.length = sig.parameters.length)
    (hstack : g.stack = argsL.reverse ++ .ref b :: rest) (hW : 2 * g.monitorRoom + (rest.map fun v => v.category).sum ≤ W9) (hdg : decode c.code g.pc = .ok (.invokevirtual index, 3))
    (hpre : ∀ vm₁, s.WarmedH vm₁ → Pre ⟨T.setVm vm₁, locs, cells, slots⟩ (Value.ref b :: argsL).toArray) :
    (∃ (v : Option Value) (vm₁ : Vm) (B : Pt), s.WarmedH vm₁ ∧ Stand p l e R s m args below meth c B.U B.locs B.cells B.slots ∧ Post ⟨T.setVm vm₁, locs, cells, slots⟩ (Value.ref b :: argsL).toArray v B ∧
      ∀ target, Steps p.tables e below (B.U.setTop { g with pc := g.pc + 3, stack := v.toList ++ rest }) target → Steps p.tables e below (T.setTop g) target) ∨
    (∃ (q : Addr) (vm₁ : Vm) (B : Pt), s.WarmedH vm₁ ∧ Stand p l e R s m args below meth c B.U B.locs B.cells B.slots ∧ PostX ⟨T.setVm vm₁, locs, cells, slots⟩ (Value.ref b :: argsL).toArray q B ∧
      Steps p.tables e below (T.setTop g) ((B.U.setTop { g with stack := rest }).pushFrame (.throwing q))) := by
  obtain ⟨mk, methM, hnamed, hmethM, hstM, habM⟩ := Cond.instanceMethod_spec hinst
  obtain ⟨methM', cM, hmethM', -, -, -, -, -, -, hsigM⟩ := Cond.code_spec hnamed hcode
  cases hmethM.symm.trans hmethM'
  obtain ⟨c2, r2, m2, q1, q2, q3, q4, kP, hkP, hkPi⟩ := Cond.selects_spec hsel
  cases hcls.symm.trans q1
  cases (State.methodFound?_of_named hnamed hy).symm.trans q2
  cases hnamed.symm.trans q3
  have hselP : selectMethod e.platform s.vm cellB.cls mk = .method mk := by rw [Launch.admits_selectMethod X.admits]; exact q4
  obtain ⟨vm₁, X₁, hstep₁⟩ := X.invokevirtual hexec hown hlink hnamed hmethM hstM hkP hkPi hy (a := b) (cell := cellB) hcell
    (fun z h => by rw [h] at hobj; cases hobj) hselP hmethM habM hkP hkPi (g := g) hg (argsL := argsL) (rest := rest) (hlen _ hsigM) hstack hdg
  rcases hK m meth c ⟨T.setVm vm₁, locs, cells, slots⟩ { g with stack := rest } (.invokevirtual index) mk (Value.ref b :: argsL).toArray X₁ hg hsize hdg hW (X₁.named hnamed) (hpre vm₁ X₁.warmed) with ⟨v, B, X', hpost, hsteps⟩ | ⟨q, B, X', hpost, hsteps⟩
  · exact Or.inl ⟨v, vm₁, B, X₁.warmed, X', hpost, fun target h => hstep₁ _ fun acts => by rw [doInvoke_state]; exact hsteps.trans h⟩
  · exact Or.inr ⟨q, vm₁, B, X₁.warmed, X', hpost, hstep₁ _ fun acts => by rw [doInvoke_state]; exact hsteps⟩
theorem vx_callS (X : Stand p l e R s m args below meth c T locs cells slots) (hexec : p.tables.exec = Jvm.exec) {own : String} {index : Nat} {y : MethodName} {bytes : ByteArray} {maxL : Nat} {ret : Option FieldType}
    (hown : s.vm.findClass own = some m.cls) (hlink : (Cond.methodLink own index y).before args s = true) (hstat : (Cond.static y).before args s = true) (hinit : (Cond.initialized y.cls).before args s = true)
    (hcode : (Cond.code y bytes maxL ret).before args s = true) (hy : y.cls ≠ "java/lang/invoke/MethodHandle" ∧ y.cls ≠ "java/lang/invoke/VarHandle")
    {W9 : Nat} {Pre : Pt → Array Value → Prop} {Post : Pt → Array Value → Option Value → Pt → Prop} {PostX : Pt → Array Value → Addr → Pt → Prop} (hK : vx_Back l R p e below s args y 3 W9 Pre Post PostX)
    {g : JFrame} (hg : g.method = m) (hsize : g.locals.size = c.maxLocals) {argsL rest : List Value} (hlen : ∀ sig, parseMethodDescriptor y.desc = some sig → argsL.length = sig.parameters.length)
    (hstack : g.stack = argsL.reverse ++ rest) (hW : 2 * g.monitorRoom + (rest.map fun v => v.category).sum ≤ W9) (hdg : decode c.code g.pc = .ok (.invokestatic index, 3))
    (hpre : ∀ vm₁, s.WarmedH vm₁ → Pre ⟨T.setVm vm₁, locs, cells, slots⟩ argsL.toArray) :
    (∃ (v : Option Value) (vm₁ : Vm) (B : Pt), s.WarmedH vm₁ ∧ Stand p l e R s m args below meth c B.U B.locs B.cells B.slots ∧ Post ⟨T.setVm vm₁, locs, cells, slots⟩ argsL.toArray v B ∧
      ∀ target, Steps p.tables e below (B.U.setTop { g with pc := g.pc + 3, stack := v.toList ++ rest }) target → Steps p.tables e below (T.setTop g) target) ∨
    (∃ (q : Addr) (vm₁ : Vm) (B : Pt), s.WarmedH vm₁ ∧ Stand p l e R s m args below meth c B.U B.locs B.cells B.slots ∧ PostX ⟨T.setVm vm₁, locs, cells, slots⟩ argsL.toArray q B ∧
      Steps p.tables e below (T.setTop g) ((B.U.setTop { g with stack := rest }).pushFrame (.throwing q))) := by
  obtain ⟨mk, hnamed⟩ := Cond.code_named hcode
  obtain ⟨methM, cM, hmethM, -, -, -, -, -, -, hsigM⟩ := Cond.code_spec hnamed hcode
  have hstatic : methM.isStatic = true := Cond.static_spec hnamed hmethM hstat
  obtain ⟨kP, hkP, -⟩ := className_of_methodNamed hnamed
  have hinitP : kP.init = .initialized := Cond.initialized_spec (findClass_of_methodNamed hnamed) hkP hinit
  obtain ⟨vm₁, X₁, hstep₁⟩ := X.invokestatic hexec hown hlink hnamed hmethM hstatic hkP hinitP hy (g := g) hg (argsL := argsL) (rest := rest) (hlen _ hsigM) hstack hdg
  rcases hK m meth c ⟨T.setVm vm₁, locs, cells, slots⟩ { g with stack := rest } (.invokestatic index) mk argsL.toArray X₁ hg hsize hdg hW (X₁.named hnamed) (hpre vm₁ X₁.warmed) with ⟨v, B, X', hpost, hsteps⟩ | ⟨q, B, X', hpost, hsteps⟩
  · exact Or.inl ⟨v, vm₁, B, X₁.warmed, X', hpost, fun target h => hstep₁ _ fun acts => by rw [doInvoke_state]; exact hsteps.trans h⟩
  · exact Or.inr ⟨q, vm₁, B, X₁.warmed, X', hpost, hstep₁ _ fun acts => by rw [doInvoke_state]; exact hsteps⟩
end Calls
theorem vx_cls {s : State} {T : State} {vm₁ : Vm} {E : String} {k : ClassId} (hW : s.WarmedH vm₁) (h : (T.setVm vm₁).vm.findClass E = some k) : s.vm.findClass E = some k := by
  have h1 : vm₁.findClass E = some k := h
  rw [hW.alike.findClass] at h1
  exact h1
/-- the method's frame g, with q thrown over it -/
def vx_W (p : Program) (l : Launch) (e : Env) (R : Room) (s : State) (m : MethodId) (args : Array Value) (below : List Frame) (meth : Method) (c : Code) (H : Heap) (locs : List Loc) (cells slots : Nat) (Q : State → Prop) (g : JFrame) (q : Addr) : Prop :=
  ∀ T : State, T.heap = H → Stand p l e R s m args below meth c T locs cells slots → ∃ t, Steps p.tables e below ((T.setTop g).pushFrame (.throwing q)) t ∧ Q t
def vx_Run (p : Program) (l : Launch) (e : Env) (R : Room) (s : State) (m : MethodId) (args : Array Value) (below : List Frame) (meth : Method) (c : Code) (H : Heap) (locs : List Loc) (cells slots mc ms : Nat) (g : JFrame) (rest : List Value) (Qa : State → Outcome → State → Prop) (XC : String → State → State → Prop) (free : Addr → Prop) : Prop :=
  ∀ T : State, T.heap = H → Stand p l e R s m args below meth c T locs cells slots →
    (∃ (v : Option Value) (st₀ t T' : State) (L : List Loc), st₀.heap = H ∧ Stand p l e R s m args below meth c T' (locs ++ L) (cells + mc) (slots + ms) ∧ (∀ q ∈ L, free q.base) ∧ T'.heap = t.heap ∧ T'.vm = t.vm ∧ Qa st₀ (.returned v) t ∧
      Goes p e below T g T' { g with pc := g.pc + 3, stack := v.toList ++ rest }) ∨
    (∃ (q : Addr) (st₀ t T' : State) (L : List Loc) (E : String) (ce : Cell), st₀.heap = H ∧ Stand p l e R s m args below meth c T' (locs ++ L) (cells + mc) (slots + ms) ∧ (∀ z ∈ L, free z.base) ∧ T'.heap = t.heap ∧ T'.vm = t.vm ∧ XC E st₀ t ∧ t.heap[q]? = some ce ∧ ce.vm = .none ∧ s.vm.findClass E = some ce.cls ∧
      Steps p.tables e below (T.setTop g) ((T'.setTop { g with stack := rest }).pushFrame (.throwing q)))
def vx_X {S : Type} (px : S → Prop) (B : String → S → State → Prop) (A : Nat → Prop) : String → State → State → Prop := fun E st t => ∃ u : S, px u ∧ B E u t ∧ va_F A st t
section Runs
variable {p : Program} {l : Launch} {e : Env} {R : Room} {s : State} {m : MethodId} {args : Array Value} {below : List Frame} {meth : Method} {c : Code} {H : Heap} {locs : List Loc} {cells slots : Nat}
variable {y : MethodName} {bytes cc : ByteArray} {maxL nL mc ms n index : Nat} {ret : Option FieldType} {ws : List Cond} {rm : Room} {Pc : Array Value → State → Prop} {Qc : Array Value → State → Outcome → State → Prop} {XC : String → State → State → Prop} {free : Addr → Prop} {Ts : List Cond} {own C : String} {b : Addr} {As rest : List Value} {g : JFrame}
theorem vx_callBack (cb : CallB R s args own index y bytes maxL ret ws rm mc ms n) (hM : vx_Met l y ws rm Pc Qc XC mc ms free) (hbl : FrameBlind Pc) : vx_Back l R p e below s args y 3 8 (PreOf R mc ms Pc) (PostOf Qc mc ms free) (vx_Post XC mc ms free) := by
  obtain ⟨hrc, hrs, hfr, hlo, hws, hcw, -, hini, -⟩ := cb
  exact vx_back (bytes := bytes) (maxL := maxL) (ret := ret) hM hbl hrc hrs hfr hlo hws hcw (fun a' U hW => word_at hW (Or.inl (by first | rfl | simp [Cond.onTables, Cond.keeps, Cond.steady])) hini)
theorem vx_runV (S : CallFix p m c cc nL s args Ts own) (hM : vx_Met l y ws rm Pc Qc XC mc ms free) (cw : CallW R s args own C index y bytes maxL ret ws rm mc ms n) (hp : PreV s H C b Pc As)
    (hg : g.method = m) (hn : As.length = n) (hsize : g.locals.size = nL) (hstack : g.stack = As.reverse ++ .ref b :: rest) (hW : 2 * g.monitorRoom + (rest.map fun v => v.category).sum ≤ 8) (hdg : decode cc g.pc = .ok (.invokevirtual index, 3)) (hf : cells + mc ≤ R.cells ∧ slots + ms ≤ R.slots) :
    vx_Run p l e R s m args below meth c H locs cells slots mc ms g rest (Qc (Value.ref b :: As).toArray) XC free := by
  have hK : vx_Back l R p e below s args y 3 8 (PreOf R mc ms Pc) (PostOf Qc mc ms free) (vx_Post XC mc ms free) := vx_callBack cw.1 hM hp.1
  obtain ⟨⟨-, -, -, -, -, -, hcode, -, hy, hlen, hl⟩, hin, hse⟩ := cw
  obtain ⟨hx, hb, hml, ho, -⟩ := S
  obtain ⟨-, ⟨cellB, hcB, hoB, hclB⟩, hPc⟩ := hp
  intro T hT X
  rcases vx_callV X hx (C := C) (bytes := bytes) (maxL := maxL) (ret := ret) ho hl hin hse hcode hy hK (by rw [hT]; exact hcB) hoB hclB hg (hsize.trans hml.symm) (argsL := As) (rest := rest) (fun sig h => hn.trans (hlen sig h)) hstack hW (by rw [hb]; exact hdg)
    (fun vm₁ hW₁ => ⟨hf.1, hf.2, hPc (T.setVm vm₁) hT hW₁⟩) with ⟨v, vm₁, ⟨U', l2, c2, s2⟩, hW₁, X', ⟨g', mk, t, L, e1, e2, hq, h1, hL, h2, h3⟩, st⟩ | ⟨q, vm₁, ⟨U', l2, c2, s2⟩, hW₁, X', ⟨g', mk, t, L, E, ce, e1, e2, hq, hce, hcv, hcl, h1, hL, h2, h3⟩, st⟩
  · dsimp only [Pt.U, Pt.locs, Pt.cells, Pt.slots] at X' e1 e2 h1 h2 h3 st
    subst h1; subst h2; subst h3
    exact Or.inl ⟨v, (T.setVm vm₁).calling g' mk (Value.ref b :: As).toArray, t, U', L, hT, X', hL, e1, e2, hq, st⟩
  · dsimp only [Pt.U, Pt.locs, Pt.cells, Pt.slots] at X' e1 e2 h1 h2 h3 st hcl
    subst h1; subst h2; subst h3
    exact Or.inr ⟨q, (T.setVm vm₁).calling g' mk (Value.ref b :: As).toArray, t, U', L, E, ce, hT, X', hL, e1, e2, hq, hce, hcv, vx_cls hW₁ hcl, st⟩
theorem vx_runS (S : CallFix p m c cc nL s args Ts own) (hM : vx_Met l y ws rm Pc Qc XC mc ms free) (cw : CallB R s args own index y bytes maxL ret ws rm mc ms n ∧ (Cond.static y).before args s = true) (hp : PreS s H Pc As)
    (hg : g.method = m) (hn : As.length = n) (hsize : g.locals.size = nL) (hstack : g.stack = As.reverse ++ rest) (hW : 2 * g.monitorRoom + (rest.map fun v => v.category).sum ≤ 8) (hdg : decode cc g.pc = .ok (.invokestatic index, 3)) (hf : cells + mc ≤ R.cells ∧ slots + ms ≤ R.slots) :
    vx_Run p l e R s m args below meth c H locs cells slots mc ms g rest (Qc As.toArray) XC free := by
  have hK : vx_Back l R p e below s args y 3 8 (PreOf R mc ms Pc) (PostOf Qc mc ms free) (vx_Post XC mc ms free) := vx_callBack cw.1 hM hp.1
  obtain ⟨⟨-, -, -, -, -, -, hcode, hini, hy, hlen, hl⟩, hstt⟩ := cw
  obtain ⟨hx, hb, hml, ho, -⟩ := S
  intro T hT X
  rcases vx_callS X hx (bytes := bytes) (maxL := maxL) (ret := ret) ho hl hstt hini hcode hy hK hg (hsize.trans hml.symm) (argsL := As) (rest := rest) (fun sig h => hn.trans (hlen sig h)) hstack hW (by rw [hb]; exact hdg)
    (fun vm₁ hW₁ => ⟨hf.1, hf.2, hp.2 (T.setVm vm₁) hT hW₁⟩) with ⟨v, vm₁, ⟨U', l2, c2, s2⟩, hW₁, X', ⟨g', mk, t, L, e1, e2, hq, h1, hL, h2, h3⟩, st⟩ | ⟨q, vm₁, ⟨U', l2, c2, s2⟩, hW₁, X', ⟨g', mk, t, L, E, ce, e1, e2, hq, hce, hcv, hcl, h1, hL, h2, h3⟩, st⟩
  · dsimp only [Pt.U, Pt.locs, Pt.cells, Pt.slots] at X' e1 e2 h1 h2 h3 st
    subst h1; subst h2; subst h3
    exact Or.inl ⟨v, (T.setVm vm₁).calling g' mk As.toArray, t, U', L, hT, X', hL, e1, e2, hq, st⟩
  · dsimp only [Pt.U, Pt.locs, Pt.cells, Pt.slots] at X' e1 e2 h1 h2 h3 st hcl
    subst h1; subst h2; subst h3
    exact Or.inr ⟨q, (T.setVm vm₁).calling g' mk As.toArray, t, U', L, E, ce, hT, X', hL, e1, e2, hq, hce, hcv, vx_cls hW₁ hcl, st⟩
end Runs
section Rows
variable {p : Program} {l : Launch} {e : Env} {R : Room} {s : State} {m : MethodId} {args : Array Value} {below : List Frame} {meth : Method} {c : Code} {H : Heap} {locs : List Loc} {cells slots : Nat} {Q : State → Prop}
variable {mc ms : Nat} {free : Addr → Prop} {A0 A1 : Nat → Prop} {H0 : Heap} {a : Array Value} {pc : Nat} {ls : Array Slot} {st0 rest : List Value}
theorem vx_keep {st₀ t T' : State} {L : List Loc} (h0 : st₀.heap = H) (e1 : T'.heap = t.heap) (hS : va_S A0 H0 H locs) (hA : ∀ q, q < H.size → A1 q → A0 q) (hf : ∀ q, free q → A0 q) (hL : ∀ q ∈ L, free q.base) (hF : va_F A1 st₀ t) :
    H.size ≤ T'.heap.size ∧ (∀ q : Nat, q < H.size → ¬ A1 q → T'.heap[q]? = H[q]?) ∧ va_S A0 H0 T'.heap (locs ++ L) := by
  obtain ⟨hz, hk⟩ := hF
  rw [h0] at hz hk
  exact ⟨by rw [e1]; exact hz, fun q h1 h2 => by rw [e1]; exact hk q h1 h2,
    ⟨Nat.le_trans hS.1 (by rw [e1]; exact hz), fun q h1 h2 => by rw [e1, hk q (Nat.lt_of_lt_of_le h1 hS.1) (fun z => h2 (hA q (Nat.lt_of_lt_of_le h1 hS.1) z))]; exact hS.2.1 q h1 h2, fun q hq => by
      rcases List.mem_append.mp hq with h | h
      · exact hS.2.2 q h
      · exact hf _ (hL q h)⟩⟩
theorem vx_calli {S SX : Type} {post : Int32 → S → Prop} {px : SX → Prop} {B : S → State → Prop} {BX : String → SX → State → Prop} {AX : Nat → Prop} (hr : vx_Run p l e R s m args below meth c H locs cells slots mc ms (F0 m pc ls st0) rest (va_Qi post B A1 a) (vx_X px BX AX) free) (hS : va_S A0 H0 H locs) (hA : ∀ q, q < H.size → A1 q → A0 q) (hf : ∀ q, free q → A0 q) (hAX : ∀ q, q < H.size → AX q → A0 q)
    (kx : ∀ (E : String) (ce : Cell) (q9 : Addr) (u : SX) (t : State) (H1 : Heap) (locs1 : List Loc), t.heap = H1 → s.vm.Alike t.vm → px u → BX E u t → H.size ≤ H1.size → (∀ q : Nat, q < H.size → ¬ AX q → H1[q]? = H[q]?) → va_S A0 H0 H1 locs1 → H1[q9]? = some ce → ce.vm = .none → s.vm.findClass E = some ce.cls → vx_W p l e R s m args below meth c H1 locs1 (cells + mc) (slots + ms) Q (F0 m pc ls rest) q9)
    (kk : ∀ (r : Int32) (u : S) (t : State) (H1 : Heap) (locs1 : List Loc), t.heap = H1 → s.vm.Alike t.vm → post r u → B u t → H.size ≤ H1.size → (∀ q : Nat, q < H.size → ¬ A1 q → H1[q]? = H[q]?) → va_S A0 H0 H1 locs1 → W p l e R s m args below meth c H1 locs1 (cells + mc) (slots + ms) Q (F0 m (pc + 3) ls (.int r :: rest))) : W p l e R s m args below meth c H locs cells slots Q (F0 m pc ls st0) := by
  intro T hT X
  rcases hr T hT X with ⟨v, st₀, t, T', L, h0, X', hL, e1, e2, ⟨⟨r, u, hv, hp, hb⟩, hF⟩, st⟩ | ⟨q, st₀, t, T', L, E, ce, h0, X', hL, e1, e2, ⟨u, hp, hb, hF⟩, hce, hcv, hcl, st⟩
  · cases hv
    obtain ⟨k1, k2, k3⟩ := vx_keep h0 e1 hS hA hf hL hF
    obtain ⟨t2, a1, b1⟩ := kk r u t T'.heap (locs ++ L) e1.symm (by rw [← e2]; exact X'.warmed.alike) hp hb k1 k2 k3 T' rfl X'
    exact ⟨t2, st t2 a1, b1⟩
  · obtain ⟨k1, k2, k3⟩ := vx_keep h0 e1 hS hAX hf hL hF
    obtain ⟨t2, a1, b1⟩ := kx E ce q u t T'.heap (locs ++ L) e1.symm (by rw [← e2]; exact X'.warmed.alike) hp hb k1 k2 k3 (by rw [e1]; exact hce) hcv hcl T' rfl X'
    exact ⟨t2, st.trans a1, b1⟩
theorem vx_calll {S SX : Type} {post : Int64 → S → Prop} {px : SX → Prop} {B : S → State → Prop} {BX : String → SX → State → Prop} {AX : Nat → Prop} (hr : vx_Run p l e R s m args below meth c H locs cells slots mc ms (F0 m pc ls st0) rest (va_Ql post B A1 a) (vx_X px BX AX) free) (hS : va_S A0 H0 H locs) (hA : ∀ q, q < H.size → A1 q → A0 q) (hf : ∀ q, free q → A0 q) (hAX : ∀ q, q < H.size → AX q → A0 q)
    (kx : ∀ (E : String) (ce : Cell) (q9 : Addr) (u : SX) (t : State) (H1 : Heap) (locs1 : List Loc), t.heap = H1 → s.vm.Alike t.vm → px u → BX E u t → H.size ≤ H1.size → (∀ q : Nat, q < H.size → ¬ AX q → H1[q]? = H[q]?) → va_S A0 H0 H1 locs1 → H1[q9]? = some ce → ce.vm = .none → s.vm.findClass E = some ce.cls → vx_W p l e R s m args below meth c H1 locs1 (cells + mc) (slots + ms) Q (F0 m pc ls rest) q9)
    (kk : ∀ (r : Int64) (u : S) (t : State) (H1 : Heap) (locs1 : List Loc), t.heap = H1 → s.vm.Alike t.vm → post r u → B u t → H.size ≤ H1.size → (∀ q : Nat, q < H.size → ¬ A1 q → H1[q]? = H[q]?) → va_S A0 H0 H1 locs1 → W p l e R s m args below meth c H1 locs1 (cells + mc) (slots + ms) Q (F0 m (pc + 3) ls (.long r :: rest))) : W p l e R s m args below meth c H locs cells slots Q (F0 m pc ls st0) := by
  intro T hT X
  rcases hr T hT X with ⟨v, st₀, t, T', L, h0, X', hL, e1, e2, ⟨⟨r, u, hv, hp, hb⟩, hF⟩, st⟩ | ⟨q, st₀, t, T', L, E, ce, h0, X', hL, e1, e2, ⟨u, hp, hb, hF⟩, hce, hcv, hcl, st⟩
  · cases hv
    obtain ⟨k1, k2, k3⟩ := vx_keep h0 e1 hS hA hf hL hF
    obtain ⟨t2, a1, b1⟩ := kk r u t T'.heap (locs ++ L) e1.symm (by rw [← e2]; exact X'.warmed.alike) hp hb k1 k2 k3 T' rfl X'
    exact ⟨t2, st t2 a1, b1⟩
  · obtain ⟨k1, k2, k3⟩ := vx_keep h0 e1 hS hAX hf hL hF
    obtain ⟨t2, a1, b1⟩ := kx E ce q u t T'.heap (locs ++ L) e1.symm (by rw [← e2]; exact X'.warmed.alike) hp hb k1 k2 k3 (by rw [e1]; exact hce) hcv hcl T' rfl X'
    exact ⟨t2, st.trans a1, b1⟩
theorem vx_callf {S SX : Type} {post : UInt32 → S → Prop} {px : SX → Prop} {B : S → State → Prop} {BX : String → SX → State → Prop} {AX : Nat → Prop} (hr : vx_Run p l e R s m args below meth c H locs cells slots mc ms (F0 m pc ls st0) rest (va_Qf post B A1 a) (vx_X px BX AX) free) (hS : va_S A0 H0 H locs) (hA : ∀ q, q < H.size → A1 q → A0 q) (hf : ∀ q, free q → A0 q) (hAX : ∀ q, q < H.size → AX q → A0 q)
    (kx : ∀ (E : String) (ce : Cell) (q9 : Addr) (u : SX) (t : State) (H1 : Heap) (locs1 : List Loc), t.heap = H1 → s.vm.Alike t.vm → px u → BX E u t → H.size ≤ H1.size → (∀ q : Nat, q < H.size → ¬ AX q → H1[q]? = H[q]?) → va_S A0 H0 H1 locs1 → H1[q9]? = some ce → ce.vm = .none → s.vm.findClass E = some ce.cls → vx_W p l e R s m args below meth c H1 locs1 (cells + mc) (slots + ms) Q (F0 m pc ls rest) q9)
    (kk : ∀ (r : UInt32) (u : S) (t : State) (H1 : Heap) (locs1 : List Loc), t.heap = H1 → s.vm.Alike t.vm → post r u → B u t → H.size ≤ H1.size → (∀ q : Nat, q < H.size → ¬ A1 q → H1[q]? = H[q]?) → va_S A0 H0 H1 locs1 → W p l e R s m args below meth c H1 locs1 (cells + mc) (slots + ms) Q (F0 m (pc + 3) ls (.float r :: rest))) : W p l e R s m args below meth c H locs cells slots Q (F0 m pc ls st0) := by
  intro T hT X
  rcases hr T hT X with ⟨v, st₀, t, T', L, h0, X', hL, e1, e2, ⟨⟨r, u, hv, hp, hb⟩, hF⟩, st⟩ | ⟨q, st₀, t, T', L, E, ce, h0, X', hL, e1, e2, ⟨u, hp, hb, hF⟩, hce, hcv, hcl, st⟩
  · cases hv
    obtain ⟨k1, k2, k3⟩ := vx_keep h0 e1 hS hA hf hL hF
    obtain ⟨t2, a1, b1⟩ := kk r u t T'.heap (locs ++ L) e1.symm (by rw [← e2]; exact X'.warmed.alike) hp hb k1 k2 k3 T' rfl X'
    exact ⟨t2, st t2 a1, b1⟩
  · obtain ⟨k1, k2, k3⟩ := vx_keep h0 e1 hS hAX hf hL hF
    obtain ⟨t2, a1, b1⟩ := kx E ce q u t T'.heap (locs ++ L) e1.symm (by rw [← e2]; exact X'.warmed.alike) hp hb k1 k2 k3 (by rw [e1]; exact hce) hcv hcl T' rfl X'
    exact ⟨t2, st.trans a1, b1⟩
theorem vx_calld {S SX : Type} {post : UInt64 → S → Prop} {px : SX → Prop} {B : S → State → Prop} {BX : String → SX → State → Prop} {AX : Nat → Prop} (hr : vx_Run p l e R s m args below meth c H locs cells slots mc ms (F0 m pc ls st0) rest (va_Qd post B A1 a) (vx_X px BX AX) free) (hS : va_S A0 H0 H locs) (hA : ∀ q, q < H.size → A1 q → A0 q) (hf : ∀ q, free q → A0 q) (hAX : ∀ q, q < H.size → AX q → A0 q)
    (kx : ∀ (E : String) (ce : Cell) (q9 : Addr) (u : SX) (t : State) (H1 : Heap) (locs1 : List Loc), t.heap = H1 → s.vm.Alike t.vm → px u → BX E u t → H.size ≤ H1.size → (∀ q : Nat, q < H.size → ¬ AX q → H1[q]? = H[q]?) → va_S A0 H0 H1 locs1 → H1[q9]? = some ce → ce.vm = .none → s.vm.findClass E = some ce.cls → vx_W p l e R s m args below meth c H1 locs1 (cells + mc) (slots + ms) Q (F0 m pc ls rest) q9)
    (kk : ∀ (r : UInt64) (u : S) (t : State) (H1 : Heap) (locs1 : List Loc), t.heap = H1 → s.vm.Alike t.vm → post r u → B u t → H.size ≤ H1.size → (∀ q : Nat, q < H.size → ¬ A1 q → H1[q]? = H[q]?) → va_S A0 H0 H1 locs1 → W p l e R s m args below meth c H1 locs1 (cells + mc) (slots + ms) Q (F0 m (pc + 3) ls (.double r :: rest))) : W p l e R s m args below meth c H locs cells slots Q (F0 m pc ls st0) := by
  intro T hT X
  rcases hr T hT X with ⟨v, st₀, t, T', L, h0, X', hL, e1, e2, ⟨⟨r, u, hv, hp, hb⟩, hF⟩, st⟩ | ⟨q, st₀, t, T', L, E, ce, h0, X', hL, e1, e2, ⟨u, hp, hb, hF⟩, hce, hcv, hcl, st⟩
  · cases hv
    obtain ⟨k1, k2, k3⟩ := vx_keep h0 e1 hS hA hf hL hF
    obtain ⟨t2, a1, b1⟩ := kk r u t T'.heap (locs ++ L) e1.symm (by rw [← e2]; exact X'.warmed.alike) hp hb k1 k2 k3 T' rfl X'
    exact ⟨t2, st t2 a1, b1⟩
  · obtain ⟨k1, k2, k3⟩ := vx_keep h0 e1 hS hAX hf hL hF
    obtain ⟨t2, a1, b1⟩ := kx E ce q u t T'.heap (locs ++ L) e1.symm (by rw [← e2]; exact X'.warmed.alike) hp hb k1 k2 k3 (by rw [e1]; exact hce) hcv hcl T' rfl X'
    exact ⟨t2, st.trans a1, b1⟩
theorem vx_callv {S SX : Type} {post : S → Prop} {px : SX → Prop} {B : S → State → Prop} {BX : String → SX → State → Prop} {AX : Nat → Prop} (hr : vx_Run p l e R s m args below meth c H locs cells slots mc ms (F0 m pc ls st0) rest (va_Qv post B A1 a) (vx_X px BX AX) free) (hS : va_S A0 H0 H locs) (hA : ∀ q, q < H.size → A1 q → A0 q) (hf : ∀ q, free q → A0 q) (hAX : ∀ q, q < H.size → AX q → A0 q)
    (kx : ∀ (E : String) (ce : Cell) (q9 : Addr) (u : SX) (t : State) (H1 : Heap) (locs1 : List Loc), t.heap = H1 → s.vm.Alike t.vm → px u → BX E u t → H.size ≤ H1.size → (∀ q : Nat, q < H.size → ¬ AX q → H1[q]? = H[q]?) → va_S A0 H0 H1 locs1 → H1[q9]? = some ce → ce.vm = .none → s.vm.findClass E = some ce.cls → vx_W p l e R s m args below meth c H1 locs1 (cells + mc) (slots + ms) Q (F0 m pc ls rest) q9)
    (kk : ∀ (u : S) (t : State) (H1 : Heap) (locs1 : List Loc), t.heap = H1 → s.vm.Alike t.vm → post u → B u t → H.size ≤ H1.size → (∀ q : Nat, q < H.size → ¬ A1 q → H1[q]? = H[q]?) → va_S A0 H0 H1 locs1 → W p l e R s m args below meth c H1 locs1 (cells + mc) (slots + ms) Q (F0 m (pc + 3) ls (rest))) : W p l e R s m args below meth c H locs cells slots Q (F0 m pc ls st0) := by
  intro T hT X
  rcases hr T hT X with ⟨v, st₀, t, T', L, h0, X', hL, e1, e2, ⟨⟨u, hv, hp, hb⟩, hF⟩, st⟩ | ⟨q, st₀, t, T', L, E, ce, h0, X', hL, e1, e2, ⟨u, hp, hb, hF⟩, hce, hcv, hcl, st⟩
  · cases hv
    obtain ⟨k1, k2, k3⟩ := vx_keep h0 e1 hS hA hf hL hF
    obtain ⟨t2, a1, b1⟩ := kk u t T'.heap (locs ++ L) e1.symm (by rw [← e2]; exact X'.warmed.alike) hp hb k1 k2 k3 T' rfl X'
    exact ⟨t2, st t2 a1, b1⟩
  · obtain ⟨k1, k2, k3⟩ := vx_keep h0 e1 hS hAX hf hL hF
    obtain ⟨t2, a1, b1⟩ := kx E ce q u t T'.heap (locs ++ L) e1.symm (by rw [← e2]; exact X'.warmed.alike) hp hb k1 k2 k3 (by rw [e1]; exact hce) hcv hcl T' rfl X'
    exact ⟨t2, st.trans a1, b1⟩
/-- caught by the row x of this method's table; the rows ahead don't take it -/
theorem vx_catch {own name : String} {E : String} {ce : Cell} {q : Addr} (hown : s.vm.findClass own = some m.cls) (pre : List ExceptionTableEntry) (x : ExceptionTableEntry) (suf : List ExceptionTableEntry) (hsplit : c.exceptionTable.toList = pre ++ x :: suf)
    (hpass : ∀ z ∈ pre, covers z pc = false ∨ (z.catchType ≠ 0 ∧ ∃ nm : String, (Cond.classLink own z.catchType nm).before args s = true ∧ va_Nc E nm s)) (hx : covers x pc = true) (h0 : x.catchType ≠ 0)
    (hlink : (Cond.classLink own x.catchType name).before args s = true) (hcast : (Cond.castable E name).before args s = true) (hcell : H[q]? = some ce) (hv : ce.vm = .none) (hcl : s.vm.findClass E = some ce.cls)
    (kk : W p l e R s m args below meth c H locs cells slots Q (F0 m x.handlerPc ls [.ref q])) : vx_W p l e R s m args below meth c H locs cells slots Q (F0 m pc ls rest) q := by
  intro T hT X
  have hpl : e.platform.magicAccessors = ({} : Platform).magicAccessors := by rw [X.admits.platform]
  obtain ⟨c3, c4, hc3, hc4, hasg⟩ := Cond.castable_spec hcast
  cases Option.some.inj (hc3.symm.trans hcl)
  obtain ⟨c5, hc5, hcl5⟩ := Cond.classLink_spec hown hlink e.platform hpl
  cases Option.some.inj (hc4.symm.trans hc5)
  obtain ⟨vm', X', st⟩ := X.thenCaughtThrough q (g := F0 m pc ls rest) rfl (Steps.refl _) (by rw [hT]; exact hcell) (by rw [hv]; rfl) (by obtain ⟨k9, h9, -⟩ := Vm.findClass_spec hcl; exact ⟨k9, h9⟩) pre x suf hsplit
    (fun z hz => by
      rcases hpass z hz with h | ⟨hz0, nm, hl1, hn1⟩
      · exact Or.inl h
      · obtain ⟨c6, hc6, hcl6⟩ := Cond.classLink_spec hown hl1 e.platform hpl
        obtain ⟨a8, b8, h1, h2, h3⟩ := hn1
        cases Option.some.inj (h1.symm.trans hcl)
        cases Option.some.inj (h2.symm.trans hc6)
        exact Or.inr ⟨hz0, _, hcl6, h3⟩) hx (Or.inr ⟨h0, c4, hcl5, hasg⟩)
  obtain ⟨t, a1, b1⟩ := kk (T.setVm vm') hT X'
  exact ⟨t, st.trans a1, b1⟩
end Rows
section Ends
variable {p : Program} {l : Launch} {e : Env} {R : Room} {s : State} {m : MethodId} {args : Array Value} {below : List Frame} {meth : Method} {c : Code} {H : Heap} {locs : List Loc} {cells slots : Nat} {Q : State → Prop}
variable {mc ms : Nat} {free : Addr → Prop} {A0 A1 : Nat → Prop} {H0 : Heap} {a : Array Value} {ls : Array Slot} {st0 rest : List Value}
variable {Qc : Array Value → State → Outcome → State → Prop} {XC : String → State → State → Prop}
/-- what a body that may throw owes at its end -/
def vx_MQ (below : List Frame) (Qc : Array Value → State → Outcome → State → Prop) (XC : String → State → State → Prop) (a : Array Value) (s : State) (mc ms : Nat) (free : Addr → Prop) : State → Prop := fun t =>
  ∃ o, t.status = .running ∧ Ended t below o ∧ vx_Q Qc XC mc ms free a s o t
theorem vx_ret {g : JFrame} {mc ms : Nat} (k : W p l e R s m args below meth c H locs cells slots (MQ below Qc args s mc ms free) g) : W p l e R s m args below meth c H locs cells slots (vx_MQ below Qc XC args s mc ms free) g := by
  intro T hT X
  obtain ⟨t, a1, o, b1, b2, b3, b4⟩ := k T hT X
  exact ⟨t, a1, o, b1, b2, Or.inl ⟨b3, b4⟩⟩
/-- not caught here: it goes on to the caller -/
theorem vx_widen {g : JFrame} {q : Addr} {k n : Nat} (h1 : cells ≤ k) (h2 : slots ≤ n) (kk : vx_W p l e R s m args below meth c H locs k n Q g q) : vx_W p l e R s m args below meth c H locs cells slots Q g q := fun T hT X => kk T hT (stand_widen X h1 h2)
theorem vx_out {pc : Nat} {E : String} {ce : Cell} {q : Addr} {mc ms : Nat} (hout : ∀ x ∈ c.exceptionTable.toList, covers x pc = false) (hlocks : meth.locks = false) (hcell : H[q]? = some ce) (hv : ce.vm = .none) (hcl : s.vm.findClass E = some ce.cls)
    (hx : ∀ t : State, t.heap = H → s.vm.Alike t.vm → XC E s t) (hf : ∀ z ∈ locs, free z.base) (hc : cells ≤ mc) (hs : slots ≤ ms) :
    vx_W p l e R s m args below meth c H locs cells slots (vx_MQ below Qc XC args s mc ms free) (F0 m pc ls rest) q := by
  intro T hT X
  obtain ⟨st1, hrun, hend, hW, hsm⟩ := X.leaveThrown q (g := F0 m pc ls rest) rfl rfl rfl hout hlocks
  have hcell9 : (T.setFrames (.throwing q :: below)).heap[q]? = some ce := by
    show T.heap[q]? = some ce
    rw [hT]; exact hcell
  exact ⟨_, st1, .threw q, hrun, hend, Or.inr ⟨q, rfl, E, ce, locs, hx _ hT hW.alike, hcell9, hv, hcl, hW, hsm.mono hc hs, hf⟩⟩
theorem vx_frame {U : State} {k n : Nat} (h : s.sameButNew ({ U with vm := s.vm } : State) locs k n) : s.heap.size ≤ U.heap.size ∧ ∀ q : Nat, q < s.heap.size → (∀ z ∈ locs, z.base ≠ q) → U.heap[q]? = s.heap[q]? := by
  obtain ⟨-, h2, -, -, -, h6⟩ := h
  refine ⟨h2, fun q hq hz => ?_⟩
  obtain ⟨c9, e1, e2, e3, e4⟩ := h6 q _ (Array.getElem?_eq_getElem hq)
  have hs : c9.slots = (s.heap[q]).slots := Array.ext_getElem? fun i => e4 i fun hm => hz _ hm rfl
  have h9 : c9 = s.heap[q] := by
    rw [hs] at e2
    exact e2
  have e5 : U.heap[q]? = some c9 := e1
  rw [e5, h9, Array.getElem?_eq_getElem hq]
/-- the words of a throw but the four that speak of the heap -/
def vx_no (w : Cond) : Bool := decide (w ≠ .isRef (.static Bundle.tN "UNASSIGNED_STACK" Bundle.steD)) && decide (w ≠ .isRef (.static Bundle.tN "SUPPRESSED_SENTINEL" Bundle.listD)) && decide (w ≠ .laysStatic Bundle.tN "UNASSIGNED_STACK" Bundle.steD) && decide (w ≠ .laysStatic Bundle.tN "SUPPRESSED_SENTINEL" Bundle.listD)
def vx_at0 (own : String) (ic : Nat) (X : String) (names : List String) : List Cond := (Bundle.ownAtoms0 own ic X names).filter vx_no
def vx_atS (own : String) (ic : Nat) (X : String) (names : List String) : List Cond := (Bundle.ownAtoms own ic X names).filter vx_no
/-- a word that the tables alone decide, or a good one -/
def vx_ot (w : Cond) : Bool := w.onTables || goodWord w
theorem vx_ot_at {args a' : Array Value} {s U : State} {w : Cond} (hW : s.WarmedH U.vm) (hvm : s.vm = U.vm) (hg : vx_ot w = true) (h : w.before args s = true) : w.before a' U = true := by
  simp only [vx_ot, Bool.or_eq_true] at hg
  rcases hg with hg | hg
  · exact va_tabs hg hvm h
  · exact word_at hW (good_of_word hg) h
/-- a list's words: the good ones out of the method's own list, the others by premises of their own -/
theorem vx_hat {args : Array Value} {s : State} {L B : List Cond} (h1 : ∀ w ∈ L.filter goodWord, w.before args s = true) (h2 : ∀ w ∈ L.filter (fun w => !goodWord w), w ∈ B) (h3 : ∀ w ∈ B, w.before args s = true) : ∀ w ∈ L, w.before args s = true := by
  intro w hw
  by_cases g : goodWord w = true
  · exact h1 w (List.mem_filter.mpr ⟨hw, g⟩)
  · refine h3 w (h2 w (List.mem_filter.mpr ⟨hw, ?_⟩))
    show (!goodWord w) = true
    cases hgw : goodWord w
    · rfl
    · exact absurd hgw g
theorem vx_c {args : Array Value} {s : State} {w : Cond} {B : List Cond} (h : w.before args s = true) (t : ∀ w ∈ B, w.before args s = true) : ∀ w' ∈ w :: B, w'.before args s = true := fun w' h' => (List.mem_cons.mp h').elim (fun e => by rw [e]; exact h) (t w')
theorem vx_n {args : Array Value} {s : State} : ∀ w ∈ ([] : List Cond), w.before args s = true := fun _ h => nomatch h
theorem vx_own {args : Array Value} {s : State} {L : List Cond} (h1 : ∀ w ∈ L.filter vx_no, w.before args s = true)
    (hU : (Cond.isRef (.static Bundle.tN "UNASSIGNED_STACK" Bundle.steD)).before args s = true) (hN : (Cond.isRef (.static Bundle.tN "SUPPRESSED_SENTINEL" Bundle.listD)).before args s = true)
    (lU : (Cond.laysStatic Bundle.tN "UNASSIGNED_STACK" Bundle.steD).before args s = true) (lN : (Cond.laysStatic Bundle.tN "SUPPRESSED_SENTINEL" Bundle.listD).before args s = true) : ∀ w ∈ L, w.before args s = true := by
  intro w hw
  by_cases e1 : w = .isRef (.static Bundle.tN "UNASSIGNED_STACK" Bundle.steD)
  · rw [e1]; exact hU
  · by_cases e2 : w = .isRef (.static Bundle.tN "SUPPRESSED_SENTINEL" Bundle.listD)
    · rw [e2]; exact hN
    · by_cases e3 : w = .laysStatic Bundle.tN "UNASSIGNED_STACK" Bundle.steD
      · rw [e3]; exact lU
      · by_cases e4 : w = .laysStatic Bundle.tN "SUPPRESSED_SENTINEL" Bundle.listD
        · rw [e4]; exact lN
        · exact h1 w (List.mem_filter.mpr ⟨hw, by unfold vx_no; rw [decide_eq_true e1, decide_eq_true e2, decide_eq_true e3, decide_eq_true e4]; rfl⟩)
/-- where a static field lies, its class's statics cell in H -/
def vx_L (C n d : String) (A : Nat → Prop) (U : State) (H : Heap) : Prop := ∃ (c : ClassId) (k : Class) (i : Nat) (f : Field) (a : Nat) (cell : Cell), U.vm.findClass C = some c ∧ U.fieldFound? C n d = some (c, k, i, f) ∧ f.isStatic = true ∧ k.statics = some a ∧ H[a]? = some cell ∧ cell.vm.isStatics = true ∧ cell.cls = c ∧ f.slot < cell.slots.size ∧ k.staticTypes[f.slot]? = some f.type ∧ ¬ A a
theorem vx_L.moved {C n d : String} {A : Nat → Prop} {u U : State} {H : Heap} (hvm : u.vm.Alike U.vm) (h : vx_L C n d A u H) : vx_L C n d A U H := by
  obtain ⟨c, k, i, f, a, cell, h1, h2, h3, h4, h5, h6, h7, h8, h9, h10⟩ := h
  obtain ⟨k', hi', he⟩ := State.fieldFound?_setVm hvm h2
  exact ⟨c, k', i, f, a, cell, by rw [hvm.findClass]; exact h1, hi', h3, by rw [he]; exact h4, h5, h6, h7, h8, by rw [he]; exact h9, h10⟩
theorem vx_L.kept {C n d : String} {A : Nat → Prop} {U : State} {H H1 : Heap} (h : vx_L C n d A U H) (hq : ∀ a : Nat, a < H.size → ¬ A a → H1[a]? = H[a]?) : vx_L C n d A U H1 := by
  obtain ⟨c, k, i, f, a, cell, h1, h2, h3, h4, h5, h6, h7, h8, h9, h10⟩ := h
  exact ⟨c, k, i, f, a, cell, h1, h2, h3, h4, by rw [hq a (Array.getElem?_eq_some_iff.mp h5).1 h10]; exact h5, h6, h7, h8, h9, h10⟩
theorem vx_L.narrow {C n d : String} {A B : Nat → Prop} {U : State} {H : Heap} (h : vx_L C n d A U H) (hAB : ∀ q, B q → A q) : vx_L C n d B U H := by
  obtain ⟨c, k, i, f, a, cell, h1, h2, h3, h4, h5, h6, h7, h8, h9, h10⟩ := h
  exact ⟨c, k, i, f, a, cell, h1, h2, h3, h4, h5, h6, h7, h8, h9, fun z => h10 (hAB _ z)⟩
theorem vx_L.word {C n d : String} {A : Nat → Prop} {s : State} {args : Array Value} (h : vx_L C n d A s s.heap) : (Cond.laysStatic C n d).before args s = true := by
  obtain ⟨c, k, i, f, a, cell, h1, h2, h3, h4, h5, h6, h7, h8, h9, -⟩ := h
  show (Cond.laysStatic C n d).holds args s none s [] = true
  exact Cond.laysStatic_of h1 h2 h3 h4 h5 h6 h7 h8 h9
/-- .. and what it holds: null or some reference -/
def vx_Zq (C n d : String) (A : Nat → Prop) (U : State) (H : Heap) : Prop := va_Zq C n d A U H ∧ vx_L C n d A U H
theorem vx_Zq.moved {C n d : String} {A : Nat → Prop} {u U : State} {H : Heap} (hvm : u.vm.Alike U.vm) (h : vx_Zq C n d A u H) : vx_Zq C n d A U H := ⟨va_Zq.moved hvm h.1, vx_L.moved hvm h.2⟩
theorem vx_Zq.kept {C n d : String} {A : Nat → Prop} {U : State} {H H1 : Heap} (h : vx_Zq C n d A U H) (hq : ∀ a : Nat, a < H.size → ¬ A a → H1[a]? = H[a]?) : vx_Zq C n d A U H1 := ⟨va_Zq.kept h.1 hq, vx_L.kept h.2 hq⟩
theorem vx_Zq.narrow {C n d : String} {A B : Nat → Prop} {U : State} {H : Heap} (h : vx_Zq C n d A U H) (hAB : ∀ q, B q → A q) : vx_Zq C n d B U H := ⟨va_Zq.narrow h.1 hAB, vx_L.narrow h.2 hAB⟩
theorem vx_Zqof {args : Array Value} {s : State} {C n d : String} {A : Nat → Prop} (hl : (Cond.laysStatic C n d).before args s = true) (hini : (Cond.initialized C).before args s = true) (h : (Cond.isRef (.static C n d)).before args s = true) (hA : ∀ a : Nat, a < s.heap.size → ¬ A a) : vx_Zq C n d A s s.heap := by
  refine ⟨va_Zqof hl hini h hA, ?_⟩
  obtain ⟨c, k, i, f, a, cell, h1, h2, h3, h4, h5, h6, h7, h8, h9⟩ := Cond.laysStatic_spec hl
  exact ⟨c, k, i, f, a, cell, h1, h2, h3, h4, h5, h6, h7, h8, h9, hA a (Array.getElem?_eq_some_iff.mp h5).1⟩
theorem vx_isRef {C n d : String} {v : Value} {A : Nat → Prop} {s : State} {args : Array Value} (h : va_Z C n d v A s s.heap) (hv : v.isRef = true) : (Cond.isRef (.static C n d)).before args s = true := by
  obtain ⟨cf, kf, fi, f, a, cell, h1, h2, h3, h4, h5, h6, h7, -⟩ := h
  have he : (Term.static C n d).eval args s none [] s = some v := by
    simp [Term.eval, State.fieldNamed?, h1, h2, h4, h5, h6, h7]
  simp only [Cond.before, Cond.holds, Cond.value, he]
  cases v <;> simp_all [Value.isRef]
theorem vx_isRefq {C n d : String} {A : Nat → Prop} {s : State} {args : Array Value} (h : va_Zq C n d A s s.heap) : (Cond.isRef (.static C n d)).before args s = true := by
  rcases h with h | ⟨t, h⟩
  · exact vx_isRef h rfl
  · exact vx_isRef h rfl
/-- the same frame, seen from here: as if the method were called anew in this heap -/
theorem vx_rebase {T : State} (X : Stand p l e R s m args below meth c T locs cells slots) {R' : Room} (hf : R'.frames ≤ R.frames) (hl : R'.locals ≤ R.locals) (hc : cells + R'.cells ≤ R.cells) (hs : slots + R'.slots ≤ R.slots) :
    Stand p l e R' ((T.setVm s.vm).setFrames (.invoking m args :: below)) m args below meth c T [] 0 0 := by
  have htop : (T.setVm s.vm).topJava?.isSome := X.here.top
  have hF : ((T.setVm s.vm).setFrames (.invoking m args :: below)).frames = .invoking m args :: below := State.frames_setFrames _ (State.cur_lt_of_top htop)
  obtain ⟨g₀, hg0⟩ := Option.isSome_iff_exists.mp htop
  obtain ⟨r, hr⟩ := State.topJava?_eq_some.mp hg0
  have hl9 : e.platform.stackLimits (T.setVm s.vm).me = e.platform.stackLimits s.me := X.limits
  have hb9 : (T.setVm s.vm).me.stackBytes = s.me.stackBytes := X.bytes
  refine ⟨X.admits, X.cas, X.clock, hF, ?_, X.hears, X.method, X.code, X.here, X.tail, X.warmed, ?_, ?_, ?_⟩
  · have h := X.room
    have hU : ((T.setVm s.vm).setFrames (.invoking m args :: below)).localsInUse = s.localsInUse := by
      rw [State.localsInUse_invoking hF (meth := meth) (c := c) X.method X.code, State.localsInUse_invoking X.frames X.method X.code]
    simp only [State.hasRoom, Bool.and_eq_true, decide_eq_true_eq] at h ⊢
    obtain ⟨⟨⟨⟨h1, h2, h3, h4, h5, h6⟩, h7⟩, h8⟩, h9⟩ := h
    rw [X.frames, List.length_cons] at h2 h3
    have q1 := X.heapSize
    have q2 := X.used
    simp only [hF, hU, List.length_cons, State.stackLimits_setFrames, State.stackBytes_setFrames, hl9, hb9]
    refine ⟨⟨⟨⟨by omega, by omega, by omega, by omega, by omega, h6⟩, ?_⟩, ?_⟩, X.book⟩
    · show T.heap.size + R'.cells ≤ e.platform.maxCells
      omega
    · show T.slotsUsed + R'.slots ≤ e.platform.maxSlots
      omega
  · rw [State.stackLimits_setFrames]; rfl
  · rw [State.stackBytes_setFrames]; rfl
  · refine ⟨?_, Nat.le_refl _, Nat.le_refl _, ?_, ?_, fun a c9 h9 => ⟨c9, h9, rfl, rfl, fun _ _ => rfl⟩⟩
    · obtain ⟨t, ht, -⟩ := State.frames_cons hr
      show T.setVm s.vm = { ((T.setVm s.vm).setFrames (.invoking m args :: below)).setFrames (T.setVm s.vm).frames with heap := T.heap, slotsUsed := T.slotsUsed }
      rw [State.setFrames_setFrames, State.setFrames_self ht]
      rfl
    · show T.slotsUsed = T.slotsUsed + ((T.heap.toList.drop T.heap.size).map (·.slots.size)).sum
      rw [List.drop_eq_nil_of_le (Nat.le_of_eq Array.length_toList)]
      rfl
    · show ((T.heap.toList.drop T.heap.size).map (·.slots.size)).sum ≤ 0
      rw [List.drop_eq_nil_of_le (Nat.le_of_eq Array.length_toList)]
      exact Nat.le_refl _
/-- 'throw new E()': new; dup; invokespecial; athrow -/
theorem vx_throw0 {cc : ByteArray} {pc : Nat} (hexec : p.tables.exec = Jvm.exec) (hb : c.code = cc) (hl : l.stackTraces = false) {own cls : String} {names : List String} {ik ic mc ms : Nat} {A : Nat → Prop}
    (hown : s.vm.findClass own = some m.cls) (hcls : Bundle.fit cls = true) (hnames : ∀ n ∈ names, Bundle.fit n = true)
    (hk : (Cond.classLink own ik cls).before args s = true) (hini : (Cond.initialized cls).before args s = true) (hat : ∀ w ∈ vx_at0 own ic cls names, w.before args s = true)
    (hgood : ∀ w ∈ Cond.classLink own ik cls :: Cond.initialized cls :: vx_at0 own ic cls names, vx_ot w = true)
    (hU : vx_Zq Bundle.tN "UNASSIGNED_STACK" Bundle.steD A s s.heap) (hN : vx_Zq Bundle.tN "SUPPRESSED_SENTINEL" Bundle.listD A s s.heap) (hS : va_S A s.heap H locs) (hsize : ls.size = c.maxLocals)
    (d0 : decode cc pc = .ok (.new ik, 3)) (d3 : decode cc (pc + 3) = .ok (.dup, 1)) (d4 : decode cc (pc + 4) = .ok (.invokespecial ic, 3)) (d7 : decode cc (pc + 7) = .ok (.athrow, 1))
    (hout : ∀ x ∈ c.exceptionTable.toList, covers x (pc + 7) = false)
    (hRframes : names.length + 3 < R.frames) (hRlocals : (rest.map fun v => v.category).sum + (13 * (names.length + 1) + 42) ≤ R.locals) (hRcells : cells + 1 ≤ R.cells) (hRslots : slots + 6 ≤ R.slots) (hlocks : meth.locks = false)
    (hx : ∀ t : State, s.vm.Alike t.vm → H.size ≤ t.heap.size → (∀ q : Nat, q < H.size → t.heap[q]? = H[q]?) → XC cls s t)
    (hf : ∀ z ∈ locs, free z.base) (hc : cells + 1 ≤ mc) (hs : slots + 6 ≤ ms) :
    W p l e R s m args below meth c H locs cells slots (vx_MQ below Qc XC args s mc ms free) (F0 m pc ls rest) := by
  intro T hT X
  have htr : e.platform.stackTraces = false := (show e.platform.stackTraces = l.stackTraces by rw [X.admits.platform]).trans hl
  have Y := vx_rebase X (R' := { frames := R.frames, locals := R.locals, cells := 1, slots := 6 }) (Nat.le_refl _) (Nat.le_refl _) hRcells hRslots
  obtain ⟨s', hA⟩ : ∃ z, z = (T.setVm s.vm).setFrames (.invoking m args :: below) := ⟨_, rfl⟩
  rw [← hA] at Y
  have hvm : s'.vm = s.vm := by rw [hA]; rfl
  have hhp : s'.heap = H := by rw [hA]; exact hT
  have hW0 : s.WarmedH s'.vm := by rw [hvm]; exact State.WarmedH.refl s
  have hat' : ∀ w ∈ vx_at0 own ic cls names, w.before args s' = true := fun w hw => vx_ot_at hW0 hvm.symm (hgood w (List.mem_cons_of_mem _ (List.mem_cons_of_mem _ hw))) (hat w hw)
  have hk' : (Cond.classLink own ik cls).before args s' = true := vx_ot_at hW0 hvm.symm (hgood _ List.mem_cons_self) hk
  have hini' : (Cond.initialized cls).before args s' = true := vx_ot_at hW0 hvm.symm (hgood _ (List.mem_cons_of_mem _ List.mem_cons_self)) hini
  have hU' : vx_Zq Bundle.tN "UNASSIGNED_STACK" Bundle.steD A s' s'.heap := by rw [hhp]; exact vx_Zq.moved hW0.alike (hU.kept hS.2.1)
  have hN' : vx_Zq Bundle.tN "SUPPRESSED_SENTINEL" Bundle.listD A s' s'.heap := by rw [hhp]; exact vx_Zq.moved hW0.alike (hN.kept hS.2.1)
  have h : ∀ w ∈ Bundle.ownAtoms0 own ic cls names, w.before args s' = true := vx_own hat' (vx_isRefq hU'.1) (vx_isRefq hN'.1) hU'.2.word hN'.2.word
  have hown' : s'.vm.findClass own = some m.cls := by rw [hvm]; exact hown
  have hins : (Cond.instantiable cls 6).before args s' = true := h _ (by simp [Bundle.ownAtoms0])
  obtain ⟨vm₁, cX, kX, hfX, hkX, -, -, X₁, st1⟩ := Y.newCold hexec (own := own) (C := cls) (index := ik) (n := 6) hown' hk' hins hini'
    (g := F0 m pc ls rest) rfl (by rw [hb]; exact d0) (Nat.le_refl _) (Nat.le_refl _)
  generalize hT1 : (T.setVm vm₁).pushCell { cls := cX, slots := kX.instanceTypes.map defaultValue, vm := .none } = T1 at X₁ st1
  have hcat : (Value.ref T.heap.size).category = 1 := rfl
  have hcellA : T1.heap[T.heap.size]? = some (freshCell cX kX) := by rw [← hT1]; exact State.heap_pushCell_size _ _
  have d3' : decode c.code (pc + 3) = .ok (.dup, 1) := by rw [hb]; exact d3
  obtain ⟨U, hsteps, hrun, hend, hW, hsame, ce, hce, hO⟩ := X₁.ctorThrow0 hexec htr (own := own) (cls := cls) (names := names) (ic := ic) hown' hcls hnames h (fun x hx => nomatch hx) hfX hkX hcellA (by rw [hhp, hT]; exact Nat.le_refl _)
    (g := { method := m, pc := pc + 4, locals := ls, stack := .ref T.heap.size :: .ref T.heap.size :: rest, locked := none }) rfl hsize rfl rfl (rest := rest) rfl
    (by rw [hb]; exact d4) (by rw [hb]; exact d7) hout hRframes (by simp only [List.map_cons, List.sum_cons, hcat]; omega) hlocks
  obtain ⟨f1, f2⟩ := vx_frame hsame
  rw [hhp] at f1 f2
  have hWs : s.WarmedH U.vm := State.WarmedH.trans hW0 hW
  have hcl : s.vm.findClass cls = some ce.cls := by
    have h9 := hO.cls
    rw [hvm] at h9
    exact h9
  have hall : s.sameButNew ({ U with vm := s.vm } : State) locs mc ms := by
    subst hA
    obtain ⟨e1, e2⟩ := hsame
    rw [State.setFrames_setFrames] at e1
    have h2 : (T.setVm s.vm).sameButNew ({ U with vm := s.vm } : State) [] (0 + 1) (0 + 6) := ⟨e1, e2⟩
    have h3 := X.same.trans h2
    rw [List.append_nil] at h3
    exact h3.mono hc hs
  refine ⟨U, ?_, .threw T.heap.size, hrun, hend, Or.inr ⟨T.heap.size, rfl, cls, ce, locs, hx U hWs.alike f1 (fun q hq => f2 q hq (fun z hz => nomatch hz)), hce, hO.vm, hcl, hWs, hall, hf⟩⟩
  refine st1 _ ?_
  show Steps p.tables e below (T1.setTop { method := m, pc := pc + 3, locals := ls, stack := .ref T.heap.size :: rest, locked := none }) _
  jvm_step X₁.here [X₁.here.top, hexec, d3', Value.category]
  exact hsteps
/-- 'throw new E("text")': new; dup; ldc; invokespecial; athrow -/
theorem vx_throwS {cc : ByteArray} {pc : Nat} (hexec : p.tables.exec = Jvm.exec) (hb : c.code = cc) (hl : l.stackTraces = false) {own cls text : String} {names : List String} {ik is ic mc ms sa : Nat} {A : Nat → Prop}
    (hown : s.vm.findClass own = some m.cls) (hcls : Bundle.fit cls = true) (hnames : ∀ n ∈ names, Bundle.fit n = true)
    (hk : (Cond.classLink own ik cls).before args s = true) (hini : (Cond.initialized cls).before args s = true) (hstr : vk_R own is text sa s) (hat : ∀ w ∈ vx_atS own ic cls names, w.before args s = true)
    (hgood : ∀ w ∈ Cond.classLink own ik cls :: Cond.initialized cls :: vx_atS own ic cls names, vx_ot w = true)
    (hU : vx_Zq Bundle.tN "UNASSIGNED_STACK" Bundle.steD A s s.heap) (hN : vx_Zq Bundle.tN "SUPPRESSED_SENTINEL" Bundle.listD A s s.heap) (hS : va_S A s.heap H locs) (hsize : ls.size = c.maxLocals)
    (d0 : decode cc pc = .ok (.new ik, 3)) (d3 : decode cc (pc + 3) = .ok (.dup, 1)) (d4 : decode cc (pc + 4) = .ok (.ldc is, 2)) (d6 : decode cc (pc + 6) = .ok (.invokespecial ic, 3)) (d9 : decode cc (pc + 9) = .ok (.athrow, 1))
    (hout : ∀ x ∈ c.exceptionTable.toList, covers x (pc + 9) = false)
    (hRframes : names.length + 3 < R.frames) (hRlocals : (rest.map fun v => v.category).sum + (13 * (names.length + 1) + 43) ≤ R.locals) (hRcells : cells + 1 ≤ R.cells) (hRslots : slots + 6 ≤ R.slots) (hlocks : meth.locks = false)
    (hx : ∀ t : State, s.vm.Alike t.vm → H.size ≤ t.heap.size → (∀ q : Nat, q < H.size → t.heap[q]? = H[q]?) → XC cls s t)
    (hf : ∀ z ∈ locs, free z.base) (hc : cells + 1 ≤ mc) (hs : slots + 6 ≤ ms) :
    W p l e R s m args below meth c H locs cells slots (vx_MQ below Qc XC args s mc ms free) (F0 m pc ls rest) := by
  intro T hT X
  have htr : e.platform.stackTraces = false := (show e.platform.stackTraces = l.stackTraces by rw [X.admits.platform]).trans hl
  have Y := vx_rebase X (R' := { frames := R.frames, locals := R.locals, cells := 1, slots := 6 }) (Nat.le_refl _) (Nat.le_refl _) hRcells hRslots
  obtain ⟨s', hA⟩ : ∃ z, z = (T.setVm s.vm).setFrames (.invoking m args :: below) := ⟨_, rfl⟩
  rw [← hA] at Y
  have hvm : s'.vm = s.vm := by rw [hA]; rfl
  have hhp : s'.heap = H := by rw [hA]; exact hT
  have hW0 : s.WarmedH s'.vm := by rw [hvm]; exact State.WarmedH.refl s
  have hat' : ∀ w ∈ vx_atS own ic cls names, w.before args s' = true := fun w hw => vx_ot_at hW0 hvm.symm (hgood w (List.mem_cons_of_mem _ (List.mem_cons_of_mem _ hw))) (hat w hw)
  have hk' : (Cond.classLink own ik cls).before args s' = true := vx_ot_at hW0 hvm.symm (hgood _ List.mem_cons_self) hk
  have hini' : (Cond.initialized cls).before args s' = true := vx_ot_at hW0 hvm.symm (hgood _ (List.mem_cons_of_mem _ List.mem_cons_self)) hini
  have hU' : vx_Zq Bundle.tN "UNASSIGNED_STACK" Bundle.steD A s' s'.heap := by rw [hhp]; exact vx_Zq.moved hW0.alike (hU.kept hS.2.1)
  have hN' : vx_Zq Bundle.tN "SUPPRESSED_SENTINEL" Bundle.listD A s' s'.heap := by rw [hhp]; exact vx_Zq.moved hW0.alike (hN.kept hS.2.1)
  have h : ∀ w ∈ Bundle.ownAtoms own ic cls names, w.before args s' = true := vx_own hat' (vx_isRefq hU'.1) (vx_isRefq hN'.1) hU'.2.word hN'.2.word
  have hown' : s'.vm.findClass own = some m.cls := by rw [hvm]; exact hown
  have hins : (Cond.instantiable cls 6).before args s' = true := h _ (by simp [Bundle.ownAtoms])
  obtain ⟨vm₁, cX, kX, hfX, hkX, -, -, X₁, st1⟩ := Y.newCold hexec (own := own) (C := cls) (index := ik) (n := 6) hown' hk' hins hini'
    (g := F0 m pc ls rest) rfl (by rw [hb]; exact d0) (Nat.le_refl _) (Nat.le_refl _)
  generalize hT1 : (T.setVm vm₁).pushCell { cls := cX, slots := kX.instanceTypes.map defaultValue, vm := .none } = T1 at X₁ st1
  have hcat : (Value.ref T.heap.size).category = 1 := rfl
  have hcellA : T1.heap[T.heap.size]? = some (freshCell cX kX) := by rw [← hT1]; exact State.heap_pushCell_size _ _
  have d3' : decode c.code (pc + 3) = .ok (.dup, 1) := by rw [hb]; exact d3
  have d4' : decode c.code (pc + 4) = .ok (.ldc is, 2) := by rw [hb]; exact d4
  have hstr' : vk_R own is text sa s' := vk_R.warm hW0 hstr
  obtain ⟨U, hsteps, hrun, hend, hW, hsame, ce, hce, hO⟩ := X₁.ctorThrowS hexec htr (own := own) (cls := cls) (names := names) (ic := ic) hown' hcls hnames h (fun x hx => nomatch hx) hfX hkX hcellA (by rw [hhp, hT]; exact Nat.le_refl _) (msg := .ref sa) rfl
    (g := { method := m, pc := pc + 6, locals := ls, stack := .ref sa :: .ref T.heap.size :: .ref T.heap.size :: rest, locked := none }) rfl hsize rfl rfl (rest := rest) rfl
    (by rw [hb]; exact d6) (by rw [hb]; exact d9) hout hRframes (by simp only [List.map_cons, List.sum_cons, hcat]; omega) hlocks
  obtain ⟨f1, f2⟩ := vx_frame hsame
  rw [hhp] at f1 f2
  have hWs : s.WarmedH U.vm := State.WarmedH.trans hW0 hW
  have hcl : s.vm.findClass cls = some ce.cls := by
    have h9 := hO.cls
    rw [hvm] at h9
    exact h9
  have hall : s.sameButNew ({ U with vm := s.vm } : State) locs mc ms := by
    subst hA
    obtain ⟨e1, e2⟩ := hsame
    rw [State.setFrames_setFrames] at e1
    have h2 : (T.setVm s.vm).sameButNew ({ U with vm := s.vm } : State) [] (0 + 1) (0 + 6) := ⟨e1, e2⟩
    have h3 := X.same.trans h2
    rw [List.append_nil] at h3
    exact h3.mono hc hs
  refine ⟨U, ?_, .threw T.heap.size, hrun, hend, Or.inr ⟨T.heap.size, rfl, cls, ce, locs, hx U hWs.alike f1 (fun q hq => f2 q hq (fun z hz => nomatch hz)), hce, hO.vm, hcl, hWs, hall, hf⟩⟩
  refine st1 _ ?_
  show Steps p.tables e below (T1.setTop { method := m, pc := pc + 3, locals := ls, stack := .ref T.heap.size :: rest, locked := none }) _
  jvm_step X₁.here [X₁.here.top, hexec, d3', Value.category]
  exact X₁.ldcString hexec (own := own) (text := text) (index := is) (a := sa) hown' hstr'.1 hstr'.2
    (g := { method := m, pc := pc + 4, locals := ls, stack := .ref T.heap.size :: .ref T.heap.size :: rest, locked := none }) rfl d4' _ hsteps
/-- 'throw new E("text")', the text by a wide index -/
theorem vx_throwSW {cc : ByteArray} {pc : Nat} (hexec : p.tables.exec = Jvm.exec) (hb : c.code = cc) (hl : l.stackTraces = false) {own cls text : String} {names : List String} {ik is ic mc ms sa : Nat} {A : Nat → Prop}
    (hown : s.vm.findClass own = some m.cls) (hcls : Bundle.fit cls = true) (hnames : ∀ n ∈ names, Bundle.fit n = true)
    (hk : (Cond.classLink own ik cls).before args s = true) (hini : (Cond.initialized cls).before args s = true) (hstr : vk_R own is text sa s) (hat : ∀ w ∈ vx_atS own ic cls names, w.before args s = true)
    (hgood : ∀ w ∈ Cond.classLink own ik cls :: Cond.initialized cls :: vx_atS own ic cls names, vx_ot w = true)
    (hU : vx_Zq Bundle.tN "UNASSIGNED_STACK" Bundle.steD A s s.heap) (hN : vx_Zq Bundle.tN "SUPPRESSED_SENTINEL" Bundle.listD A s s.heap) (hS : va_S A s.heap H locs) (hsize : ls.size = c.maxLocals)
    (d0 : decode cc pc = .ok (.new ik, 3)) (d3 : decode cc (pc + 3) = .ok (.dup, 1)) (d4 : decode cc (pc + 4) = .ok (.ldc_w is, 3)) (d7 : decode cc (pc + 7) = .ok (.invokespecial ic, 3)) (d10 : decode cc (pc + 10) = .ok (.athrow, 1))
    (hout : ∀ x ∈ c.exceptionTable.toList, covers x (pc + 10) = false)
    (hRframes : names.length + 3 < R.frames) (hRlocals : (rest.map fun v => v.category).sum + (13 * (names.length + 1) + 43) ≤ R.locals) (hRcells : cells + 1 ≤ R.cells) (hRslots : slots + 6 ≤ R.slots) (hlocks : meth.locks = false)
    (hx : ∀ t : State, s.vm.Alike t.vm → H.size ≤ t.heap.size → (∀ q : Nat, q < H.size → t.heap[q]? = H[q]?) → XC cls s t)
    (hf : ∀ z ∈ locs, free z.base) (hc : cells + 1 ≤ mc) (hs : slots + 6 ≤ ms) :
    W p l e R s m args below meth c H locs cells slots (vx_MQ below Qc XC args s mc ms free) (F0 m pc ls rest) := by
  intro T hT X
  have htr : e.platform.stackTraces = false := (show e.platform.stackTraces = l.stackTraces by rw [X.admits.platform]).trans hl
  have Y := vx_rebase X (R' := { frames := R.frames, locals := R.locals, cells := 1, slots := 6 }) (Nat.le_refl _) (Nat.le_refl _) hRcells hRslots
  obtain ⟨s', hA⟩ : ∃ z, z = (T.setVm s.vm).setFrames (.invoking m args :: below) := ⟨_, rfl⟩
  rw [← hA] at Y
  have hvm : s'.vm = s.vm := by rw [hA]; rfl
  have hhp : s'.heap = H := by rw [hA]; exact hT
  have hW0 : s.WarmedH s'.vm := by rw [hvm]; exact State.WarmedH.refl s
  have hat' : ∀ w ∈ vx_atS own ic cls names, w.before args s' = true := fun w hw => vx_ot_at hW0 hvm.symm (hgood w (List.mem_cons_of_mem _ (List.mem_cons_of_mem _ hw))) (hat w hw)
  have hk' : (Cond.classLink own ik cls).before args s' = true := vx_ot_at hW0 hvm.symm (hgood _ List.mem_cons_self) hk
  have hini' : (Cond.initialized cls).before args s' = true := vx_ot_at hW0 hvm.symm (hgood _ (List.mem_cons_of_mem _ List.mem_cons_self)) hini
  have hU' : vx_Zq Bundle.tN "UNASSIGNED_STACK" Bundle.steD A s' s'.heap := by rw [hhp]; exact vx_Zq.moved hW0.alike (hU.kept hS.2.1)
  have hN' : vx_Zq Bundle.tN "SUPPRESSED_SENTINEL" Bundle.listD A s' s'.heap := by rw [hhp]; exact vx_Zq.moved hW0.alike (hN.kept hS.2.1)
  have h : ∀ w ∈ Bundle.ownAtoms own ic cls names, w.before args s' = true := vx_own hat' (vx_isRefq hU'.1) (vx_isRefq hN'.1) hU'.2.word hN'.2.word
  have hown' : s'.vm.findClass own = some m.cls := by rw [hvm]; exact hown
  have hins : (Cond.instantiable cls 6).before args s' = true := h _ (by simp [Bundle.ownAtoms])
  obtain ⟨vm₁, cX, kX, hfX, hkX, -, -, X₁, st1⟩ := Y.newCold hexec (own := own) (C := cls) (index := ik) (n := 6) hown' hk' hins hini'
    (g := F0 m pc ls rest) rfl (by rw [hb]; exact d0) (Nat.le_refl _) (Nat.le_refl _)
  generalize hT1 : (T.setVm vm₁).pushCell { cls := cX, slots := kX.instanceTypes.map defaultValue, vm := .none } = T1 at X₁ st1
  have hcat : (Value.ref T.heap.size).category = 1 := rfl
  have hcellA : T1.heap[T.heap.size]? = some (freshCell cX kX) := by rw [← hT1]; exact State.heap_pushCell_size _ _
  have d3' : decode c.code (pc + 3) = .ok (.dup, 1) := by rw [hb]; exact d3
  have d4' : decode c.code (pc + 4) = .ok (.ldc_w is, 3) := by rw [hb]; exact d4
  have hstr' : vk_R own is text sa s' := vk_R.warm hW0 hstr
  obtain ⟨U, hsteps, hrun, hend, hW, hsame, ce, hce, hO⟩ := X₁.ctorThrowS hexec htr (own := own) (cls := cls) (names := names) (ic := ic) hown' hcls hnames h (fun x hx => nomatch hx) hfX hkX hcellA (by rw [hhp, hT]; exact Nat.le_refl _) (msg := .ref sa) rfl
    (g := { method := m, pc := pc + 7, locals := ls, stack := .ref sa :: .ref T.heap.size :: .ref T.heap.size :: rest, locked := none }) rfl hsize rfl rfl (rest := rest) rfl
    (by rw [hb]; exact d7) (by rw [hb]; exact d10) hout hRframes (by simp only [List.map_cons, List.sum_cons, hcat]; omega) hlocks
  obtain ⟨f1, f2⟩ := vx_frame hsame
  rw [hhp] at f1 f2
  have hWs : s.WarmedH U.vm := State.WarmedH.trans hW0 hW
  have hcl : s.vm.findClass cls = some ce.cls := by
    have h9 := hO.cls
    rw [hvm] at h9
    exact h9
  have hall : s.sameButNew ({ U with vm := s.vm } : State) locs mc ms := by
    subst hA
    obtain ⟨e1, e2⟩ := hsame
    rw [State.setFrames_setFrames] at e1
    have h2 : (T.setVm s.vm).sameButNew ({ U with vm := s.vm } : State) [] (0 + 1) (0 + 6) := ⟨e1, e2⟩
    have h3 := X.same.trans h2
    rw [List.append_nil] at h3
    exact h3.mono hc hs
  refine ⟨U, ?_, .threw T.heap.size, hrun, hend, Or.inr ⟨T.heap.size, rfl, cls, ce, locs, hx U hWs.alike f1 (fun q hq => f2 q hq (fun z hz => nomatch hz)), hce, hO.vm, hcl, hWs, hall, hf⟩⟩
  refine st1 _ ?_
  show Steps p.tables e below (T1.setTop { method := m, pc := pc + 3, locals := ls, stack := .ref T.heap.size :: rest, locked := none }) _
  jvm_step X₁.here [X₁.here.top, hexec, d3', Value.category]
  exact X₁.ldcStringW hexec (own := own) (text := text) (index := is) (a := sa) hown' hstr'.1 hstr'.2
    (g := { method := m, pc := pc + 4, locals := ls, stack := .ref T.heap.size :: .ref T.heap.size :: rest, locked := none }) rfl d4' _ hsteps
end Ends
section Bodies
variable {l : Launch}
theorem vx_ofW {y : MethodName} {ws ws' : List Cond} {rm : Room} {Pc : Array Value → State → Prop} {Qc : Array Value → State → Outcome → State → Prop} {XC : String → State → State → Prop} {mc ms : Nat} {free : Addr → Prop} {cc : ByteArray} {maxL : Nat} {ret : Option FieldType}
    (hy : plainName y.cls = true) (hw : ws = Cond.code y cc maxL ret :: ws')
    (body : ∀ p e s m args below meth c s₁, BodyLoose p l y (headSpec ws rm) cc maxL ret e s m args below meth c s₁ → c.maxLocals = maxL → (∀ x ∈ c.exceptionTable.toList, False) → Pc args s →
      W p l e (headSpec ws rm).room s m args below meth c s.heap [] 0 0 (vx_MQ below Qc XC args s mc ms free) (entryFrame m args maxL)) : vx_Met l y ws rm Pc Qc XC mc ms free := by
  refine MetFree.of_bodyS (code := cc) (maxLocals := maxL) (ret := ret) hy ?_ ?_
  · intro args s m h hn
    obtain ⟨meth, c, h1, h2, h3, h4, h5, h6, -, -⟩ := Cond.code_spec hn (atoms_spec (ws := ws) h _ (by rw [hw]; exact List.mem_cons_self))
    exact ⟨meth, c, h1, h2, h3, h4, h5, h6⟩
  · intro p e s m args below meth c s₁ B hml hP _
    have hh0 : s₁.heap = s.heap := by rw [B.state]; rfl
    have ht : ∀ x ∈ c.exceptionTable.toList, False := by
      obtain ⟨meth9, c9, h1, h2, -, -, -, -, h7, -⟩ := Cond.code_spec B.named (atoms_spec (ws := ws) B.pre _ (by rw [hw]; exact List.mem_cons_self))
      cases Option.some.inj (h1.symm.trans B.method)
      cases Option.some.inj (h2.symm.trans (Stand.of_body B).code)
      intro x hx
      rw [Array.isEmpty_iff.mp h7] at hx
      cases hx
    obtain ⟨t, a1, o, b1, b2, b3⟩ := body p e s m args below meth c s₁ B hml ht hP s₁ hh0 (Stand.of_body B)
    exact ⟨t, o, a1, b1, b2, b3⟩
/-- the table of a body with handlers -/
theorem vx_table {p : Program} {x y : MethodName} {S : Spec} {cc bytes : ByteArray} {maxL maxL' : Nat} {ret ret' : Option FieldType} {e : Env} {s s₁ : State} {m : MethodId} {args : Array Value} {below : List Frame} {meth : Method} {c : Code} {hh : List (Nat × Nat × Nat × Nat)}
    (B : BodyLoose p l y S cc maxL ret e s m args below meth c s₁) (h : (Cond.codeWith y bytes maxL' ret' hh).before args s = true) : c.exceptionTable.toList = tableOf hh := by
  obtain ⟨m9, meth9, c9, hn9, h1, h2, -, -, h6, -⟩ := Cond.codeWith_spec h
  cases Option.some.inj (hn9.symm.trans B.named)
  cases Option.some.inj (h1.symm.trans B.method)
  cases Option.some.inj (h2.symm.trans (Stand.of_body B).code)
  rw [← h6, table_eq]
end Bodies
end VXA
/-! ===== END ===== -/
/-! ===== BEGIN a static call of a method with an exception table ===== -/
section VXS
variable {p : Program} {l : Launch} {e : Env} {R : Room} {s : State} {m : MethodId} {args : Array Value} {below : List Frame} {meth : Method} {c : Code} {T : State} {H : Heap} {locs : List Loc} {cells slots : Nat}
abbrev vx_CSW (R : Room) (s : State) (args : Array Value) (own : String) (index : Nat) (y : MethodName) (bytes : ByteArray) (maxL : Nat) (ret : Option FieldType) (hh : List (Nat × Nat × Nat × Nat)) (ws : List Cond) (rm : Room) (mc ms n : Nat) : Prop :=
  (rm.cells = mc ∧ rm.slots = ms ∧ rm.frames + 1 ≤ R.frames ∧ 8 + (maxL + 11) + rm.locals ≤ R.locals ∧ (∀ w ∈ ws, ∀ (a' : Array Value) (U : State), s.WarmedH U.vm → w.before a' U = true) ∧ Cond.codeWith y bytes maxL ret hh ∈ ws) ∧
  (Cond.codeWith y bytes maxL ret hh).before args s = true ∧ (Cond.initialized y.cls).before args s = true ∧ (y.cls ≠ "java/lang/invoke/MethodHandle" ∧ y.cls ≠ "java/lang/invoke/VarHandle") ∧
  (∀ sig, parseMethodDescriptor y.desc = some sig → n = sig.parameters.length) ∧ (Cond.methodLink own index y).before args s = true ∧ (Cond.static y).before args s = true
theorem vx_cwSW {own : String} {index maxL mc ms : Nat} {y : MethodName} {bytes : ByteArray} {ret : Option FieldType} {hh : List (Nat × Nat × Nat × Nat)} {Ts ws ws' : List Cond} {rm : Room} (n : Nat) (ht : ∀ w ∈ Ts, w.before args s = true) (hT : GoodIn Ts (va_wsS own index y ws)) (hw : ws = Cond.codeWith y bytes maxL ret hh :: ws') (hrc : rm.cells = mc) (hrs : rm.slots = ms)
    (hd : y.cls ≠ "java/lang/invoke/MethodHandle" ∧ y.cls ≠ "java/lang/invoke/VarHandle" ∧ (parseMethodDescriptor y.desc).map (fun d => d.parameters.length) = some n) (hR : rm.frames + 1 ≤ R.frames ∧ 8 + (maxL + 11) + rm.locals ≤ R.locals) :
    vx_CSW R s args own index y bytes maxL ret hh ws rm mc ms n := by
  have ok : ∀ w ∈ va_wsS own index y ws, w.before args s = true := fun w h => ht w (hT w h).1
  have hG : GoodIn Ts ws := fun w h => hT w (by unfold va_wsS; exact List.mem_append_right _ h)
  have hc : Cond.codeWith y bytes maxL ret hh ∈ ws := by rw [hw]; exact List.mem_cons_self
  refine ⟨⟨hrc, hrs, hR.1, hR.2, pay_in ht hG, hc⟩, ht _ (hG _ hc).1, ok _ (by simp [va_wsS]), ⟨hd.1, hd.2.1⟩, fun sig h => ?_, ok _ (by simp [va_wsS]), ok _ (by simp [va_wsS])⟩
  have h2 := hd.2.2
  rw [h] at h2
  exact (Option.some.inj h2).symm
theorem vx_callSW (X : Stand p l e R s m args below meth c T locs cells slots) (hexec : p.tables.exec = Jvm.exec) {own : String} {index : Nat} {y : MethodName} {bytes : ByteArray} {maxL : Nat} {ret : Option FieldType} {hh : List (Nat × Nat × Nat × Nat)}
    (hown : s.vm.findClass own = some m.cls) (hlink : (Cond.methodLink own index y).before args s = true) (hstat : (Cond.static y).before args s = true) (hinit : (Cond.initialized y.cls).before args s = true)
    (hcode : (Cond.codeWith y bytes maxL ret hh).before args s = true) (hy : y.cls ≠ "java/lang/invoke/MethodHandle" ∧ y.cls ≠ "java/lang/invoke/VarHandle")
    {W9 : Nat} {Pre : Pt → Array Value → Prop} {Post : Pt → Array Value → Option Value → Pt → Prop} (hK : Back l R p e below s args y 3 W9 Pre Post)
    {g : JFrame} (hg : g.method = m) (hsize : g.locals.size = c.maxLocals) {argsL rest : List Value} (hlen : ∀ sig, parseMethodDescriptor y.desc = some sig → argsL.length = sig.parameters.length)
    (hstack : g.stack = argsL.reverse ++ rest) (hW : 2 * g.monitorRoom + (rest.map fun v => v.category).sum ≤ W9) (hdg : decode c.code g.pc = .ok (.invokestatic index, 3))
    (hpre : ∀ vm₁, s.WarmedH vm₁ → Pre ⟨T.setVm vm₁, locs, cells, slots⟩ argsL.toArray) :
    ∃ (v : Option Value) (vm₁ : Vm) (B : Pt), s.WarmedH vm₁ ∧ Stand p l e R s m args below meth c B.U B.locs B.cells B.slots ∧ Post ⟨T.setVm vm₁, locs, cells, slots⟩ argsL.toArray v B ∧
      ∀ target, Steps p.tables e below (B.U.setTop { g with pc := g.pc + 3, stack := v.toList ++ rest }) target → Steps p.tables e below (T.setTop g) target := by
  obtain ⟨mk, methM, cM, hnamed, hmethM, -, -, -, -, -, -, hsigM⟩ := Cond.codeWith_spec hcode
  have hstatic : methM.isStatic = true := Cond.static_spec hnamed hmethM hstat
  obtain ⟨kP, hkP, -⟩ := className_of_methodNamed hnamed
  have hinitP : kP.init = .initialized := Cond.initialized_spec (findClass_of_methodNamed hnamed) hkP hinit
  obtain ⟨vm₁, X₁, hstep₁⟩ := X.invokestatic hexec hown hlink hnamed hmethM hstatic hkP hinitP hy (g := g) hg (argsL := argsL) (rest := rest) (hlen _ hsigM) hstack hdg
  obtain ⟨v, B, X', hpost, hsteps⟩ := hK m meth c ⟨T.setVm vm₁, locs, cells, slots⟩ { g with stack := rest } (.invokestatic index) mk argsL.toArray X₁ hg hsize hdg hW (X₁.named hnamed) (hpre vm₁ X₁.warmed)
  exact ⟨v, vm₁, B, X₁.warmed, X', hpost, fun target h => hstep₁ _ fun acts => by rw [doInvoke_state]; exact hsteps.trans h⟩
theorem vx_runSW {y : MethodName} {bytes cc : ByteArray} {maxL nL mc ms n index : Nat} {ret : Option FieldType} {hh : List (Nat × Nat × Nat × Nat)} {ws : List Cond} {rm : Room} {Pc : Array Value → State → Prop} {Qc : Array Value → State → Outcome → State → Prop} {free : Addr → Prop} {Ts : List Cond} {own : String} {As rest : List Value} {g : JFrame}
    (S : CallFix p m c cc nL s args Ts own) (hM : Met l y ws rm Pc Qc mc ms free) (cw : vx_CSW R s args own index y bytes maxL ret hh ws rm mc ms n) (hp : PreS s H Pc As)
    (hg : g.method = m) (hn : As.length = n) (hsize : g.locals.size = nL) (hstack : g.stack = As.reverse ++ rest) (hW : 2 * g.monitorRoom + (rest.map fun v => v.category).sum ≤ 8) (hdg : decode cc g.pc = .ok (.invokestatic index, 3)) (hf : cells + mc ≤ R.cells ∧ slots + ms ≤ R.slots) :
    va_Run p l e R s m args below meth c H locs cells slots mc ms g rest (Qc As.toArray) (free) := by
  obtain ⟨⟨hrc, hrs, hfr, hlo, hws, hcw⟩, hcode, hini, hy, hlen, hl, hstt⟩ := cw
  have hK : Back l R p e below s args y 3 8 (PreOf R mc ms Pc) (PostOf Qc mc ms free) := va_backW (hh := hh) (bytes := bytes) (maxL := maxL) (ret := ret) hM hp.1 hrc hrs hfr hlo hws hcw (fun a' U hW => word_at hW (Or.inl (by first | rfl | simp [Cond.onTables, Cond.keeps, Cond.steady])) hini)
  obtain ⟨hx, hb, hml, ho, -⟩ := S
  intro T hT X
  obtain ⟨v, vm₁, ⟨U', l2, c2, s2⟩, hW₁, X', ⟨g', mk, t, L, e1, e2, hq, h1, hL, h2, h3⟩, st⟩ := vx_callSW X hx (hh := hh) (bytes := bytes) (maxL := maxL) (ret := ret) ho hl hstt hini hcode hy hK hg (hsize.trans hml.symm) (argsL := As) (rest := rest) (fun sig h => hn.trans (hlen sig h)) hstack hW (by rw [hb]; exact hdg)
    (fun vm₁ hW₁ => ⟨hf.1, hf.2, hp.2 (T.setVm vm₁) hT hW₁⟩)
  dsimp only [Pt.U, Pt.locs, Pt.cells, Pt.slots] at X' e1 e2 h1 h2 h3 st
  subst h1; subst h2; subst h3
  exact ⟨v, (T.setVm vm₁).calling g' mk As.toArray, t, U', L, hT, X', hL, e1, e2, hq, st⟩
/-- not caught here, past rows that name other classes: it goes on to the caller -/
theorem vx_outP {p : Program} {l : Launch} {e : Env} {R : Room} {s : State} {m : MethodId} {args : Array Value} {below : List Frame} {meth : Method} {c : Code} {H : Heap} {locs : List Loc} {cells slots : Nat} {free : Addr → Prop} {ls : Array Slot} {rest : List Value} {Qc : Array Value → State → Outcome → State → Prop} {XC : String → State → State → Prop}
    {pc : Nat} {own E : String} {ce : Cell} {q : Addr} {mc ms : Nat} (hown : s.vm.findClass own = some m.cls) (hlocks : meth.locks = false)
    (hpass : ∀ z ∈ c.exceptionTable.toList, covers z pc = false ∨ (z.catchType ≠ 0 ∧ ∃ nm : String, (Cond.classLink own z.catchType nm).before args s = true ∧ va_Nc E nm s)) (hcell : H[q]? = some ce) (hv : ce.vm = .none) (hcl : s.vm.findClass E = some ce.cls)
    (hx : ∀ t : State, t.heap = H → s.vm.Alike t.vm → XC E s t) (hf : ∀ z ∈ locs, free z.base) (hc : cells ≤ mc) (hs : slots ≤ ms) :
    vx_W p l e R s m args below meth c H locs cells slots (vx_MQ below Qc XC args s mc ms free) (F0 m pc ls rest) q := by
  intro T hT X
  have hpl : e.platform.magicAccessors = ({} : Platform).magicAccessors := by rw [X.admits.platform]
  obtain ⟨vm', hW', X', st⟩ := X.outThrough hlocks q (g := F0 m pc ls rest) rfl rfl rfl (cell := ce) (by rw [hT]; exact hcell) (by rw [hv]; rfl)
    (by obtain ⟨k9, h9, -⟩ := Vm.findClass_spec hcl; exact ⟨k9, h9⟩) (fun z hz => by
      rcases hpass z hz with h | ⟨hz0, nm, hl1, hn1⟩
      · exact Or.inl h
      · obtain ⟨c6, hc6, hcl6⟩ := Cond.classLink_spec hown hl1 e.platform hpl
        obtain ⟨a8, b8, h1, h2, h3⟩ := hn1
        cases Option.some.inj (h1.symm.trans hcl)
        cases Option.some.inj (h2.symm.trans hc6)
        exact Or.inr ⟨hz0, _, hcl6, h3⟩)
  obtain ⟨g₀, hfr⟩ := X'.frames_eq
  have hcell9 : ((T.setVm vm').setFrames (.throwing q :: below)).heap[q]? = some ce := by
    show T.heap[q]? = some ce
    rw [hT]; exact hcell
  have hend : Ended ((T.setVm vm').setFrames (.throwing q :: below)) below (.threw q) := State.frames_setFrames _ (State.cur_lt_of_frames hfr)
  refine ⟨(T.setVm vm').setFrames (.throwing q :: below), ?_, .threw q, X'.here.running, hend, Or.inr ⟨q, rfl, E, ce, locs, hx _ hT (X'.ends _).1.alike, hcell9, hv, hcl, (X'.ends _).1, (X'.ends _).2.mono hc hs, hf⟩⟩
  rw [X.pushThrowing_eq]
  exact st
/-- a thing of a world lies in the heap -/
theorem vx_lt {D : va_G} {cl : List vw_C} {ws : va_W} {H1 : Heap} (h : va_P D cl ws H1) {k : Nat} {q : Nat × va_E} (hk : ws[k]? = some q) : q.1 < H1.size := (h k q hk).lt
end VXS
/-! ===== END ===== -/
/-! ===== BEGIN methods with a table of their own: called by a name, returning or throwing ===== -/
section VXH
/-! vx_backW, vx_callVX, vx_callSX, vx_callVW, vx_runVW, vx_runVX, vx_runSX, vx_ofWH follow the same proofs as their sisters above (Free/Laws.lean, Shelf42/LK1.lean); vx_outP calls Shelf42/NT130.lean (outThrough). -/
section
variable {l : Launch} {R : Room} {p : Program} {e : Env} {below : List Frame} {s : State} {sargs : Array Value} {y : MethodName} {len W9 : Nat}
theorem vx_backW {ws : List Cond} {rm : Room} {Pc : Array Value → State → Prop} {Qc : Array Value → State → Outcome → State → Prop} {XC : String → State → State → Prop} {mc ms : Nat} {free : Addr → Prop} {bytes : ByteArray} {maxL : Nat} {ret : Option FieldType} {hh : List (Nat × Nat × Nat × Nat)}
    (hM : vx_Met l y ws rm Pc Qc XC mc ms free) (hblind : FrameBlind Pc) (hrc : rm.cells = mc) (hrs : rm.slots = ms)
    (hframes : rm.frames + 1 ≤ R.frames) (hlocals : W9 + (maxL + 11) + rm.locals ≤ R.locals)
    (hws : ∀ w ∈ ws, ∀ a' U, s.WarmedH U.vm → w.before a' U = true) (hcode : Cond.codeWith y bytes maxL ret hh ∈ ws) (hinit : ∀ a' U, s.WarmedH U.vm → (Cond.initialized y.cls).before a' U = true) :
    vx_Back l R p e below s sargs y len W9 (PreOf R mc ms Pc) (PostOf Qc mc ms free) (vx_Post XC mc ms free) := by
  intro m meth c A g ig mk a X hg hsize hdg hW hn hp
  have h1 : (headSpec ws rm).pre.before a A.U = true := atoms_intro fun w hw => hws w hw _ _ X.warmed
  have h2 : (Cond.codeWith y bytes maxL ret hh).before a A.U = true := hws _ hcode _ _ X.warmed
  have h3 : (Cond.initialized y.cls).before a A.U = true := hinit _ _ X.warmed
  have h4 : A.cells + (headSpec ws rm).room.cells ≤ R.cells := by rw [show (headSpec ws rm).room.cells = mc from hrc]; exact hp.1
  have h5 : A.slots + (headSpec ws rm).room.slots ≤ R.slots := by rw [show (headSpec ws rm).room.slots = ms from hrs]; exact hp.2.1
  have hPc : Pc a (A.U.calling g mk a) := hblind _ _ _ _ hp.2.2
  obtain ⟨U, Ls, c0, s0⟩ := A
  dsimp only [Pt.U, Pt.locs, Pt.cells, Pt.slots] at h1 h2 h3 h4 h5 X hn hPc ⊢
  obtain ⟨m9, methY, cY, hn9, hmY, hcY, -, hlY, -⟩ := Cond.codeWith_spec h2
  cases Option.some.inj (hn9.symm.trans hn)
  obtain ⟨kY, hkY, -⟩ := className_of_methodNamed hn
  have hinitY : kY.init = .initialized := Cond.initialized_spec (findClass_of_methodNamed hn) hkY h3
  have h : At U g.method c below := by rw [hg]; exact X.here
  have hlocals9 : W9 + (maxL + 11) + (headSpec ws rm).room.locals ≤ R.locals := hlocals
  have happ : (headSpec ws rm).appliesLoose y e.platform (U.calling g mk a) = true :=
    Spec.appliesLoose_calling (g := g) h hdg hn hkY hinitY
      (X.room_calling (g := g) (R' := (headSpec ws rm).room) hsize hmY hcY hframes (by rw [hlY]; omega) h4 h5) h1
  obtain ⟨mid, hmid⟩ := h.above
  have hfr : (U.setTop g).frames = (.java g :: mid) ++ below := by rw [State.frames_setTop' g h.top, hmid]; rfl
  obtain ⟨o, s₂, hsteps, -, hend, hq⟩ := Steps.callFree hM p X.admits X.cas X.clock (acts := []) hfr happ hPc trivial
  have hq' : vx_Q Qc XC mc ms free a (U.calling g mk a) o s₂ := hq
  rw [State.frames_setTop' g h.top] at hend
  obtain ⟨g₀, hg0⟩ := Option.isSome_iff_exists.mp h.top
  obtain ⟨r, hr⟩ := State.topJava?_eq_some.mp hg0
  have hr' : (({ U with heap := s₂.heap, slotsUsed := s₂.slotsUsed } : State).setVm s₂.vm).frames = .java g₀ :: r := hr
  rcases hq' with ⟨hqc, L, hfe, hL⟩ | ⟨q, rfl, E, ce, L, hx, hce, hcv, hcl, hW₂, hsm, hL⟩
  · obtain ⟨⟨v, rfl⟩, hW₂, e2, q2, q3, q4, q5, q6⟩ := id hfe
    have e3 : s₂ = ({ (U.calling g mk a).setFrames s₂.frames with heap := s₂.heap, slotsUsed := s₂.slotsUsed } : State).setVm s₂.vm := by
      have : s₂ = ({ s₂ with vm := (U.calling g mk a).vm } : State).setVm s₂.vm := rfl
      rw [e2] at this
      exact this
    obtain ⟨c₂, i₂, len₂, hc₂, hd₂, hf₂⟩ := hend
    have hW' : U.WarmedH s₂.vm := hW₂
    have hcc : c₂ = c := by
      have h1 : s₂.code? g.method = U.code? g.method := by
        rw [State.code?_eq, State.code?_eq, hW'.alike.method?]
      exact Option.some.inj (hc₂.symm.trans (h1.trans h.code))
    subst hcc
    have hlen : len₂ = len := by rw [hdg] at hd₂; cases hd₂; rfl
    subst hlen
    have hs₂ : s₂ = (({ U with heap := s₂.heap, slotsUsed := s₂.slotsUsed } : State).setVm s₂.vm).setTop { g with pc := g.pc + len₂, stack := v.toList ++ g.stack } := by
      refine e3.trans ?_
      rw [hf₂, State.calling_eq h.top, State.setFrames_setFrames, State.setTop_of_frames _ hr', hr]
      rfl
    have hsame : U.sameButNew ({ U with heap := s₂.heap, slotsUsed := s₂.slotsUsed } : State) L mc ms := by
      refine ⟨?_, q2, q3, q4, q5, q6⟩
      obtain ⟨t, ht, -⟩ := State.frames_cons hr
      show ({ U with heap := s₂.heap, slotsUsed := s₂.slotsUsed } : State) = { U.setFrames U.frames with heap := s₂.heap, slotsUsed := s₂.slotsUsed }
      rw [State.setFrames_self ht]
    subst hg
    refine Or.inl ⟨v, ⟨(({ U with heap := s₂.heap, slotsUsed := s₂.slotsUsed } : State).setVm s₂.vm), Ls ++ L, c0 + mc, s0 + ms⟩,
      ⟨X.admits, X.cas, X.clock, X.frames, X.room, X.hears, X.method, X.code, (X.here.setHeapUsed s₂.heap s₂.slotsUsed).setVm hW'.alike, X.tail, State.WarmedH.trans X.warmed hW', X.limits, X.bytes, X.same.trans (hsame.setVm s.vm)⟩,
      ⟨g, mk, s₂, L, rfl, rfl, hqc, rfl, hL, rfl, rfl⟩, ?_⟩
    show Steps p.tables e below _ ((({ U with heap := s₂.heap, slotsUsed := s₂.slotsUsed } : State).setVm s₂.vm).setTop { g with pc := g.pc + len₂, stack := v.toList ++ g.stack })
    rw [← hs₂]
    exact hsteps
  · obtain ⟨e2, q2, q3, q4, q5, q6⟩ := id hsm
    have e3 : s₂ = ({ (U.calling g mk a).setFrames s₂.frames with heap := s₂.heap, slotsUsed := s₂.slotsUsed } : State).setVm s₂.vm := by
      have : s₂ = ({ s₂ with vm := (U.calling g mk a).vm } : State).setVm s₂.vm := rfl
      rw [e2] at this
      exact this
    have hf₂ : s₂.frames = .throwing q :: .java g :: U.frames.tail := hend
    have hW' : U.WarmedH s₂.vm := hW₂
    have hs₂ : s₂ = ((({ U with heap := s₂.heap, slotsUsed := s₂.slotsUsed } : State).setVm s₂.vm).setTop g).pushFrame (.throwing q) := by
      refine e3.trans ?_
      rw [hf₂, State.calling_eq h.top, State.setFrames_setFrames, State.pushFrame, State.frames_setTop _ hr', State.setTop_of_frames _ hr', State.setFrames_setFrames, hr]
      rfl
    have hsame : U.sameButNew ({ U with heap := s₂.heap, slotsUsed := s₂.slotsUsed } : State) L mc ms := by
      refine ⟨?_, q2, q3, q4, q5, q6⟩
      obtain ⟨t, ht, -⟩ := State.frames_cons hr
      show ({ U with heap := s₂.heap, slotsUsed := s₂.slotsUsed } : State) = { U.setFrames U.frames with heap := s₂.heap, slotsUsed := s₂.slotsUsed }
      rw [State.setFrames_self ht]
    subst hg
    refine Or.inr ⟨q, ⟨(({ U with heap := s₂.heap, slotsUsed := s₂.slotsUsed } : State).setVm s₂.vm), Ls ++ L, c0 + mc, s0 + ms⟩,
      ⟨X.admits, X.cas, X.clock, X.frames, X.room, X.hears, X.method, X.code, (X.here.setHeapUsed s₂.heap s₂.slotsUsed).setVm hW'.alike, X.tail, State.WarmedH.trans X.warmed hW', X.limits, X.bytes, X.same.trans (hsame.setVm s.vm)⟩,
      ⟨g, mk, s₂, L, E, ce, rfl, rfl, hx, hce, hcv, hcl, rfl, hL, rfl, rfl⟩, ?_⟩
    show Steps p.tables e below _ (((({ U with heap := s₂.heap, slotsUsed := s₂.slotsUsed } : State).setVm s₂.vm).setTop g).pushFrame (.throwing q))
    rw [← hs₂]
    exact hsteps
end
variable {p : Program} {l : Launch} {e : Env} {R : Room} {s : State} {m : MethodId} {args : Array Value} {below : List Frame} {meth : Method} {c : Code} {T : State} {H : Heap} {locs : List Loc} {cells slots : Nat}
theorem vx_callVX (X : Stand p l e R s m args below meth c T locs cells slots) (hexec : p.tables.exec = Jvm.exec) {own C : String} {index : Nat} {y : MethodName} {bytes : ByteArray} {maxL : Nat} {ret : Option FieldType} {hh : List (Nat × Nat × Nat × Nat)}
    (hown : s.vm.findClass own = some m.cls) (hlink : (Cond.methodLink own index y).before args s = true) (hinst : (Cond.instanceMethod y).before args s = true) (hsel : (Cond.selects C y y).before args s = true)
    (hcode : (Cond.codeWith y bytes maxL ret hh).before args s = true) (hy : y.cls ≠ "java/lang/invoke/MethodHandle" ∧ y.cls ≠ "java/lang/invoke/VarHandle")
    {W9 : Nat} {Pre : Pt → Array Value → Prop} {Post : Pt → Array Value → Option Value → Pt → Prop} {PostX : Pt → Array Value → Addr → Pt → Prop} (hK : vx_Back l R p e below s args y 3 W9 Pre Post PostX)
    {b : Addr} {cellB : Cell} (hcell : T.heap[b]? = some cellB) (hobj : cellB.vm.isStatics = false) (hcls : s.vm.findClass C = some cellB.cls)
    {g : JFrame} (hg : g.method = m) (hsize : g.locals.size = c.maxLocals) {argsL rest : List Value} (hlen : ∀ sig, parseMethodDescriptor y.desc = some sig → argsL.length = sig.parameters.length)
    (hstack : g.stack = argsL.reverse ++ .ref b :: rest) (hW : 2 * g.monitorRoom + (rest.map fun v => v.category).sum ≤ W9) (hdg : decode c.code g.pc = .ok (.invokevirtual index, 3))
    (hpre : ∀ vm₁, s.WarmedH vm₁ → Pre ⟨T.setVm vm₁, locs, cells, slots⟩ (Value.ref b :: argsL).toArray) :
    (∃ (v : Option Value) (vm₁ : Vm) (B : Pt), s.WarmedH vm₁ ∧ Stand p l e R s m args below meth c B.U B.locs B.cells B.slots ∧ Post ⟨T.setVm vm₁, locs, cells, slots⟩ (Value.ref b :: argsL).toArray v B ∧
      ∀ target, Steps p.tables e below (B.U.setTop { g with pc := g.pc + 3, stack := v.toList ++ rest }) target → Steps p.tables e below (T.setTop g) target) ∨
    (∃ (q : Addr) (vm₁ : Vm) (B : Pt), s.WarmedH vm₁ ∧ Stand p l e R s m args below meth c B.U B.locs B.cells B.slots ∧ PostX ⟨T.setVm vm₁, locs, cells, slots⟩ (Value.ref b :: argsL).toArray q B ∧
      Steps p.tables e below (T.setTop g) ((B.U.setTop { g with stack := rest }).pushFrame (.throwing q))) := by
  obtain ⟨mk, methM, hnamed, hmethM, hstM, habM⟩ := Cond.instanceMethod_spec hinst
  obtain ⟨m8, methM', cM, hn8, hmethM', -, -, -, -, -, -, hsigM⟩ := Cond.codeWith_spec hcode
  cases Option.some.inj (hn8.symm.trans hnamed)
  cases hmethM.symm.trans hmethM'
  obtain ⟨c2, r2, m2, q1, q2, q3, q4, kP, hkP, hkPi⟩ := Cond.selects_spec hsel
  cases hcls.symm.trans q1
  cases (State.methodFound?_of_named hnamed hy).symm.trans q2
  cases hnamed.symm.trans q3
  have hselP : selectMethod e.platform s.vm cellB.cls mk = .method mk := by rw [Launch.admits_selectMethod X.admits]; exact q4
  obtain ⟨vm₁, X₁, hstep₁⟩ := X.invokevirtual hexec hown hlink hnamed hmethM hstM hkP hkPi hy (a := b) (cell := cellB) hcell
    (fun z h => by rw [h] at hobj; cases hobj) hselP hmethM habM hkP hkPi (g := g) hg (argsL := argsL) (rest := rest) (hlen _ hsigM) hstack hdg
  rcases hK m meth c ⟨T.setVm vm₁, locs, cells, slots⟩ { g with stack := rest } (.invokevirtual index) mk (Value.ref b :: argsL).toArray X₁ hg hsize hdg hW (X₁.named hnamed) (hpre vm₁ X₁.warmed) with ⟨v, B, X', hpost, hsteps⟩ | ⟨q, B, X', hpost, hsteps⟩
  · exact Or.inl ⟨v, vm₁, B, X₁.warmed, X', hpost, fun target h => hstep₁ _ fun acts => by rw [doInvoke_state]; exact hsteps.trans h⟩
  · exact Or.inr ⟨q, vm₁, B, X₁.warmed, X', hpost, hstep₁ _ fun acts => by rw [doInvoke_state]; exact hsteps⟩
theorem vx_callSX (X : Stand p l e R s m args below meth c T locs cells slots) (hexec : p.tables.exec = Jvm.exec) {own : String} {index : Nat} {y : MethodName} {bytes : ByteArray} {maxL : Nat} {ret : Option FieldType} {hh : List (Nat × Nat × Nat × Nat)}
    (hown : s.vm.findClass own = some m.cls) (hlink : (Cond.methodLink own index y).before args s = true) (hstat : (Cond.static y).before args s = true) (hinit : (Cond.initialized y.cls).before args s = true)
    (hcode : (Cond.codeWith y bytes maxL ret hh).before args s = true) (hy : y.cls ≠ "java/lang/invoke/MethodHandle" ∧ y.cls ≠ "java/lang/invoke/VarHandle")
    {W9 : Nat} {Pre : Pt → Array Value → Prop} {Post : Pt → Array Value → Option Value → Pt → Prop} {PostX : Pt → Array Value → Addr → Pt → Prop} (hK : vx_Back l R p e below s args y 3 W9 Pre Post PostX)
    {g : JFrame} (hg : g.method = m) (hsize : g.locals.size = c.maxLocals) {argsL rest : List Value} (hlen : ∀ sig, parseMethodDescriptor y.desc = some sig → argsL.length = sig.parameters.length)
    (hstack : g.stack = argsL.reverse ++ rest) (hW : 2 * g.monitorRoom + (rest.map fun v => v.category).sum ≤ W9) (hdg : decode c.code g.pc = .ok (.invokestatic index, 3))
    (hpre : ∀ vm₁, s.WarmedH vm₁ → Pre ⟨T.setVm vm₁, locs, cells, slots⟩ argsL.toArray) :
    (∃ (v : Option Value) (vm₁ : Vm) (B : Pt), s.WarmedH vm₁ ∧ Stand p l e R s m args below meth c B.U B.locs B.cells B.slots ∧ Post ⟨T.setVm vm₁, locs, cells, slots⟩ argsL.toArray v B ∧
      ∀ target, Steps p.tables e below (B.U.setTop { g with pc := g.pc + 3, stack := v.toList ++ rest }) target → Steps p.tables e below (T.setTop g) target) ∨
    (∃ (q : Addr) (vm₁ : Vm) (B : Pt), s.WarmedH vm₁ ∧ Stand p l e R s m args below meth c B.U B.locs B.cells B.slots ∧ PostX ⟨T.setVm vm₁, locs, cells, slots⟩ argsL.toArray q B ∧
      Steps p.tables e below (T.setTop g) ((B.U.setTop { g with stack := rest }).pushFrame (.throwing q))) := by
  obtain ⟨mk, methM, cM, hnamed, hmethM, -, -, -, -, -, -, hsigM⟩ := Cond.codeWith_spec hcode
  have hstatic : methM.isStatic = true := Cond.static_spec hnamed hmethM hstat
  obtain ⟨kP, hkP, -⟩ := className_of_methodNamed hnamed
  have hinitP : kP.init = .initialized := Cond.initialized_spec (findClass_of_methodNamed hnamed) hkP hinit
  obtain ⟨vm₁, X₁, hstep₁⟩ := X.invokestatic hexec hown hlink hnamed hmethM hstatic hkP hinitP hy (g := g) hg (argsL := argsL) (rest := rest) (hlen _ hsigM) hstack hdg
  rcases hK m meth c ⟨T.setVm vm₁, locs, cells, slots⟩ { g with stack := rest } (.invokestatic index) mk argsL.toArray X₁ hg hsize hdg hW (X₁.named hnamed) (hpre vm₁ X₁.warmed) with ⟨v, B, X', hpost, hsteps⟩ | ⟨q, B, X', hpost, hsteps⟩
  · exact Or.inl ⟨v, vm₁, B, X₁.warmed, X', hpost, fun target h => hstep₁ _ fun acts => by rw [doInvoke_state]; exact hsteps.trans h⟩
  · exact Or.inr ⟨q, vm₁, B, X₁.warmed, X', hpost, hstep₁ _ fun acts => by rw [doInvoke_state]; exact hsteps⟩
theorem vx_callVW (X : Stand p l e R s m args below meth c T locs cells slots) (hexec : p.tables.exec = Jvm.exec) {own C : String} {index : Nat} {y : MethodName} {bytes : ByteArray} {maxL : Nat} {ret : Option FieldType} {hh : List (Nat × Nat × Nat × Nat)}
    (hown : s.vm.findClass own = some m.cls) (hlink : (Cond.methodLink own index y).before args s = true) (hinst : (Cond.instanceMethod y).before args s = true) (hsel : (Cond.selects C y y).before args s = true)
    (hcode : (Cond.codeWith y bytes maxL ret hh).before args s = true) (hy : y.cls ≠ "java/lang/invoke/MethodHandle" ∧ y.cls ≠ "java/lang/invoke/VarHandle")
    {W9 : Nat} {Pre : Pt → Array Value → Prop} {Post : Pt → Array Value → Option Value → Pt → Prop} (hK : Back l R p e below s args y 3 W9 Pre Post)
    {b : Addr} {cellB : Cell} (hcell : T.heap[b]? = some cellB) (hobj : cellB.vm.isStatics = false) (hcls : s.vm.findClass C = some cellB.cls)
    {g : JFrame} (hg : g.method = m) (hsize : g.locals.size = c.maxLocals) {argsL rest : List Value} (hlen : ∀ sig, parseMethodDescriptor y.desc = some sig → argsL.length = sig.parameters.length)
    (hstack : g.stack = argsL.reverse ++ .ref b :: rest) (hW : 2 * g.monitorRoom + (rest.map fun v => v.category).sum ≤ W9) (hdg : decode c.code g.pc = .ok (.invokevirtual index, 3))
    (hpre : ∀ vm₁, s.WarmedH vm₁ → Pre ⟨T.setVm vm₁, locs, cells, slots⟩ (Value.ref b :: argsL).toArray) :
    ∃ (v : Option Value) (vm₁ : Vm) (B : Pt), s.WarmedH vm₁ ∧ Stand p l e R s m args below meth c B.U B.locs B.cells B.slots ∧ Post ⟨T.setVm vm₁, locs, cells, slots⟩ (Value.ref b :: argsL).toArray v B ∧
      ∀ target, Steps p.tables e below (B.U.setTop { g with pc := g.pc + 3, stack := v.toList ++ rest }) target → Steps p.tables e below (T.setTop g) target := by
  obtain ⟨mk, methM, hnamed, hmethM, hstM, habM⟩ := Cond.instanceMethod_spec hinst
  obtain ⟨m8, methM', cM, hn8, hmethM', -, -, -, -, -, -, hsigM⟩ := Cond.codeWith_spec hcode
  cases Option.some.inj (hn8.symm.trans hnamed)
  cases hmethM.symm.trans hmethM'
  obtain ⟨c2, r2, m2, q1, q2, q3, q4, kP, hkP, hkPi⟩ := Cond.selects_spec hsel
  cases hcls.symm.trans q1
  cases (State.methodFound?_of_named hnamed hy).symm.trans q2
  cases hnamed.symm.trans q3
  have hselP : selectMethod e.platform s.vm cellB.cls mk = .method mk := by rw [Launch.admits_selectMethod X.admits]; exact q4
  obtain ⟨vm₁, X₁, hstep₁⟩ := X.invokevirtual hexec hown hlink hnamed hmethM hstM hkP hkPi hy (a := b) (cell := cellB) hcell
    (fun z h => by rw [h] at hobj; cases hobj) hselP hmethM habM hkP hkPi (g := g) hg (argsL := argsL) (rest := rest) (hlen _ hsigM) hstack hdg
  obtain ⟨v, B, X', hpost, hsteps⟩ := hK m meth c ⟨T.setVm vm₁, locs, cells, slots⟩ { g with stack := rest } (.invokevirtual index) mk (Value.ref b :: argsL).toArray X₁ hg hsize hdg hW (X₁.named hnamed) (hpre vm₁ X₁.warmed)
  exact ⟨v, vm₁, B, X₁.warmed, X', hpost, fun target h => hstep₁ _ fun acts => by rw [doInvoke_state]; exact hsteps.trans h⟩
abbrev vx_CVW (R : Room) (s : State) (args : Array Value) (own C : String) (index : Nat) (y : MethodName) (bytes : ByteArray) (maxL : Nat) (ret : Option FieldType) (hh : List (Nat × Nat × Nat × Nat)) (ws : List Cond) (rm : Room) (mc ms n : Nat) : Prop :=
  (rm.cells = mc ∧ rm.slots = ms ∧ rm.frames + 1 ≤ R.frames ∧ 8 + (maxL + 11) + rm.locals ≤ R.locals ∧ (∀ w ∈ ws, ∀ (a' : Array Value) (U : State), s.WarmedH U.vm → w.before a' U = true) ∧ Cond.codeWith y bytes maxL ret hh ∈ ws) ∧
  (Cond.codeWith y bytes maxL ret hh).before args s = true ∧ (Cond.initialized y.cls).before args s = true ∧ (y.cls ≠ "java/lang/invoke/MethodHandle" ∧ y.cls ≠ "java/lang/invoke/VarHandle") ∧
  (∀ sig, parseMethodDescriptor y.desc = some sig → n = sig.parameters.length) ∧ (Cond.methodLink own index y).before args s = true ∧ (Cond.instanceMethod y).before args s = true ∧ (Cond.selects C y y).before args s = true
theorem vx_cwVW {own C : String} {index maxL mc ms : Nat} {y : MethodName} {bytes : ByteArray} {ret : Option FieldType} {hh : List (Nat × Nat × Nat × Nat)} {Ts ws ws' : List Cond} {rm : Room} (n : Nat) (ht : ∀ w ∈ Ts, w.before args s = true) (hT : GoodIn Ts (wsV own index C y ws)) (hw : ws = Cond.codeWith y bytes maxL ret hh :: ws') (hrc : rm.cells = mc) (hrs : rm.slots = ms)
    (hd : y.cls = C ∧ y.cls ≠ "java/lang/invoke/MethodHandle" ∧ y.cls ≠ "java/lang/invoke/VarHandle" ∧ (parseMethodDescriptor y.desc).map (fun d => d.parameters.length) = some n) (hR : rm.frames + 1 ≤ R.frames ∧ 8 + (maxL + 11) + rm.locals ≤ R.locals) :
    vx_CVW R s args own C index y bytes maxL ret hh ws rm mc ms n := by
  obtain ⟨hC, hd⟩ := hd
  subst hC
  have ok : ∀ w ∈ wsV own index y.cls y ws, w.before args s = true := fun w h => ht w (hT w h).1
  have hG : GoodIn Ts ws := fun w h => hT w (by unfold wsV; exact List.mem_append_right _ h)
  have hc : Cond.codeWith y bytes maxL ret hh ∈ ws := by rw [hw]; exact List.mem_cons_self
  refine ⟨⟨hrc, hrs, hR.1, hR.2, pay_in ht hG, hc⟩, ht _ (hG _ hc).1, ok _ (by simp [wsV]), ⟨hd.1, hd.2.1⟩, fun sig h => ?_, ok _ (by simp [wsV]), ok _ (by simp [wsV]), ok _ (by simp [wsV])⟩
  have h2 := hd.2.2
  rw [h] at h2
  exact (Option.some.inj h2).symm
theorem vx_runVW {y : MethodName} {bytes cc : ByteArray} {maxL nL mc ms n index : Nat} {ret : Option FieldType} {hh : List (Nat × Nat × Nat × Nat)} {ws : List Cond} {rm : Room} {Pc : Array Value → State → Prop} {Qc : Array Value → State → Outcome → State → Prop} {free : Addr → Prop} {Ts : List Cond} {own C : String} {b : Addr} {As rest : List Value} {g : JFrame}
    (S : CallFix p m c cc nL s args Ts own) (hM : Met l y ws rm Pc Qc mc ms free) (cw : vx_CVW R s args own C index y bytes maxL ret hh ws rm mc ms n) (hp : PreV s H C b Pc As)
    (hg : g.method = m) (hn : As.length = n) (hsize : g.locals.size = nL) (hstack : g.stack = As.reverse ++ .ref b :: rest) (hW : 2 * g.monitorRoom + (rest.map fun v => v.category).sum ≤ 8) (hdg : decode cc g.pc = .ok (.invokevirtual index, 3)) (hf : cells + mc ≤ R.cells ∧ slots + ms ≤ R.slots) :
    va_Run p l e R s m args below meth c H locs cells slots mc ms g rest (Qc (Value.ref b :: As).toArray) free := by
  obtain ⟨⟨hrc, hrs, hfr, hlo, hws, hcw⟩, hcode, hini, hy, hlen, hl, hin, hse⟩ := cw
  have hK : Back l R p e below s args y 3 8 (PreOf R mc ms Pc) (PostOf Qc mc ms free) := va_backW (hh := hh) (bytes := bytes) (maxL := maxL) (ret := ret) hM hp.1 hrc hrs hfr hlo hws hcw (fun a' U hW => word_at hW (Or.inl (by first | rfl | simp [Cond.onTables, Cond.keeps, Cond.steady])) hini)
  obtain ⟨hx, hb, hml, ho, -⟩ := S
  obtain ⟨-, ⟨cellB, hcB, hoB, hclB⟩, hPc⟩ := hp
  intro T hT X
  obtain ⟨v, vm₁, ⟨U', l2, c2, s2⟩, hW₁, X', ⟨g', mk, t, L, e1, e2, hq, h1, hL, h2, h3⟩, st⟩ := vx_callVW X hx (C := C) (hh := hh) (bytes := bytes) (maxL := maxL) (ret := ret) ho hl hin hse hcode hy hK (by rw [hT]; exact hcB) hoB hclB hg (hsize.trans hml.symm) (argsL := As) (rest := rest) (fun sig h => hn.trans (hlen sig h)) hstack hW (by rw [hb]; exact hdg)
    (fun vm₁ hW₁ => ⟨hf.1, hf.2, hPc (T.setVm vm₁) hT hW₁⟩)
  dsimp only [Pt.U, Pt.locs, Pt.cells, Pt.slots] at X' e1 e2 h1 h2 h3 st
  subst h1; subst h2; subst h3
  exact ⟨v, (T.setVm vm₁).calling g' mk (Value.ref b :: As).toArray, t, U', L, hT, X', hL, e1, e2, hq, st⟩
section
variable {y : MethodName} {bytes cc : ByteArray} {maxL nL mc ms n index : Nat} {ret : Option FieldType} {ws : List Cond} {rm : Room} {Pc : Array Value → State → Prop} {Qc : Array Value → State → Outcome → State → Prop} {XC : String → State → State → Prop} {free : Addr → Prop} {Ts : List Cond} {own C : String} {b : Addr} {As rest : List Value} {g : JFrame}
theorem vx_runVX {hh : List (Nat × Nat × Nat × Nat)} (S : CallFix p m c cc nL s args Ts own) (hM : vx_Met l y ws rm Pc Qc XC mc ms free) (cw : vx_CVW R s args own C index y bytes maxL ret hh ws rm mc ms n) (hp : PreV s H C b Pc As)
    (hg : g.method = m) (hn : As.length = n) (hsize : g.locals.size = nL) (hstack : g.stack = As.reverse ++ .ref b :: rest) (hW : 2 * g.monitorRoom + (rest.map fun v => v.category).sum ≤ 8) (hdg : decode cc g.pc = .ok (.invokevirtual index, 3)) (hf : cells + mc ≤ R.cells ∧ slots + ms ≤ R.slots) :
    vx_Run p l e R s m args below meth c H locs cells slots mc ms g rest (Qc (Value.ref b :: As).toArray) XC free := by
  obtain ⟨⟨hrc, hrs, hfr, hlo, hws, hcw⟩, hcode, hini, hy, hlen, hl, hin, hse⟩ := cw
  have hK : vx_Back l R p e below s args y 3 8 (PreOf R mc ms Pc) (PostOf Qc mc ms free) (vx_Post XC mc ms free) := vx_backW (hh := hh) (bytes := bytes) (maxL := maxL) (ret := ret) hM hp.1 hrc hrs hfr hlo hws hcw (fun a' U hW => word_at hW (Or.inl (by first | rfl | simp [Cond.onTables, Cond.keeps, Cond.steady])) hini)
  obtain ⟨hx, hb, hml, ho, -⟩ := S
  obtain ⟨-, ⟨cellB, hcB, hoB, hclB⟩, hPc⟩ := hp
  intro T hT X
  rcases vx_callVX X hx (C := C) (hh := hh) (bytes := bytes) (maxL := maxL) (ret := ret) ho hl hin hse hcode hy hK (by rw [hT]; exact hcB) hoB hclB hg (hsize.trans hml.symm) (argsL := As) (rest := rest) (fun sig h => hn.trans (hlen sig h)) hstack hW (by rw [hb]; exact hdg)
    (fun vm₁ hW₁ => ⟨hf.1, hf.2, hPc (T.setVm vm₁) hT hW₁⟩) with ⟨v, vm₁, ⟨U', l2, c2, s2⟩, hW₁, X', ⟨g', mk, t, L, e1, e2, hq, h1, hL, h2, h3⟩, st⟩ | ⟨q, vm₁, ⟨U', l2, c2, s2⟩, hW₁, X', ⟨g', mk, t, L, E, ce, e1, e2, hq, hce, hcv, hcl, h1, hL, h2, h3⟩, st⟩
  · dsimp only [Pt.U, Pt.locs, Pt.cells, Pt.slots] at X' e1 e2 h1 h2 h3 st
    subst h1; subst h2; subst h3
    exact Or.inl ⟨v, (T.setVm vm₁).calling g' mk (Value.ref b :: As).toArray, t, U', L, hT, X', hL, e1, e2, hq, st⟩
  · dsimp only [Pt.U, Pt.locs, Pt.cells, Pt.slots] at X' e1 e2 h1 h2 h3 st hcl
    subst h1; subst h2; subst h3
    exact Or.inr ⟨q, (T.setVm vm₁).calling g' mk (Value.ref b :: As).toArray, t, U', L, E, ce, hT, X', hL, e1, e2, hq, hce, hcv, vx_cls hW₁ hcl, st⟩
theorem vx_runSX {hh : List (Nat × Nat × Nat × Nat)} (S : CallFix p m c cc nL s args Ts own) (hM : vx_Met l y ws rm Pc Qc XC mc ms free) (cw : vx_CSW R s args own index y bytes maxL ret hh ws rm mc ms n) (hp : PreS s H Pc As)
    (hg : g.method = m) (hn : As.length = n) (hsize : g.locals.size = nL) (hstack : g.stack = As.reverse ++ rest) (hW : 2 * g.monitorRoom + (rest.map fun v => v.category).sum ≤ 8) (hdg : decode cc g.pc = .ok (.invokestatic index, 3)) (hf : cells + mc ≤ R.cells ∧ slots + ms ≤ R.slots) :
    vx_Run p l e R s m args below meth c H locs cells slots mc ms g rest (Qc As.toArray) XC free := by
  obtain ⟨⟨hrc, hrs, hfr, hlo, hws, hcw⟩, hcode, hini, hy, hlen, hl, hstt⟩ := cw
  have hK : vx_Back l R p e below s args y 3 8 (PreOf R mc ms Pc) (PostOf Qc mc ms free) (vx_Post XC mc ms free) := vx_backW (hh := hh) (bytes := bytes) (maxL := maxL) (ret := ret) hM hp.1 hrc hrs hfr hlo hws hcw (fun a' U hW => word_at hW (Or.inl (by first | rfl | simp [Cond.onTables, Cond.keeps, Cond.steady])) hini)
  obtain ⟨hx, hb, hml, ho, -⟩ := S
  intro T hT X
  rcases vx_callSX X hx (hh := hh) (bytes := bytes) (maxL := maxL) (ret := ret) ho hl hstt hini hcode hy hK hg (hsize.trans hml.symm) (argsL := As) (rest := rest) (fun sig h => hn.trans (hlen sig h)) hstack hW (by rw [hb]; exact hdg)
    (fun vm₁ hW₁ => ⟨hf.1, hf.2, hp.2 (T.setVm vm₁) hT hW₁⟩) with ⟨v, vm₁, ⟨U', l2, c2, s2⟩, hW₁, X', ⟨g', mk, t, L, e1, e2, hq, h1, hL, h2, h3⟩, st⟩ | ⟨q, vm₁, ⟨U', l2, c2, s2⟩, hW₁, X', ⟨g', mk, t, L, E, ce, e1, e2, hq, hce, hcv, hcl, h1, hL, h2, h3⟩, st⟩
  · dsimp only [Pt.U, Pt.locs, Pt.cells, Pt.slots] at X' e1 e2 h1 h2 h3 st
    subst h1; subst h2; subst h3
    exact Or.inl ⟨v, (T.setVm vm₁).calling g' mk As.toArray, t, U', L, hT, X', hL, e1, e2, hq, st⟩
  · dsimp only [Pt.U, Pt.locs, Pt.cells, Pt.slots] at X' e1 e2 h1 h2 h3 st hcl
    subst h1; subst h2; subst h3
    exact Or.inr ⟨q, (T.setVm vm₁).calling g' mk As.toArray, t, U', L, E, ce, hT, X', hL, e1, e2, hq, hce, hcv, vx_cls hW₁ hcl, st⟩
end
end VXH
theorem vx_ofWH {l : Launch} {y : MethodName} {ws ws' : List Cond} {rm : Room} {Pc : Array Value → State → Prop} {Qc : Array Value → State → Outcome → State → Prop} {XC : String → State → State → Prop} {mc ms : Nat} {free : Addr → Prop} {cc : ByteArray} {maxL : Nat} {ret : Option FieldType} {hh : List (Nat × Nat × Nat × Nat)}
    (hy : plainName y.cls = true) (hw : ws = Cond.codeWith y cc maxL ret hh :: ws')
    (body : ∀ p e s m args below meth c s₁, BodyLoose p l y (headSpec ws rm) cc maxL ret e s m args below meth c s₁ → c.maxLocals = maxL → Pc args s →
      W p l e (headSpec ws rm).room s m args below meth c s.heap [] 0 0 (vx_MQ below Qc XC args s mc ms free) (entryFrame m args maxL)) : vx_Met l y ws rm Pc Qc XC mc ms free := by
  refine MetFree.of_bodyS (code := cc) (maxLocals := maxL) (ret := ret) hy ?_ ?_
  · intro args s m h hn
    obtain ⟨m9, meth, c, hn9, h1, h2, h3, h4, -, h5, h6, -⟩ := Cond.codeWith_spec (atoms_spec (ws := ws) h _ (by rw [hw]; exact List.mem_cons_self))
    cases hn.symm.trans hn9
    exact ⟨meth, c, h1, h2, h3, h4, h5, h6⟩
  · intro p e s m args below meth c s₁ B hml hP _
    have hh0 : s₁.heap = s.heap := by rw [B.state]; rfl
    obtain ⟨t, a1, o, b1, b2, b3⟩ := body p e s m args below meth c s₁ B hml hP s₁ hh0 (Stand.of_body B)
    exact ⟨t, o, a1, b1, b2, b3⟩
/-! ===== END ===== -/
end
section
/-! ===== BEGIN printed: names, fields, word lists, decode rows ===== -/
def RX0 : String := "CrossbarNet$Call"
def TX0 : u_T := fun k => match k with
  | 0 => ("CrossbarNet$Call", "caller", "LCrossbarNet$Line;", true)
  | 1 => ("CrossbarNet$Call", "holdings", "LCrossbarNet$Row;", true)
  | 2 => ("CrossbarNet$Call", "stage", "LCrossbarNet$Stage;", false)
  | 3 => ("CrossbarNet$Call", "called", "LCrossbarNet$Line;", false)
  | 4 => ("CrossbarNet$Call", "dialled", "LCrossbarNet$Route;", false)
  | 5 => ("CrossbarNet$Call", "held", "Z", false)
  | 6 => ("CrossbarNet$Call", "number", "I", false)
  | 7 => ("CrossbarNet$Call", "place", "I", false)
  | 8 => ("CrossbarNet$Call", "officesSoFar", "I", false)
  | 9 => ("CrossbarNet$Call", "register", "I", false)
  | 10 => ("CrossbarNet$Call", "nextRegister", "I", false)
  | 11 => ("CrossbarNet$Call", "digitsToSend", "I", false)
  | 12 => ("CrossbarNet$Call", "ticksWaited", "I", false)
  | 13 => ("CrossbarNet$Call", "ticksSinceCharge", "I", false)
  | _ => ("CrossbarNet$Call", "ticksHungUp", "I", false)
def tyX0 : Nat → FieldType := fun k => match k with
  | 0 => .object "CrossbarNet$Line"
  | 1 => .object "CrossbarNet$Row"
  | 2 => .object "CrossbarNet$Stage"
  | 3 => .object "CrossbarNet$Line"
  | 4 => .object "CrossbarNet$Route"
  | 5 => .boolean
  | 6 => .int
  | 7 => .int
  | 8 => .int
  | 9 => .int
  | 10 => .int
  | 11 => .int
  | 12 => .int
  | 13 => .int
  | _ => .int
abbrev wsX00 : List Cond := u_ws RX0 TX0 15
theorem nmX0 : ∀ a, a < 15 → ∀ b, b < 15 → a ≠ b → (TX0 a).2.1 ≠ (TX0 b).2.1 := by decide +kernel
theorem tyX0_ok : ∀ k, k < 15 → parseFieldDescriptor (TX0 k).2.2.1 = some (tyX0 k) := by decide +kernel
abbrev cX0_init : ByteArray := prog_2_method_1_code
def yX0_init : MethodName := ⟨RX0, "<init>", "(LCrossbarNet$Line;)V"⟩
abbrev cX0_startAnew : ByteArray := prog_2_method_2_code
def yX0_startAnew : MethodName := ⟨RX0, "startAnew", "(I)V"⟩
abbrev cX0_goTo : ByteArray := prog_2_method_3_code
def yX0_goTo : MethodName := ⟨RX0, "goTo", "(I)V"⟩
abbrev cX0_hasBeenAt : ByteArray := prog_2_method_4_code
def yX0_hasBeenAt : MethodName := ⟨RX0, "hasBeenAt", "(I)Z"⟩
abbrev cX0_calledIsLifted : ByteArray := prog_2_method_5_code
def yX0_calledIsLifted : MethodName := ⟨RX0, "calledIsLifted", "()Z"⟩
abbrev cX0_units : ByteArray := prog_2_method_6_code
def yX0_units : MethodName := ⟨RX0, "units", "()I"⟩
abbrev cX0_period : ByteArray := prog_2_method_7_code
def yX0_period : MethodName := ⟨RX0, "period", "()I"⟩
def RX1 : String := "CrossbarNet$Line"
def TX1 : u_T := fun k => match k with
  | 0 => ("CrossbarNet$Line", "office", "I", true)
  | 1 => ("CrossbarNet$Line", "number", "I", true)
  | 2 => ("CrossbarNet$Line", "lifted", "Z", false)
  | 3 => ("CrossbarNet$Line", "sound", "I", false)
  | 4 => ("CrossbarNet$Line", "charged", "I", false)
  | _ => ("CrossbarNet$Line", "call", "LCrossbarNet$Call;", false)
def tyX1 : Nat → FieldType := fun k => match k with
  | 0 => .int
  | 1 => .int
  | 2 => .boolean
  | 3 => .int
  | 4 => .int
  | _ => .object "CrossbarNet$Call"
abbrev wsX10 : List Cond := u_ws RX1 TX1 6
theorem nmX1 : ∀ a, a < 6 → ∀ b, b < 6 → a ≠ b → (TX1 a).2.1 ≠ (TX1 b).2.1 := by decide +kernel
theorem tyX1_ok : ∀ k, k < 6 → parseFieldDescriptor (TX1 k).2.2.1 = some (tyX1 k) := by decide +kernel
abbrev cX1_init : ByteArray := prog_3_method_1_code
def yX1_init : MethodName := ⟨RX1, "<init>", "(II)V"⟩
abbrev cX1_name : ByteArray := prog_3_method_2_code
def yX1_name : MethodName := ⟨RX1, "name", "()I"⟩
abbrev cX1_firstLink : ByteArray := prog_3_method_3_code
def yX1_firstLink : MethodName := ⟨RX1, "firstLink", "()I"⟩
abbrev cX1_isFree : ByteArray := prog_3_method_4_code
def yX1_isFree : MethodName := ⟨RX1, "isFree", "()Z"⟩
abbrev cX1_leaveCall : ByteArray := prog_3_method_5_code
def yX1_leaveCall : MethodName := ⟨RX1, "leaveCall", "(I)V"⟩
def RX2 : String := "CrossbarNet$Office"
def TX2 : u_T := fun k => match k with
  | 0 => ("CrossbarNet$Office", "number", "I", true)
  | 1 => ("CrossbarNet$Office", "lines", "[LCrossbarNet$Line;", true)
  | 2 => ("CrossbarNet$Office", "holders", "[LCrossbarNet$Call;", true)
  | 3 => ("CrossbarNet$Office", "routes", "[LCrossbarNet$Route;", true)
  | 4 => ("CrossbarNet$Office", "hunts", "[LCrossbarNet$Row;", true)
  | 5 => ("CrossbarNet$Office", "waiting", "LCrossbarNet$Row;", true)
  | 6 => ("CrossbarNet$Office", "jobs", "LCrossbarNet$Row;", true)
  | 7 => ("CrossbarNet$Office", "routeCount", "I", false)
  | _ => ("CrossbarNet$Office", "rotor", "I", false)
def tyX2 : Nat → FieldType := fun k => match k with
  | 0 => .int
  | 1 => .array (.object "CrossbarNet$Line")
  | 2 => .array (.object "CrossbarNet$Call")
  | 3 => .array (.object "CrossbarNet$Route")
  | 4 => .array (.object "CrossbarNet$Row")
  | 5 => .object "CrossbarNet$Row"
  | 6 => .object "CrossbarNet$Row"
  | 7 => .int
  | _ => .int
abbrev wsX20 : List Cond := u_ws RX2 TX2 9
theorem nmX2 : ∀ a, a < 9 → ∀ b, b < 9 → a ≠ b → (TX2 a).2.1 ≠ (TX2 b).2.1 := by decide +kernel
theorem tyX2_ok : ∀ k, k < 9 → parseFieldDescriptor (TX2 k).2.2.1 = some (tyX2 k) := by decide +kernel
abbrev cX2_init : ByteArray := prog_4_method_1_code
def yX2_init : MethodName := ⟨RX2, "<init>", "(I)V"⟩
abbrev cX2_code : ByteArray := prog_4_method_2_code
def yX2_code : MethodName := ⟨RX2, "code", "(I)I"⟩
abbrev cX2_routeNamed : ByteArray := prog_4_method_3_code
def yX2_routeNamed : MethodName := ⟨RX2, "routeNamed", "(I)LCrossbarNet$Route;"⟩
abbrev cX2_hasRoomFor : ByteArray := prog_4_method_4_code
def yX2_hasRoomFor : MethodName := ⟨RX2, "hasRoomFor", "(I)Z"⟩
abbrev cX2_addRoute : ByteArray := prog_4_method_5_code
def yX2_addRoute : MethodName := ⟨RX2, "addRoute", "(LCrossbarNet$Route;)V"⟩
abbrev cX2_routeOf : ByteArray := prog_4_method_6_code
def yX2_routeOf : MethodName := ⟨RX2, "routeOf", "(I)LCrossbarNet$Route;"⟩
abbrev cX2_canBecomePrefix : ByteArray := prog_4_method_7_code
def yX2_canBecomePrefix : MethodName := ⟨RX2, "canBecomePrefix", "(I)Z"⟩
abbrev cX2_isInAHunt : ByteArray := prog_4_method_8_code
def yX2_isInAHunt : MethodName := ⟨RX2, "isInAHunt", "(I)Z"⟩
abbrev cX2_huntFrom : ByteArray := prog_4_method_9_code
def yX2_huntFrom : MethodName := ⟨RX2, "huntFrom", "(I)I"⟩
abbrev cX2_firstFree : ByteArray := prog_4_method_10_code
def yX2_firstFree : MethodName := ⟨RX2, "firstFree", "(LCrossbarNet$Row;I)I"⟩
abbrev cX2_firstIdle : ByteArray := prog_4_method_11_code
def yX2_firstIdle : MethodName := ⟨RX2, "firstIdle", "(II)I"⟩
abbrev cX2_countIdle : ByteArray := prog_4_method_12_code
def yX2_countIdle : MethodName := ⟨RX2, "countIdle", "(II)I"⟩
abbrev cX2_idleLink : ByteArray := prog_4_method_13_code
def yX2_idleLink : MethodName := ⟨RX2, "idleLink", "(LCrossbarNet$Line;II)I"⟩
def RX3 : String := "CrossbarNet$Route"
def TX3 : u_T := fun k => match k with
  | 0 => ("CrossbarNet$Route", "prefix", "I", true)
  | 1 => ("CrossbarNet$Route", "own", "Z", true)
  | 2 => ("CrossbarNet$Route", "choices", "LCrossbarNet$Row;", true)
  | 3 => ("CrossbarNet$Route", "units", "I", false)
  | _ => ("CrossbarNet$Route", "period", "I", false)
def tyX3 : Nat → FieldType := fun k => match k with
  | 0 => .int
  | 1 => .boolean
  | 2 => .object "CrossbarNet$Row"
  | 3 => .int
  | _ => .int
abbrev wsX30 : List Cond := u_ws RX3 TX3 5
theorem nmX3 : ∀ a, a < 5 → ∀ b, b < 5 → a ≠ b → (TX3 a).2.1 ≠ (TX3 b).2.1 := by decide +kernel
theorem tyX3_ok : ∀ k, k < 5 → parseFieldDescriptor (TX3 k).2.2.1 = some (tyX3 k) := by decide +kernel
abbrev cX3_init : ByteArray := prog_5_method_1_code
def yX3_init : MethodName := ⟨RX3, "<init>", "(IZ)V"⟩
abbrev cX3_canHave : ByteArray := prog_5_method_2_code
def yX3_canHave : MethodName := ⟨RX3, "canHave", "(I)Z"⟩
abbrev cX3_digitsBehind : ByteArray := prog_5_method_3_code
def yX3_digitsBehind : MethodName := ⟨RX3, "digitsBehind", "(I)I"⟩
abbrev cX3_lineBehind : ByteArray := prog_5_method_4_code
def yX3_lineBehind : MethodName := ⟨RX3, "lineBehind", "(I)I"⟩
def RX4 : String := "CrossbarNet$Row"
def TX4 : u_T := fun k => match k with
  | 0 => ("CrossbarNet$Row", "items", "[I", true)
  | _ => ("CrossbarNet$Row", "count", "I", false)
def tyX4 : Nat → FieldType := fun k => match k with
  | 0 => .array .int
  | _ => .int
abbrev wsX40 : List Cond := u_ws RX4 TX4 2
theorem nmX4 : ∀ a, a < 2 → ∀ b, b < 2 → a ≠ b → (TX4 a).2.1 ≠ (TX4 b).2.1 := by decide +kernel
theorem tyX4_ok : ∀ k, k < 2 → parseFieldDescriptor (TX4 k).2.2.1 = some (tyX4 k) := by decide +kernel
abbrev cX4_init : ByteArray := prog_6_method_1_code
def yX4_init : MethodName := ⟨RX4, "<init>", "(I)V"⟩
abbrev cX4_size : ByteArray := prog_6_method_2_code
def yX4_size : MethodName := ⟨RX4, "size", "()I"⟩
abbrev cX4_at : ByteArray := prog_6_method_3_code
def yX4_at : MethodName := ⟨RX4, "at", "(I)I"⟩
abbrev cX4_has : ByteArray := prog_6_method_4_code
def yX4_has : MethodName := ⟨RX4, "has", "(I)Z"⟩
abbrev cX4_add : ByteArray := prog_6_method_5_code
def yX4_add : MethodName := ⟨RX4, "add", "(I)V"⟩
abbrev cX4_remove : ByteArray := prog_6_method_6_code
def yX4_remove : MethodName := ⟨RX4, "remove", "(I)V"⟩
abbrev cX4_clear : ByteArray := prog_6_method_7_code
def yX4_clear : MethodName := ⟨RX4, "clear", "()V"⟩
def RX5 : String := "CrossbarNet$Stage"
def TX5 : u_T := fun k => match k with
  | _ => ("", "", "", false)
def tyX5 : Nat → FieldType := fun k => match k with
  | _ => .int
abbrev wsX50 : List Cond := u_ws RX5 TX5 0
theorem nmX5 : ∀ a, a < 0 → ∀ b, b < 0 → a ≠ b → (TX5 a).2.1 ≠ (TX5 b).2.1 := by decide +kernel
theorem tyX5_ok : ∀ k, k < 0 → parseFieldDescriptor (TX5 k).2.2.1 = some (tyX5 k) := by decide +kernel
def RX6 : String := "CrossbarNet$Trunk"
def TX6 : u_T := fun k => match k with
  | 0 => ("CrossbarNet$Trunk", "a", "I", true)
  | 1 => ("CrossbarNet$Trunk", "b", "I", true)
  | 2 => ("CrossbarNet$Trunk", "isOut", "Z", false)
  | _ => ("CrossbarNet$Trunk", "holder", "LCrossbarNet$Call;", false)
def tyX6 : Nat → FieldType := fun k => match k with
  | 0 => .int
  | 1 => .int
  | 2 => .boolean
  | _ => .object "CrossbarNet$Call"
abbrev wsX60 : List Cond := u_ws RX6 TX6 4
theorem nmX6 : ∀ a, a < 4 → ∀ b, b < 4 → a ≠ b → (TX6 a).2.1 ≠ (TX6 b).2.1 := by decide +kernel
theorem tyX6_ok : ∀ k, k < 4 → parseFieldDescriptor (TX6 k).2.2.1 = some (tyX6 k) := by decide +kernel
abbrev cX6_init : ByteArray := prog_8_method_1_code
def yX6_init : MethodName := ⟨RX6, "<init>", "(II)V"⟩
abbrev cX6_isReady : ByteArray := prog_8_method_2_code
def yX6_isReady : MethodName := ⟨RX6, "isReady", "()Z"⟩
abbrev cX6_endsAt : ByteArray := prog_8_method_3_code
def yX6_endsAt : MethodName := ⟨RX6, "endsAt", "(I)Z"⟩
def RX7 : String := "CrossbarNet"
def TX7 : u_T := fun k => match k with
  | 0 => ("CrossbarNet", "offices", "[LCrossbarNet$Office;", true)
  | 1 => ("CrossbarNet", "calls", "[LCrossbarNet$Call;", true)
  | 2 => ("CrossbarNet", "trunks", "[LCrossbarNet$Trunk;", true)
  | 3 => ("CrossbarNet", "overflows", "[[I", true)
  | _ => ("CrossbarNet", "trunkCount", "I", false)
def tyX7 : Nat → FieldType := fun k => match k with
  | 0 => .array (.object "CrossbarNet$Office")
  | 1 => .array (.object "CrossbarNet$Call")
  | 2 => .array (.object "CrossbarNet$Trunk")
  | 3 => .array (.array .int)
  | _ => .int
abbrev wsX70 : List Cond := u_ws RX7 TX7 5
theorem nmX7 : ∀ a, a < 5 → ∀ b, b < 5 → a ≠ b → (TX7 a).2.1 ≠ (TX7 b).2.1 := by decide +kernel
theorem tyX7_ok : ∀ k, k < 5 → parseFieldDescriptor (TX7 k).2.2.1 = some (tyX7 k) := by decide +kernel
abbrev cX7_init : ByteArray := prog_1_method_1_code
def yX7_init : MethodName := ⟨RX7, "<init>", "()V"⟩
abbrev cX7_trunk : ByteArray := prog_1_method_2_code
def yX7_trunk : MethodName := ⟨RX7, "trunk", "(II)I"⟩
abbrev cX7_route : ByteArray := prog_1_method_3_code
def yX7_route : MethodName := ⟨RX7, "route", "(IIIII)I"⟩
abbrev cX7_hunt : ByteArray := prog_1_method_4_code
def yX7_hunt : MethodName := ⟨RX7, "hunt", "(III)I"⟩
abbrev cX7_lift : ByteArray := prog_1_method_5_code
def yX7_lift : MethodName := ⟨RX7, "lift", "(II)V"⟩
abbrev cX7_hang : ByteArray := prog_1_method_6_code
def yX7_hang : MethodName := ⟨RX7, "hang", "(II)V"⟩
abbrev cX7_dial : ByteArray := prog_1_method_7_code
def yX7_dial : MethodName := ⟨RX7, "dial", "(III)Z"⟩
abbrev cX7_tick : ByteArray := prog_1_method_8_code
def yX7_tick : MethodName := ⟨RX7, "tick", "(I)V"⟩
abbrev cX7_out : ByteArray := prog_1_method_9_code
def yX7_out : MethodName := ⟨RX7, "out", "(IZ)Z"⟩
abbrev cX7_hold : ByteArray := prog_1_method_10_code
def yX7_hold : MethodName := ⟨RX7, "hold", "(IIZ)Z"⟩
abbrev cX7_tone : ByteArray := prog_1_method_11_code
def yX7_tone : MethodName := ⟨RX7, "tone", "(II)I"⟩
abbrev cX7_rings : ByteArray := prog_1_method_12_code
def yX7_rings : MethodName := ⟨RX7, "rings", "(II)Z"⟩
abbrev cX7_talks : ByteArray := prog_1_method_13_code
def yX7_talks : MethodName := ⟨RX7, "talks", "(II)I"⟩
abbrev cX7_meter : ByteArray := prog_1_method_14_code
def yX7_meter : MethodName := ⟨RX7, "meter", "(II)I"⟩
abbrev cX7_seized : ByteArray := prog_1_method_15_code
def yX7_seized : MethodName := ⟨RX7, "seized", "(III)I"⟩
abbrev cX7_idle : ByteArray := prog_1_method_16_code
def yX7_idle : MethodName := ⟨RX7, "idle", "(II)I"⟩
abbrev cX7_overflow : ByteArray := prog_1_method_17_code
def yX7_overflow : MethodName := ⟨RX7, "overflow", "(II)I"⟩
abbrev cX7_need : ByteArray := prog_1_method_18_code
def yX7_need : MethodName := ⟨RX7, "need", "(Z)V"⟩
abbrev cX7_allow : ByteArray := prog_1_method_19_code
def yX7_allow : MethodName := ⟨RX7, "allow", "(Z)V"⟩
abbrev cX7_isWithin : ByteArray := prog_1_method_20_code
def yX7_isWithin : MethodName := ⟨RX7, "isWithin", "(III)Z"⟩
abbrev cX7_isOffice : ByteArray := prog_1_method_21_code
def yX7_isOffice : MethodName := ⟨RX7, "isOffice", "(I)Z"⟩
abbrev cX7_isLine : ByteArray := prog_1_method_22_code
def yX7_isLine : MethodName := ⟨RX7, "isLine", "(I)Z"⟩
abbrev cX7_isPrefix : ByteArray := prog_1_method_23_code
def yX7_isPrefix : MethodName := ⟨RX7, "isPrefix", "(I)Z"⟩
abbrev cX7_beginsWith : ByteArray := prog_1_method_24_code
def yX7_beginsWith : MethodName := ⟨RX7, "beginsWith", "(II)Z"⟩
abbrev cX7_countDigits : ByteArray := prog_1_method_25_code
def yX7_countDigits : MethodName := ⟨RX7, "countDigits", "(I)I"⟩
abbrev cX7_lineOf : ByteArray := prog_1_method_26_code
def yX7_lineOf : MethodName := ⟨RX7, "lineOf", "(II)LCrossbarNet$Line;"⟩
abbrev cX7_askForRegister : ByteArray := prog_1_method_27_code
def yX7_askForRegister : MethodName := ⟨RX7, "askForRegister", "(LCrossbarNet$Office;LCrossbarNet$Line;)V"⟩
abbrev cX7_beginCall : ByteArray := prog_1_method_28_code
def yX7_beginCall : MethodName := ⟨RX7, "beginCall", "(LCrossbarNet$Office;LCrossbarNet$Line;I)V"⟩
abbrev cX7_takeDigit : ByteArray := prog_1_method_29_code
def yX7_takeDigit : MethodName := ⟨RX7, "takeDigit", "(LCrossbarNet$Office;LCrossbarNet$Call;I)V"⟩
abbrev cX7_makeJob : ByteArray := prog_1_method_30_code
def yX7_makeJob : MethodName := ⟨RX7, "makeJob", "(LCrossbarNet$Office;LCrossbarNet$Call;)V"⟩
abbrev cX7_doOldestJob : ByteArray := prog_1_method_31_code
def yX7_doOldestJob : MethodName := ⟨RX7, "doOldestJob", "(LCrossbarNet$Office;)V"⟩
abbrev cX7_callLine : ByteArray := prog_1_method_32_code
def yX7_callLine : MethodName := ⟨RX7, "callLine", "(LCrossbarNet$Office;LCrossbarNet$Call;I)V"⟩
abbrev cX7_seizeWayWithin : ByteArray := prog_1_method_33_code
def yX7_seizeWayWithin : MethodName := ⟨RX7, "seizeWayWithin", "(LCrossbarNet$Office;LCrossbarNet$Call;LCrossbarNet$Line;)Z"⟩
abbrev cX7_seizeLink : ByteArray := prog_1_method_34_code
def yX7_seizeLink : MethodName := ⟨RX7, "seizeLink", "(LCrossbarNet$Office;LCrossbarNet$Call;I)Z"⟩
abbrev cX7_sendOnward : ByteArray := prog_1_method_35_code
def yX7_sendOnward : MethodName := ⟨RX7, "sendOnward", "(LCrossbarNet$Office;LCrossbarNet$Call;LCrossbarNet$Route;)V"⟩
abbrev cX7_seizeOnward : ByteArray := prog_1_method_36_code
def yX7_seizeOnward : MethodName := ⟨RX7, "seizeOnward", "(LCrossbarNet$Office;LCrossbarNet$Call;LCrossbarNet$Office;)Z"⟩
abbrev cX7_sendDigits : ByteArray := prog_1_method_37_code
def yX7_sendDigits : MethodName := ⟨RX7, "sendDigits", "()V"⟩
abbrev cX7_sendDigit : ByteArray := prog_1_method_38_code
def yX7_sendDigit : MethodName := ⟨RX7, "sendDigit", "(LCrossbarNet$Call;)V"⟩
abbrev cX7_letTimePass : ByteArray := prog_1_method_39_code
def yX7_letTimePass : MethodName := ⟨RX7, "letTimePass", "()V"⟩
abbrev cX7_waitForDigit : ByteArray := prog_1_method_40_code
def yX7_waitForDigit : MethodName := ⟨RX7, "waitForDigit", "(LCrossbarNet$Call;)V"⟩
abbrev cX7_spendTalkTick : ByteArray := prog_1_method_41_code
def yX7_spendTalkTick : MethodName := ⟨RX7, "spendTalkTick", "(LCrossbarNet$Call;)V"⟩
abbrev cX7_giveRegisters : ByteArray := prog_1_method_42_code
def yX7_giveRegisters : MethodName := ⟨RX7, "giveRegisters", "()V"⟩
abbrev cX7_answer : ByteArray := prog_1_method_43_code
def yX7_answer : MethodName := ⟨RX7, "answer", "(LCrossbarNet$Call;)V"⟩
abbrev cX7_charge : ByteArray := prog_1_method_44_code
def yX7_charge : MethodName := ⟨RX7, "charge", "(LCrossbarNet$Call;)V"⟩
abbrev cX7_end : ByteArray := prog_1_method_45_code
def yX7_end : MethodName := ⟨RX7, "end", "(LCrossbarNet$Call;I)V"⟩
abbrev cX7_seize : ByteArray := prog_1_method_46_code
def yX7_seize : MethodName := ⟨RX7, "seize", "(LCrossbarNet$Call;I)V"⟩
abbrev cX7_release : ByteArray := prog_1_method_47_code
def yX7_release : MethodName := ⟨RX7, "release", "(LCrossbarNet$Call;I)V"⟩
abbrev cX7_setHolder : ByteArray := prog_1_method_48_code
def yX7_setHolder : MethodName := ⟨RX7, "setHolder", "(ILCrossbarNet$Call;)V"⟩
abbrev cX7_firstIdleTrunk : ByteArray := prog_1_method_49_code
def yX7_firstIdleTrunk : MethodName := ⟨RX7, "firstIdleTrunk", "(II)I"⟩
abbrev cX7_countIdleTrunks : ByteArray := prog_1_method_50_code
def yX7_countIdleTrunks : MethodName := ⟨RX7, "countIdleTrunks", "(I)I"⟩
def RX8 : String := "CrossbarNetModel"
def TX8 : u_T := fun k => match k with
  | 0 => ("CrossbarNetModel", "refusal", "I", false)
  | 1 => ("CrossbarNetModel", "now", "I", false)
  | 2 => ("CrossbarNetModel", "stamps", "I", false)
  | 3 => ("CrossbarNetModel", "isLifted", "[Z", true)
  | 4 => ("CrossbarNetModel", "tones", "[I", true)
  | 5 => ("CrossbarNetModel", "waits", "[I", true)
  | 6 => ("CrossbarNetModel", "meters", "[I", true)
  | 7 => ("CrossbarNetModel", "huntSizes", "[I", true)
  | 8 => ("CrossbarNetModel", "huntLines", "[I", true)
  | 9 => ("CrossbarNetModel", "calledBy", "[I", true)
  | 10 => ("CrossbarNetModel", "prefixes", "[I", true)
  | 11 => ("CrossbarNetModel", "prefixOf", "[I", true)
  | 12 => ("CrossbarNetModel", "units", "[I", true)
  | 13 => ("CrossbarNetModel", "periods", "[I", true)
  | 14 => ("CrossbarNetModel", "choices", "[I", true)
  | 15 => ("CrossbarNetModel", "isOwn", "[Z", true)
  | 16 => ("CrossbarNetModel", "choiceOf", "[I", true)
  | 17 => ("CrossbarNetModel", "links", "[I", true)
  | 18 => ("CrossbarNetModel", "junctors", "[I", true)
  | 19 => ("CrossbarNetModel", "registers", "[I", true)
  | 20 => ("CrossbarNetModel", "trunks", "I", false)
  | 21 => ("CrossbarNetModel", "trunkFrom", "[I", true)
  | 22 => ("CrossbarNetModel", "trunkTo", "[I", true)
  | 23 => ("CrossbarNetModel", "trunkOf", "[I", true)
  | 24 => ("CrossbarNetModel", "isOut", "[Z", true)
  | 25 => ("CrossbarNetModel", "rotors", "[I", true)
  | 26 => ("CrossbarNetModel", "overflows", "[I", true)
  | 27 => ("CrossbarNetModel", "jobs", "[I", true)
  | 28 => ("CrossbarNetModel", "jobOf", "[I", true)
  | 29 => ("CrossbarNetModel", "state", "[I", true)
  | 30 => ("CrossbarNetModel", "digits", "[I", true)
  | 31 => ("CrossbarNetModel", "digitOf", "[I", true)
  | 32 => ("CrossbarNetModel", "office", "[I", true)
  | 33 => ("CrossbarNetModel", "register", "[I", true)
  | 34 => ("CrossbarNetModel", "left", "[I", true)
  | 35 => ("CrossbarNetModel", "next", "[I", true)
  | 36 => ("CrossbarNetModel", "nextRegister", "[I", true)
  | 37 => ("CrossbarNetModel", "visited", "[I", true)
  | 38 => ("CrossbarNetModel", "waited", "[I", true)
  | 39 => ("CrossbarNetModel", "called", "[I", true)
  | 40 => ("CrossbarNetModel", "dialled", "[I", true)
  | 41 => ("CrossbarNetModel", "jobAt", "[I", true)
  | 42 => ("CrossbarNetModel", "isHeld", "[Z", true)
  | 43 => ("CrossbarNetModel", "talked", "[I", true)
  | 44 => ("CrossbarNetModel", "hung", "[I", true)
  | 45 => ("CrossbarNetModel", "things", "[I", true)
  | 46 => ("CrossbarNetModel", "thingOf", "[I", true)
  | 47 => ("CrossbarNetModel", "wayFirst", "I", false)
  | _ => ("CrossbarNetModel", "waySecond", "I", false)
def tyX8 : Nat → FieldType := fun k => match k with
  | 0 => .int
  | 1 => .int
  | 2 => .int
  | 3 => .array .boolean
  | 4 => .array .int
  | 5 => .array .int
  | 6 => .array .int
  | 7 => .array .int
  | 8 => .array .int
  | 9 => .array .int
  | 10 => .array .int
  | 11 => .array .int
  | 12 => .array .int
  | 13 => .array .int
  | 14 => .array .int
  | 15 => .array .boolean
  | 16 => .array .int
  | 17 => .array .int
  | 18 => .array .int
  | 19 => .array .int
  | 20 => .int
  | 21 => .array .int
  | 22 => .array .int
  | 23 => .array .int
  | 24 => .array .boolean
  | 25 => .array .int
  | 26 => .array .int
  | 27 => .array .int
  | 28 => .array .int
  | 29 => .array .int
  | 30 => .array .int
  | 31 => .array .int
  | 32 => .array .int
  | 33 => .array .int
  | 34 => .array .int
  | 35 => .array .int
  | 36 => .array .int
  | 37 => .array .int
  | 38 => .array .int
  | 39 => .array .int
  | 40 => .array .int
  | 41 => .array .int
  | 42 => .array .boolean
  | 43 => .array .int
  | 44 => .array .int
  | 45 => .array .int
  | 46 => .array .int
  | 47 => .int
  | _ => .int
abbrev wsX80 : List Cond := u_ws RX8 TX8 49
theorem nmX8 : ∀ a, a < 49 → ∀ b, b < 49 → a ≠ b → (TX8 a).2.1 ≠ (TX8 b).2.1 := by decide +kernel
theorem tyX8_ok : ∀ k, k < 49 → parseFieldDescriptor (TX8 k).2.2.1 = some (tyX8 k) := by decide +kernel
abbrev cX8_init : ByteArray := prog_10_method_1_code
def yX8_init : MethodName := ⟨RX8, "<init>", "()V"⟩
abbrev cX8_thrown : ByteArray := prog_10_method_2_code
def yX8_thrown : MethodName := ⟨RX8, "thrown", "()I"⟩
abbrev cX8_refused : ByteArray := prog_10_method_3_code
def yX8_refused : MethodName := ⟨RX8, "refused", "(I)Z"⟩
abbrev cX8_isIn : ByteArray := prog_10_method_4_code
def yX8_isIn : MethodName := ⟨RX8, "isIn", "(III)Z"⟩
abbrev cX8_isLine : ByteArray := prog_10_method_5_code
def yX8_isLine : MethodName := ⟨RX8, "isLine", "(II)Z"⟩
abbrev cX8_trunk : ByteArray := prog_10_method_6_code
def yX8_trunk : MethodName := ⟨RX8, "trunk", "(II)I"⟩
abbrev cX8_sizeOf : ByteArray := prog_10_method_7_code
def yX8_sizeOf : MethodName := ⟨RX8, "sizeOf", "(I)I"⟩
abbrev cX8_overlap : ByteArray := prog_10_method_8_code
def yX8_overlap : MethodName := ⟨RX8, "overlap", "(II)Z"⟩
abbrev cX8_route : ByteArray := prog_10_method_9_code
def yX8_route : MethodName := ⟨RX8, "route", "(IIIII)I"⟩
abbrev cX8_hunt : ByteArray := prog_10_method_10_code
def yX8_hunt : MethodName := ⟨RX8, "hunt", "(III)I"⟩
abbrev cX8_seize : ByteArray := prog_10_method_11_code
def yX8_seize : MethodName := ⟨RX8, "seize", "(II)V"⟩
abbrev cX8_give : ByteArray := prog_10_method_12_code
def yX8_give : MethodName := ⟨RX8, "give", "(II)V"⟩
abbrev cX8_release : ByteArray := prog_10_method_13_code
def yX8_release : MethodName := ⟨RX8, "release", "(II)V"⟩
abbrev cX8_dropJob : ByteArray := prog_10_method_14_code
def yX8_dropJob : MethodName := ⟨RX8, "dropJob", "(I)V"⟩
abbrev cX8_addJob : ByteArray := prog_10_method_15_code
def yX8_addJob : MethodName := ⟨RX8, "addJob", "(II)V"⟩
abbrev cX8_end : ByteArray := prog_10_method_16_code
def yX8_end : MethodName := ⟨RX8, "end", "(I)V"⟩
abbrev cX8_fail : ByteArray := prog_10_method_17_code
def yX8_fail : MethodName := ⟨RX8, "fail", "(II)V"⟩
abbrev cX8_over : ByteArray := prog_10_method_18_code
def yX8_over : MethodName := ⟨RX8, "over", "(II)V"⟩
abbrev cX8_idleRegister : ByteArray := prog_10_method_19_code
def yX8_idleRegister : MethodName := ⟨RX8, "idleRegister", "(I)I"⟩
abbrev cX8_doesWait : ByteArray := prog_10_method_20_code
def yX8_doesWait : MethodName := ⟨RX8, "doesWait", "(I)Z"⟩
abbrev cX8_begin : ByteArray := prog_10_method_21_code
def yX8_begin : MethodName := ⟨RX8, "begin", "(I)V"⟩
abbrev cX8_lift : ByteArray := prog_10_method_22_code
def yX8_lift : MethodName := ⟨RX8, "lift", "(II)V"⟩
abbrev cX8_hang : ByteArray := prog_10_method_23_code
def yX8_hang : MethodName := ⟨RX8, "hang", "(II)V"⟩
abbrev cX8_fits : ByteArray := prog_10_method_24_code
def yX8_fits : MethodName := ⟨RX8, "fits", "(II)Z"⟩
abbrev cX8_mayBecome : ByteArray := prog_10_method_25_code
def yX8_mayBecome : MethodName := ⟨RX8, "mayBecome", "(II)Z"⟩
abbrev cX8_prefixFor : ByteArray := prog_10_method_26_code
def yX8_prefixFor : MethodName := ⟨RX8, "prefixFor", "(II)I"⟩
abbrev cX8_dial : ByteArray := prog_10_method_27_code
def yX8_dial : MethodName := ⟨RX8, "dial", "(III)Z"⟩
abbrev cX8_isFree : ByteArray := prog_10_method_28_code
def yX8_isFree : MethodName := ⟨RX8, "isFree", "(I)Z"⟩
abbrev cX8_hunted : ByteArray := prog_10_method_29_code
def yX8_hunted : MethodName := ⟨RX8, "hunted", "(II)I"⟩
abbrev cX8_link : ByteArray := prog_10_method_30_code
def yX8_link : MethodName := ⟨RX8, "link", "(III)I"⟩
abbrev cX8_findWay : ByteArray := prog_10_method_31_code
def yX8_findWay : MethodName := ⟨RX8, "findWay", "(III)Z"⟩
abbrev cX8_idleJunctor : ByteArray := prog_10_method_32_code
def yX8_idleJunctor : MethodName := ⟨RX8, "idleJunctor", "(I)I"⟩
abbrev cX8_complete : ByteArray := prog_10_method_33_code
def yX8_complete : MethodName := ⟨RX8, "complete", "(III)V"⟩
abbrev cX8_idleTrunk : ByteArray := prog_10_method_34_code
def yX8_idleTrunk : MethodName := ⟨RX8, "idleTrunk", "(II)I"⟩
abbrev cX8_forward : ByteArray := prog_10_method_35_code
def yX8_forward : MethodName := ⟨RX8, "forward", "(III)V"⟩
abbrev cX8_doJob : ByteArray := prog_10_method_36_code
def yX8_doJob : MethodName := ⟨RX8, "doJob", "(I)V"⟩
abbrev cX8_send : ByteArray := prog_10_method_37_code
def yX8_send : MethodName := ⟨RX8, "send", "(II)V"⟩
abbrev cX8_pass : ByteArray := prog_10_method_38_code
def yX8_pass : MethodName := ⟨RX8, "pass", "(I)V"⟩
abbrev cX8_hand : ByteArray := prog_10_method_39_code
def yX8_hand : MethodName := ⟨RX8, "hand", "(I)V"⟩
abbrev cX8_one : ByteArray := prog_10_method_40_code
def yX8_one : MethodName := ⟨RX8, "one", "()V"⟩
abbrev cX8_tick : ByteArray := prog_10_method_41_code
def yX8_tick : MethodName := ⟨RX8, "tick", "(I)V"⟩
abbrev cX8_out : ByteArray := prog_10_method_42_code
def yX8_out : MethodName := ⟨RX8, "out", "(IZ)Z"⟩
abbrev cX8_hold : ByteArray := prog_10_method_43_code
def yX8_hold : MethodName := ⟨RX8, "hold", "(IIZ)Z"⟩
abbrev cX8_tone : ByteArray := prog_10_method_44_code
def yX8_tone : MethodName := ⟨RX8, "tone", "(II)I"⟩
abbrev cX8_rings : ByteArray := prog_10_method_45_code
def yX8_rings : MethodName := ⟨RX8, "rings", "(II)Z"⟩
abbrev cX8_talks : ByteArray := prog_10_method_46_code
def yX8_talks : MethodName := ⟨RX8, "talks", "(II)I"⟩
abbrev cX8_meter : ByteArray := prog_10_method_47_code
def yX8_meter : MethodName := ⟨RX8, "meter", "(II)I"⟩
abbrev cX8_seized : ByteArray := prog_10_method_48_code
def yX8_seized : MethodName := ⟨RX8, "seized", "(III)I"⟩
abbrev cX8_idle : ByteArray := prog_10_method_49_code
def yX8_idle : MethodName := ⟨RX8, "idle", "(II)I"⟩
abbrev cX8_overflow : ByteArray := prog_10_method_50_code
def yX8_overflow : MethodName := ⟨RX8, "overflow", "(II)I"⟩
def RJx29ce0 : String := "java/lang/Enum"
def TJx29ce0 : u_T := fun k => match k with
  | _ => ("", "", "", false)
def tyJx29ce0 : Nat → FieldType := fun k => match k with
  | _ => .int
abbrev wsJx29ce00 : List Cond := u_ws RJx29ce0 TJx29ce0 0
theorem nmJx29ce0 : ∀ a, a < 0 → ∀ b, b < 0 → a ≠ b → (TJx29ce0 a).2.1 ≠ (TJx29ce0 b).2.1 := by decide +kernel
theorem tyJx29ce0_ok : ∀ k, k < 0 → parseFieldDescriptor (TJx29ce0 k).2.2.1 = some (tyJx29ce0 k) := by decide +kernel
def RL : String := "CrossbarNetLaw"
abbrev cL_trunk : ByteArray := method_3_code
def yL_trunk : MethodName := ⟨RL, "trunk", "(LCrossbarNet;II[J)I"⟩
abbrev cL_route : ByteArray := method_4_code
def yL_route : MethodName := ⟨RL, "route", "(LCrossbarNet;IIIII[J)I"⟩
abbrev cL_hunt : ByteArray := method_5_code
def yL_hunt : MethodName := ⟨RL, "hunt", "(LCrossbarNet;III[J)I"⟩
abbrev cL_lift : ByteArray := method_6_code
def yL_lift : MethodName := ⟨RL, "lift", "(LCrossbarNet;II)I"⟩
abbrev cL_hang : ByteArray := method_7_code
def yL_hang : MethodName := ⟨RL, "hang", "(LCrossbarNet;II)I"⟩
abbrev cL_dial : ByteArray := method_8_code
def yL_dial : MethodName := ⟨RL, "dial", "(LCrossbarNet;III[J)I"⟩
abbrev cL_tick : ByteArray := method_9_code
def yL_tick : MethodName := ⟨RL, "tick", "(LCrossbarNet;I)I"⟩
abbrev cL_out : ByteArray := method_10_code
def yL_out : MethodName := ⟨RL, "out", "(LCrossbarNet;IZ[J)I"⟩
abbrev cL_hold : ByteArray := method_11_code
def yL_hold : MethodName := ⟨RL, "hold", "(LCrossbarNet;IIZ[J)I"⟩
abbrev cL_tone : ByteArray := method_12_code
def yL_tone : MethodName := ⟨RL, "tone", "(LCrossbarNet;II[J)I"⟩
abbrev cL_rings : ByteArray := method_13_code
def yL_rings : MethodName := ⟨RL, "rings", "(LCrossbarNet;II[J)I"⟩
abbrev cL_talks : ByteArray := method_14_code
def yL_talks : MethodName := ⟨RL, "talks", "(LCrossbarNet;II[J)I"⟩
abbrev cL_meter : ByteArray := method_15_code
def yL_meter : MethodName := ⟨RL, "meter", "(LCrossbarNet;II[J)I"⟩
abbrev cL_seized : ByteArray := method_16_code
def yL_seized : MethodName := ⟨RL, "seized", "(LCrossbarNet;III[J)I"⟩
abbrev cL_idle : ByteArray := method_17_code
def yL_idle : MethodName := ⟨RL, "idle", "(LCrossbarNet;II[J)I"⟩
abbrev cL_overflow : ByteArray := method_18_code
def yL_overflow : MethodName := ⟨RL, "overflow", "(LCrossbarNet;II[J)I"⟩
abbrev cL_law : ByteArray := code
def yL_law : MethodName := ⟨RL, "law", "([I)Z"⟩
end
section
/-! THE ABSTRACT MACHINE: values, heaps by components, instructions as transformers of predicates. -/
/-- an int, a long, or a reference (kind, place); place 0 is null; kind 0 is a local that is not set -/
abbrev xV : Type := Int32 ⊕ (Int64 ⊕ (Nat × Nat))
/-- how many there are of a kind; lengths of arrays; ints; references; addresses; cells made since the law's start; the method's own cells and slots; the long -/
abbrev xH : Type := (Nat → Nat) × (Nat → Nat → Nat) × (Nat → Nat → Nat → Int32) × (Nat → Nat → Nat → Nat) × (Nat → Nat → Nat) × Nat × Nat × Nat × Int64
abbrev xS : Type := List xV × List xV × xH
abbrev xO : Type := Option xV ⊕ Nat
abbrev xG : Type := Nat → List xV → xH → (xO → xH → Prop) → Prop
abbrev xI : Type := xG → (xO → xH → Prop) → (Nat → xS → Prop) → (xS → Prop) → xS → Prop
def x_cn (h : xH) : Nat → Nat := h.1
def x_ln (h : xH) : Nat → Nat → Nat := h.2.1
def x_vi (h : xH) : Nat → Nat → Nat → Int32 := h.2.2.1
def x_vr (h : xH) : Nat → Nat → Nat → Nat := h.2.2.2.1
def x_ad (h : xH) : Nat → Nat → Nat := h.2.2.2.2.1
def x_sz (h : xH) : Nat := h.2.2.2.2.2.1
def x_ce (h : xH) : Nat := h.2.2.2.2.2.2.1
def x_so (h : xH) : Nat := h.2.2.2.2.2.2.2.1
def x_lg (h : xH) : Int64 := h.2.2.2.2.2.2.2.2
def x_u1 {α : Type} (f : Nat → α) (k : Nat) (v : α) : Nat → α := fun k' => if k' = k then v else f k'
def x_u2 {α : Type} (f : Nat → Nat → α) (K k : Nat) (v : α) : Nat → Nat → α := fun K' k' => if K' = K ∧ k' = k then v else f K' k'
def x_u3 {α : Type} (f : Nat → Nat → Nat → α) (K k i : Nat) (v : α) : Nat → Nat → Nat → α := fun K' k' i' => if K' = K ∧ k' = k ∧ i' = i then v else f K' k' i'
def x_puti (h : xH) (K k i : Nat) (v : Int32) : xH := (h.1, h.2.1, x_u3 h.2.2.1 K k i v, h.2.2.2)
def x_putr (h : xH) (K k i : Nat) (v : Nat) : xH := (h.1, h.2.1, h.2.2.1, x_u3 h.2.2.2.1 K k i v, h.2.2.2.2)
def x_putl (h : xH) (v : Int64) : xH := (h.1, h.2.1, h.2.2.1, h.2.2.2.1, h.2.2.2.2.1, h.2.2.2.2.2.1, h.2.2.2.2.2.2.1, h.2.2.2.2.2.2.2.1, v)
def x_setc (h : xH) (a b : Nat) : xH := (h.1, h.2.1, h.2.2.1, h.2.2.2.1, h.2.2.2.2.1, h.2.2.2.2.2.1, a, b, h.2.2.2.2.2.2.2.2)
/-- a new object of kind K with N fields, all 0 or null -/
def x_new (h : xH) (K N : Nat) : xH := (x_u1 h.1 K (h.1 K + 1), h.2.1, fun K' k i => if K' = K ∧ i = h.1 K + 1 then 0 else h.2.2.1 K' k i, fun K' k i => if K' = K ∧ i = h.1 K + 1 then 0 else h.2.2.2.1 K' k i, x_u2 h.2.2.2.2.1 K (h.1 K + 1) h.2.2.2.2.2.1, h.2.2.2.2.2.1 + 1, h.2.2.2.2.2.2.1 + 1, h.2.2.2.2.2.2.2.1 + N, h.2.2.2.2.2.2.2.2)
/-- a new array of kind K with n places, all 0 or null -/
def x_newa (h : xH) (K n : Nat) : xH := (x_u1 h.1 K (h.1 K + 1), x_u2 h.2.1 K (h.1 K + 1) n, fun K' j i => if K' = K ∧ j = h.1 K + 1 then 0 else h.2.2.1 K' j i, fun K' j i => if K' = K ∧ j = h.1 K + 1 then 0 else h.2.2.2.1 K' j i, x_u2 h.2.2.2.2.1 K (h.1 K + 1) h.2.2.2.2.2.1, h.2.2.2.2.2.1 + 1, h.2.2.2.2.2.2.1 + 1, h.2.2.2.2.2.2.2.1 + n, if K = 21 then 0 else h.2.2.2.2.2.2.2.2)
/-- an exception is made: d cells more -/
def x_exc (h : xH) (d : Nat) : xH := (h.1, h.2.1, h.2.2.1, h.2.2.2.1, h.2.2.2.2.1, h.2.2.2.2.2.1 + d, h.2.2.2.2.2.2.1 + 1, h.2.2.2.2.2.2.2.1 + 6, h.2.2.2.2.2.2.2.2)
-- values
abbrev x_int (n : Int32) : xV := .inl n
abbrev x_ref (t j : Nat) : xV := .inr (.inr (t, j))
/-- the words that a value takes on the stack -/
def x_cat (v : xV) : Nat := match v with
  | .inl _ => 1
  | .inr (.inl _) => 2
  | .inr (.inr _) => 1
def x_cats (l : List xV) : Nat := match l with
  | [] => 0
  | v :: r => x_cat v + x_cats r
-- instructions
def x_iload (a : Nat) : xI := fun _ _ _ q S => match S.1[a]? with
  | some (.inl n) => q (S.1, .inl n :: S.2.1, S.2.2)
  | _ => False
def x_aload (a : Nat) : xI := fun _ _ _ q S => match S.1[a]? with
  | some (.inr (.inr (t, j))) => t ≠ 0 ∧ q (S.1, .inr (.inr (t, j)) :: S.2.1, S.2.2)
  | _ => False
def x_istore (a : Nat) : xI := fun _ _ _ q S => match S.2.1 with
  | .inl n :: st => a < S.1.length ∧ q (S.1.set a (.inl n), st, S.2.2)
  | _ => False
def x_astore (a : Nat) : xI := fun _ _ _ q S => match S.2.1 with
  | .inr (.inr r) :: st => a < S.1.length ∧ q (S.1.set a (.inr (.inr r)), st, S.2.2)
  | _ => False
def x_iinc (a : Nat) (v : Int32) : xI := fun _ _ _ q S => match S.1[a]? with
  | some (.inl n) => q (S.1.set a (.inl (n + v)), S.2.1, S.2.2)
  | _ => False
def x_iconst (v : Int32) : xI := fun _ _ _ q S => q (S.1, .inl v :: S.2.1, S.2.2)
def x_null (t : Nat) : xI := fun _ _ _ q S => q (S.1, .inr (.inr (t, 0)) :: S.2.1, S.2.2)
/-- an operation on two ints -/
def x_bin (f : Int32 → Int32 → Int32) : xI := fun _ _ _ q S => match S.2.1 with
  | .inl y :: .inl x :: st => q (S.1, .inl (f x y) :: st, S.2.2)
  | _ => False
def x_idiv : xI := fun _ _ _ q S => match S.2.1 with
  | .inl y :: .inl x :: st => ¬ y = 0 ∧ q (S.1, .inl (x / y) :: st, S.2.2)
  | _ => False
def x_irem : xI := fun _ _ _ q S => match S.2.1 with
  | .inl y :: .inl x :: st => ¬ y = 0 ∧ q (S.1, .inl (x - x / y * y) :: st, S.2.2)
  | _ => False
def x_dup : xI := fun _ _ _ q S => match S.2.1 with
  | v :: st => x_cat v = 1 ∧ q (S.1, v :: v :: st, S.2.2)
  | _ => False
def x_dup2 : xI := fun _ _ _ q S => match S.2.1 with
  | v :: w :: st => x_cat v = 1 ∧ x_cat w = 1 ∧ q (S.1, v :: w :: v :: w :: st, S.2.2)
  | _ => False
def x_pop : xI := fun _ _ _ q S => match S.2.1 with
  | v :: st => x_cat v = 1 ∧ q (S.1, st, S.2.2)
  | _ => False
def x_goto (a : Nat) : xI := fun _ _ J _ S => J a S
/-- a comparison with 0: where it holds, to a -/
def x_if (c : Int32 → Prop) (a : Nat) : xI := fun _ _ J q S => match S.2.1 with
  | .inl x :: st => (c x → J a (S.1, st, S.2.2)) ∧ (¬ c x → q (S.1, st, S.2.2))
  | _ => False
def x_icmp (c : Int32 → Int32 → Prop) (a : Nat) : xI := fun _ _ J q S => match S.2.1 with
  | .inl y :: .inl x :: st => (c x y → J a (S.1, st, S.2.2)) ∧ (¬ c x y → q (S.1, st, S.2.2))
  | _ => False
/-- two references of one kind: where they are one, to a -/
def x_aeq (T a : Nat) : xI := fun _ _ J q S => match S.2.1 with
  | .inr (.inr (t, j)) :: .inr (.inr (t', j')) :: st => t = T ∧ t' = T ∧ (j' = j → J a (S.1, st, S.2.2)) ∧ (¬ j' = j → q (S.1, st, S.2.2))
  | _ => False
def x_ane (T a : Nat) : xI := fun _ _ J q S => match S.2.1 with
  | .inr (.inr (t, j)) :: .inr (.inr (t', j')) :: st => t = T ∧ t' = T ∧ (¬ j' = j → J a (S.1, st, S.2.2)) ∧ (j' = j → q (S.1, st, S.2.2))
  | _ => False
def x_ifnull (a : Nat) : xI := fun _ _ J q S => match S.2.1 with
  | .inr (.inr (_, j)) :: st => (j = 0 → J a (S.1, st, S.2.2)) ∧ (¬ j = 0 → q (S.1, st, S.2.2))
  | _ => False
def x_ifnonnull (a : Nat) : xI := fun _ _ J q S => match S.2.1 with
  | .inr (.inr (_, j)) :: st => (¬ j = 0 → J a (S.1, st, S.2.2)) ∧ (j = 0 → q (S.1, st, S.2.2))
  | _ => False
/-- a switch: the targets from lo on, and the default's -/
def x_switch (lo : Int) (tg : List Nat) (d : Nat) : xI := fun _ _ J _ S => match S.2.1 with
  | .inl x :: st => (∀ k a : Nat, tg[k]? = some a → x.toInt = lo + k → J a (S.1, st, S.2.2)) ∧ (x.toInt < lo ∨ lo + tg.length ≤ x.toInt → J d (S.1, st, S.2.2))
  | _ => False
def x_live (h : xH) (K j : Nat) : Prop := 1 ≤ j ∧ j ≤ x_cn h K
def x_gfi (K k : Nat) : xI := fun _ _ _ q S => match S.2.1 with
  | .inr (.inr (t, j)) :: st => t = K ∧ x_live S.2.2 K j ∧ q (S.1, .inl (x_vi S.2.2 K k j) :: st, S.2.2)
  | _ => False
def x_gfr (K k T : Nat) : xI := fun _ _ _ q S => match S.2.1 with
  | .inr (.inr (t, j)) :: st => t = K ∧ x_live S.2.2 K j ∧ q (S.1, .inr (.inr (T, x_vr S.2.2 K k j)) :: st, S.2.2)
  | _ => False
def x_pfi (K k : Nat) : xI := fun _ _ _ q S => match S.2.1 with
  | .inl n :: .inr (.inr (t, j)) :: st => t = K ∧ x_live S.2.2 K j ∧ q (S.1, st, x_puti S.2.2 K k j n)
  | _ => False
/-- a field that holds a boolean -/
def x_pfz (K k : Nat) : xI := fun _ _ _ q S => match S.2.1 with
  | .inl n :: .inr (.inr (t, j)) :: st => t = K ∧ x_live S.2.2 K j ∧ (n = 0 ∨ n = 1) ∧ q (S.1, st, x_puti S.2.2 K k j n)
  | _ => False
def x_pfr (K k T : Nat) : xI := fun _ _ _ q S => match S.2.1 with
  | .inr (.inr (t', j')) :: .inr (.inr (t, j)) :: st => t = K ∧ t' = T ∧ x_live S.2.2 K j ∧ q (S.1, st, x_putr S.2.2 K k j j')
  | _ => False
def x_stage (j : Nat) : xI := fun _ _ _ q S => q (S.1, .inr (.inr (9, j)) :: S.2.1, S.2.2)
/-- a place of an array -/
def x_in (h : xH) (K j : Nat) (i : Int32) : Prop := 0 ≤ i.toInt ∧ i.toInt < x_ln h K j
def x_ald (K : Nat) : xI := fun _ _ _ q S => match S.2.1 with
  | .inl i :: .inr (.inr (t, j)) :: st => t = K ∧ x_live S.2.2 K j ∧ x_in S.2.2 K j i ∧ q (S.1, .inl (x_vi S.2.2 K j i.toNatClampNeg) :: st, S.2.2)
  | _ => False
def x_ast (K : Nat) : xI := fun _ _ _ q S => match S.2.1 with
  | .inl n :: .inl i :: .inr (.inr (t, j)) :: st => t = K ∧ x_live S.2.2 K j ∧ x_in S.2.2 K j i ∧ q (S.1, st, x_puti S.2.2 K j i.toNatClampNeg n)
  | _ => False
def x_zst (K : Nat) : xI := fun _ _ _ q S => match S.2.1 with
  | .inl n :: .inl i :: .inr (.inr (t, j)) :: st => t = K ∧ x_live S.2.2 K j ∧ x_in S.2.2 K j i ∧ (n = 0 ∨ n = 1) ∧ q (S.1, st, x_puti S.2.2 K j i.toNatClampNeg n)
  | _ => False
def x_aald (K T : Nat) : xI := fun _ _ _ q S => match S.2.1 with
  | .inl i :: .inr (.inr (t, j)) :: st => t = K ∧ x_live S.2.2 K j ∧ x_in S.2.2 K j i ∧ q (S.1, .inr (.inr (T, x_vr S.2.2 K j i.toNatClampNeg)) :: st, S.2.2)
  | _ => False
def x_aast (K T : Nat) : xI := fun _ _ _ q S => match S.2.1 with
  | .inr (.inr (t', j')) :: .inl i :: .inr (.inr (t, j)) :: st => t = K ∧ t' = T ∧ x_live S.2.2 K j ∧ x_in S.2.2 K j i ∧ q (S.1, st, x_putr S.2.2 K j i.toNatClampNeg j')
  | _ => False
def x_alen (K : Nat) : xI := fun _ _ _ q S => match S.2.1 with
  | .inr (.inr (t, j)) :: st => t = K ∧ x_live S.2.2 K j ∧ q (S.1, .inl (Int32.ofNat (x_ln S.2.2 K j)) :: st, S.2.2)
  | _ => False
/-- new; bc and bs: what the method may make -/
def x_newo (K N bc bs : Nat) : xI := fun _ _ _ q S => x_ce S.2.2 + 1 ≤ bc ∧ x_so S.2.2 + N ≤ bs ∧ q (S.1, .inr (.inr (K, x_cn S.2.2 K + 1)) :: S.2.1, x_new S.2.2 K N)
def x_newr (K bc bs : Nat) : xI := fun _ _ _ q S => match S.2.1 with
  | .inl n :: st => 0 ≤ n.toInt ∧ n.toInt ≤ 100000 ∧ x_ce S.2.2 + 1 ≤ bc ∧ x_so S.2.2 + n.toNatClampNeg ≤ bs ∧ q (S.1, .inr (.inr (K, x_cn S.2.2 K + 1)) :: st, x_newa S.2.2 K n.toNatClampNeg)
  | _ => False
/-- new int[n][k], the outer array of kind K, the inner ones of kind K' -/
def x_fill (h : xH) (K K' j c : Nat) (k : Nat) : Nat → xH
  | 0 => h
  | n + 1 => x_putr (x_newa (x_fill h K K' j c k n) K' k) K j n (c + n + 1)
def x_newm (K K' bc bs : Nat) : xI := fun _ _ _ q S => match S.2.1 with
  | .inl k :: .inl n :: st => 0 ≤ n.toInt ∧ n.toInt ≤ 1000 ∧ 0 ≤ k.toInt ∧ k.toInt ≤ 1000 ∧ x_ce S.2.2 + 1 + n.toNatClampNeg ≤ bc ∧ x_so S.2.2 + n.toNatClampNeg + n.toNatClampNeg * k.toNatClampNeg ≤ bs ∧
      q (S.1, .inr (.inr (K, x_cn S.2.2 K + 1)) :: st, x_fill (x_newa S.2.2 K n.toNatClampNeg) K K' (x_cn S.2.2 K + 1) (x_cn S.2.2 K') k.toNatClampNeg n.toNatClampNeg)
  | _ => False
/-- Object's constructor -/
def x_objinit : xI := fun _ _ _ q S => match S.2.1 with
  | .inr (.inr (t, j)) :: st => t ≠ 0 ∧ 1 ≤ j ∧ x_cats st ≤ 8 ∧ q (S.1, st, S.2.2)
  | _ => False
/-- a call of method y with n arguments, the receiver among them; mc, ms: what it may make -/
def x_call (y n mc ms bc bs : Nat) : xI := fun Γ Z _ q S => n ≤ S.2.1.length ∧ x_cats (S.2.1.drop n) ≤ 8 ∧ x_ce S.2.2 + mc ≤ bc ∧ x_so S.2.2 + ms ≤ bs ∧
  Γ y (S.2.1.take n).reverse (x_setc S.2.2 0 0) (fun o h => match o with
    | .inl v => q (S.1, v.toList ++ S.2.1.drop n, x_setc h (x_ce S.2.2 + mc) (x_so S.2.2 + ms))
    | .inr k => Z (.inr k) (x_setc h (x_ce S.2.2 + mc) (x_so S.2.2 + ms)))
/-- .. of a method of an object: the receiver is one of kind K -/
def x_callv (K y n mc ms bc bs : Nat) : xI := fun Γ Z J q S => (match (S.2.1.drop (n - 1)).head? with
    | some (.inr (.inr (t, j))) => 1 ≤ n ∧ t = K ∧ x_live S.2.2 K j
    | _ => False) ∧ x_call y n mc ms bc bs Γ Z J q S
/-- a constructor's call: it doesn't throw -/
def x_calli (y n mc ms bc bs : Nat) : xI := fun Γ _ _ q S => n ≤ S.2.1.length ∧ 1 ≤ n ∧ x_cats (S.2.1.drop n) ≤ 8 ∧ x_ce S.2.2 + mc ≤ bc ∧ x_so S.2.2 + ms ≤ bs ∧ (match (S.2.1.drop (n - 1)).head? with
    | some (.inr (.inr (t, j))) => t ≠ 0 ∧ 1 ≤ j
    | _ => False) ∧
  Γ y (S.2.1.take n).reverse (x_setc S.2.2 0 0) (fun o h => match o with
    | .inl v => q (S.1, v.toList ++ S.2.1.drop n, x_setc h (x_ce S.2.2 + mc) (x_so S.2.2 + ms))
    | .inr _ => False)
/-- a call of a nest mate's static method: it doesn't throw -/
def x_calln (y n mc ms bc bs : Nat) : xI := fun Γ _ _ q S => n ≤ S.2.1.length ∧ x_cats (S.2.1.drop n) ≤ 8 ∧ x_ce S.2.2 + mc ≤ bc ∧ x_so S.2.2 + ms ≤ bs ∧
  Γ y (S.2.1.take n).reverse (x_setc S.2.2 0 0) (fun o h => match o with
    | .inl v => q (S.1, v.toList ++ S.2.1.drop n, x_setc h (x_ce S.2.2 + mc) (x_so S.2.2 + ms))
    | .inr _ => False)
def x_ret : xI := fun _ Z _ _ S => match S.2.1 with
  | [] => Z (.inl none) S.2.2
  | _ => False
def x_iret : xI := fun _ Z _ _ S => match S.2.1 with
  | [.inl n] => Z (.inl (some (.inl n))) S.2.2
  | _ => False
def x_zret : xI := fun _ Z _ _ S => match S.2.1 with
  | [.inl n] => (n = 0 ∨ n = 1) ∧ Z (.inl (some (.inl n))) S.2.2
  | _ => False
def x_aret (T : Nat) : xI := fun _ Z _ _ S => match S.2.1 with
  | [.inr (.inr (t, j))] => t = T ∧ Z (.inl (some (.inr (.inr (t, j))))) S.2.2
  | _ => False
/-- throw new E() -/
def x_throw (E bc bs : Nat) : xI := fun _ Z _ _ S => x_cats S.2.1 ≤ 8 ∧ x_ce S.2.2 + 1 ≤ bc ∧ x_so S.2.2 + 6 ≤ bs ∧ ∀ d, Z (.inr E) (x_exc S.2.2 d)
-- a block
def x_seq (L : List (Nat × xI)) (Γ : xG) (Z : xO → xH → Prop) (J : Nat → xS → Prop) (S : xS) : Prop := match L with
  | [] => False
  | f :: r => f.2 Γ Z J (fun S' => x_seq r Γ Z J S') S
end
section
/-! THE KINDS: 1 Call, 2 Line, 3 Office, 4 Route, 5 Row, 6 Trunk, 7 the net, 8 the reference; 9 a stage, 10 the script (both from outside); 11 .. arrays, by the field that holds them -/
def xk_C : Nat → String := fun K => match K with
  | 1 => RX0
  | 2 => RX1
  | 3 => RX2
  | 4 => RX3
  | 5 => RX4
  | 6 => RX6
  | 7 => RX7
  | _ => RX8
def xk_T : Nat → u_T := fun K => match K with
  | 1 => TX0
  | 2 => TX1
  | 3 => TX2
  | 4 => TX3
  | 5 => TX4
  | 6 => TX6
  | 7 => TX7
  | _ => TX8
def xk_N : Nat → Nat := fun K => match K with
  | 1 => 15
  | 2 => 6
  | 3 => 9
  | 4 => 5
  | 5 => 2
  | 6 => 4
  | 7 => 5
  | _ => 49
def xk_ty : Nat → Nat → FieldType := fun K => match K with
  | 1 => tyX0
  | 2 => tyX1
  | 3 => tyX2
  | 4 => tyX3
  | 5 => tyX4
  | 6 => tyX6
  | 7 => tyX7
  | _ => tyX8
def xk_o (K : Nat) : Prop := 1 ≤ K ∧ K ≤ 8
def xk_a (K : Nat) : Prop := 11 ≤ K ∧ K ≤ 64
/-- the kind of what a field refers to; 0: an int or a boolean -/
def x_ftl : List (List Nat) := [[2, 5, 9, 2, 4, 0, 0, 0, 0, 0, 0, 0, 0, 0, 0], [0, 0, 0, 0, 0, 1], [0, 16, 17, 18, 19, 5, 5, 0, 0], [0, 0, 5, 0, 0], [20, 0], [0, 0, 0, 1], [11, 12, 13, 14, 0], [0, 0, 0, 22, 23, 24, 25, 26, 27, 28, 29, 30, 31, 32, 33, 34, 35, 36, 37, 38, 0, 39, 40, 41, 42, 43, 44, 45, 46, 47, 48, 49, 50, 51, 52, 53, 54, 55, 56, 57, 58, 59, 60, 61, 62, 63, 64, 0, 0]]
def x_ft (K k : Nat) : Nat := ((x_ftl[K - 1]?.getD [])[k]?).getD 0
/-- the kind of what an array refers to -/
def x_et (K : Nat) : Nat := match K with
  | 11 => 3
  | 12 => 1
  | 13 => 6
  | 14 => 15
  | 16 => 2
  | 17 => 1
  | 18 => 4
  | 19 => 5
  | _ => 0
def xk_ety (K : Nat) : FieldType := match K with
  | 11 => .object RX2
  | 12 => .object RX0
  | 13 => .object RX6
  | 14 => .array .int
  | 16 => .object RX1
  | 17 => .object RX0
  | 18 => .object RX3
  | 19 => .object RX4
  | 21 => .long
  | 22 => .boolean
  | 34 => .boolean
  | 42 => .boolean
  | 60 => .boolean
  | _ => .int
/-! WHAT A HEAP OF THE MACHINE SAYS OF THE HEAP -/
section XR
variable (n0 : Nat) (oa : Nat → Nat → Nat)
def x_addr (h : xH) (t j : Nat) : Nat := if t = 9 ∨ t = 10 then oa t j else n0 + x_ad h t j
def x_cr (h : xH) (t j : Nat) : Value := if j = 0 then .null else .ref (x_addr n0 oa h t j)
def x_cv (h : xH) (v : xV) : Value := match v with
  | .inl n => .int n
  | .inr (.inl n) => .long n
  | .inr (.inr r) => x_cr n0 oa h r.1 r.2
/-- what field k of the object j of kind K holds -/
def x_cf (h : xH) (K k j : Nat) : Value := if x_ft K k = 0 then .int (x_vi h K k j) else x_cr n0 oa h (x_ft K k) (x_vr h K k j)
/-- what place i of the array j of kind K holds -/
def x_ae (h : xH) (K j i : Nat) : Value := if K = 21 then .long (x_lg h) else if x_et K = 0 then .int (x_vi h K j i) else x_cr n0 oa h (x_et K) (x_vr h K j i)
def x_Rep (D : (Nat → ClassId) × (Nat → Nat → Nat) × (Nat → ClassId)) (h : xH) (H : Heap) : Prop :=
  H.size = n0 + x_sz h ∧
  (∀ K j, xk_o K → x_live h K j → x_ad h K j < x_sz h ∧ t_OB (n0 + x_ad h K j) (D.1 K) (xk_N K) (D.2.1 K) H (fun k => x_cf n0 oa h K k j)) ∧
  (∀ K j, xk_a K → x_live h K j → x_ad h K j < x_sz h ∧ H[n0 + x_ad h K j]? = some (arrV (D.2.2 K) (x_ln h K j) (fun i => x_ae n0 oa h K j i))) ∧
  (∀ K j K' j', (xk_o K ∨ xk_a K) → (xk_o K' ∨ xk_a K') → x_live h K j → x_live h K' j' → x_ad h K j = x_ad h K' j' → K = K' ∧ j = j') ∧
  (∀ K j k, xk_o K → x_live h K j → x_vr h K k j ≤ x_cn h (x_ft K k)) ∧
  (∀ K j i, xk_a K → x_live h K j → x_vr h K j i ≤ x_cn h (x_et K)) ∧ x_cn h 9 = 6
/-- a value's reference is null or there -/
def x_lv (h : xH) (v : xV) : Prop := match v with
  | .inr (.inr r) => r.2 ≤ x_cn h r.1
  | _ => True
/-- a later heap: what was there is where it was -/
def x_le (h h' : xH) : Prop := (∀ K, x_cn h K ≤ x_cn h' K) ∧ (∀ K j, j ≤ x_cn h K → x_ad h' K j = x_ad h K j) ∧ x_vi h' 10 = x_vi h 10 ∧ x_ln h' 10 = x_ln h 10
end XR
theorem x_le.rf {h : xH} : x_le h h := ⟨fun _ => Nat.le_refl _, fun _ _ _ => rfl, rfl, rfl⟩
theorem x_le.tr {a b c : xH} (h1 : x_le a b) (h2 : x_le b c) : x_le a c :=
  ⟨fun K => Nat.le_trans (h1.1 K) (h2.1 K), fun K j hj => (h2.2.1 K j (Nat.le_trans hj (h1.1 K))).trans (h1.2.1 K j hj), h2.2.2.1.trans h1.2.2.1, h2.2.2.2.trans h1.2.2.2⟩
theorem x_cr_le {n0 : Nat} {oa : Nat → Nat → Nat} {h h' : xH} (hl : x_le h h') {t j : Nat} (hj : j ≤ x_cn h t) : x_cr n0 oa h' t j = x_cr n0 oa h t j := by
  unfold x_cr x_addr
  rw [hl.2.1 t j hj]
theorem x_cv_le {n0 : Nat} {oa : Nat → Nat → Nat} {h h' : xH} (hl : x_le h h') {v : xV} (hv : x_lv h v) : x_cv n0 oa h' v = x_cv n0 oa h v := by
  match v, hv with
  | .inl n, _ => rfl
  | .inr (.inl n), _ => rfl
  | .inr (.inr r), hv => exact x_cr_le hl hv
theorem x_lv_le {h h' : xH} (hl : x_le h h') {v : xV} (hv : x_lv h v) : x_lv h' v := by
  match v, hv with
  | .inl n, _ => trivial
  | .inr (.inl n), _ => trivial
  | .inr (.inr r), hv => exact Nat.le_trans hv (hl.1 r.1)
theorem x_cvs_le {n0 : Nat} {oa : Nat → Nat → Nat} {h h' : xH} (hl : x_le h h') : ∀ {l : List xV}, (∀ v ∈ l, x_lv h v) → l.map (x_cv n0 oa h') = l.map (x_cv n0 oa h)
  | [], _ => rfl
  | v :: r, hv => by
    rw [List.map_cons, List.map_cons, x_cv_le hl (hv v List.mem_cons_self), x_cvs_le hl (fun w hw => hv w (List.mem_cons_of_mem _ hw))]
theorem x_lvs_le {h h' : xH} (hl : x_le h h') {l : List xV} (hv : ∀ v ∈ l, x_lv h v) : ∀ v ∈ l, x_lv h' v := fun v h => x_lv_le hl (hv v h)
theorem x_live_le {h h' : xH} (hl : x_le h h') {K j : Nat} (hv : x_live h K j) : x_live h' K j := ⟨hv.1, Nat.le_trans hv.2 (hl.1 K)⟩
theorem x_addr_in {n0 : Nat} {oa : Nat → Nat → Nat} {h : xH} {K j : Nat} (hK : xk_o K ∨ xk_a K) : x_addr n0 oa h K j = n0 + x_ad h K j := by
  unfold x_addr
  rw [if_neg]
  rcases hK with h | h <;> (simp only [xk_o, xk_a] at h; omega)
theorem x_cr_in {n0 : Nat} {oa : Nat → Nat → Nat} {h : xH} {K j : Nat} (hK : xk_o K ∨ xk_a K) (hj : x_live h K j) : x_cr n0 oa h K j = .ref (n0 + x_ad h K j) := by
  unfold x_cr
  rw [if_neg (by have := hj.1; omega), x_addr_in hK]
-- puts leave all but the contents
theorem x_le.puti {h : xH} {K k i : Nat} {v : Int32} (hK : K ≠ 10) : x_le h (x_puti h K k i v) :=
  ⟨fun _ => Nat.le_refl _, fun _ _ _ => rfl, by funext a b; show x_u3 (x_vi h) K k i v 10 a b = x_vi h 10 a b; unfold x_u3; rw [if_neg (fun q => hK q.1.symm)], rfl⟩
theorem x_le.putr {h : xH} {K k i v : Nat} : x_le h (x_putr h K k i v) := ⟨fun _ => Nat.le_refl _, fun _ _ _ => rfl, rfl, rfl⟩
theorem x_le.putl {h : xH} {v : Int64} : x_le h (x_putl h v) := ⟨fun _ => Nat.le_refl _, fun _ _ _ => rfl, rfl, rfl⟩
theorem x_le.setc {h : xH} {a b : Nat} : x_le h (x_setc h a b) := ⟨fun _ => Nat.le_refl _, fun _ _ _ => rfl, rfl, rfl⟩
theorem x_le.exc {h : xH} {d : Nat} : x_le h (x_exc h d) := ⟨fun _ => Nat.le_refl _, fun _ _ _ => rfl, rfl, rfl⟩
theorem x_le.new {h : xH} {K N : Nat} (hK : K ≠ 10) : x_le h (x_new h K N) := by
  refine ⟨fun K' => ?_, fun K' j hj => ?_, ?_, rfl⟩
  · show x_cn h K' ≤ x_u1 (x_cn h) K (x_cn h K + 1) K'
    unfold x_u1
    by_cases e : K' = K
    · rw [if_pos e, e]; omega
    · rw [if_neg e]; exact Nat.le_refl _
  · show x_u2 (x_ad h) K (x_cn h K + 1) _ K' j = x_ad h K' j
    unfold x_u2
    rw [if_neg]
    rintro ⟨rfl, rfl⟩
    omega
  · funext a b
    show (if 10 = K ∧ b = x_cn h K + 1 then 0 else x_vi h 10 a b) = x_vi h 10 a b
    rw [if_neg (fun q => hK q.1.symm)]
theorem x_le.newa {h : xH} {K n : Nat} (hK : K ≠ 10) : x_le h (x_newa h K n) := by
  refine ⟨fun K' => ?_, fun K' j hj => ?_, ?_, ?_⟩
  · show x_cn h K' ≤ x_u1 (x_cn h) K (x_cn h K + 1) K'
    unfold x_u1
    by_cases e : K' = K
    · rw [if_pos e, e]; omega
    · rw [if_neg e]; exact Nat.le_refl _
  · show x_u2 (x_ad h) K (x_cn h K + 1) _ K' j = x_ad h K' j
    unfold x_u2
    rw [if_neg]
    rintro ⟨rfl, rfl⟩
    omega
  · funext a b
    show (if 10 = K ∧ a = x_cn h K + 1 then 0 else x_vi h 10 a b) = x_vi h 10 a b
    rw [if_neg (fun q => hK q.1.symm)]
  · funext a
    show x_u2 (x_ln h) K (x_cn h K + 1) n 10 a = x_ln h 10 a
    unfold x_u2
    rw [if_neg (fun q => hK q.1.symm)]
/-- one cell's contents change -/
theorem x_Rep.put {n0 : Nat} {oa : Nat → Nat → Nat} {D : (Nat → ClassId) × (Nat → Nat → Nat) × (Nat → ClassId)} {h h' : xH} {H H' : Heap} (hR : x_Rep n0 oa D h H) {K j : Nat}
    (e1 : x_cn h' = x_cn h) (e2 : x_ln h' = x_ln h) (e3 : x_ad h' = x_ad h) (e4 : x_sz h' = x_sz h) (hK : xk_o K ∨ xk_a K) (hj : x_live h K j)
    (hz : H'.size = H.size) (ho : ∀ q, q ≠ n0 + x_ad h K j → H'[q]? = H[q]?)
    (f1 : ∀ K' k j', xk_o K' → x_live h K' j' → ¬ (K' = K ∧ j' = j) → x_cf n0 oa h' K' k j' = x_cf n0 oa h K' k j')
    (f2 : ∀ K' j' i, xk_a K' → x_live h K' j' → ¬ (K' = K ∧ j' = j) → x_ae n0 oa h' K' j' i = x_ae n0 oa h K' j' i)
    (g1 : xk_o K → t_OB (n0 + x_ad h K j) (D.1 K) (xk_N K) (D.2.1 K) H' (fun k => x_cf n0 oa h' K k j))
    (g2 : xk_a K → H'[n0 + x_ad h K j]? = some (arrV (D.2.2 K) (x_ln h K j) (fun i => x_ae n0 oa h' K j i)))
    (l1 : ∀ K j k, xk_o K → x_live h K j → x_vr h' K k j ≤ x_cn h (x_ft K k)) (l2 : ∀ K j i, xk_a K → x_live h K j → x_vr h' K j i ≤ x_cn h (x_et K)) : x_Rep n0 oa D h' H' := by
  obtain ⟨a1, a2, a3, a4, -, -, a7⟩ := hR
  have lv : ∀ K j, x_live h' K j → x_live h K j := fun K j q => by unfold x_live at *; rw [e1] at q; exact q
  refine ⟨by rw [hz, a1, e4], fun K' j' hK' hj' => ?_, fun K' j' hK' hj' => ?_, fun K1 j1 K2 j2 b1 b2 b3 b4 b5 => ?_, fun K' j' k b1 b2 => ?_, fun K' j' k b1 b2 => ?_, by rw [e1]; exact a7⟩
  · have hl := lv _ _ hj'
    rw [e3, e4]
    refine ⟨(a2 K' j' hK' hl).1, ?_⟩
    by_cases e : K' = K ∧ j' = j
    · obtain ⟨rfl, rfl⟩ := e
      exact g1 hK'
    · have hne : n0 + x_ad h K' j' ≠ n0 + x_ad h K j := fun q => e (a4 K' j' K j (Or.inl hK') hK hl hj (by omega))
      exact t_OB.to ((a2 K' j' hK' hl).2.kept (ho _ hne)) (fun k _ => (f1 K' k j' hK' hl e).symm)
  · have hl := lv _ _ hj'
    rw [e3, e4, e2]
    refine ⟨(a3 K' j' hK' hl).1, ?_⟩
    by_cases e : K' = K ∧ j' = j
    · obtain ⟨rfl, rfl⟩ := e
      exact g2 hK'
    · have hne : n0 + x_ad h K' j' ≠ n0 + x_ad h K j := fun q => e (a4 K' j' K j (Or.inr hK') hK hl hj (by omega))
      rw [ho _ hne, (a3 K' j' hK' hl).2]
      exact congrArg some (congrArg (arrV _ _) (funext fun i => (f2 K' j' i hK' hl e).symm))
  · rw [e3] at b5
    exact a4 K1 j1 K2 j2 b1 b2 (lv _ _ b3) (lv _ _ b4) b5
  · rw [e1]; exact l1 K' j' k b1 (lv _ _ b2)
  · rw [e1]; exact l2 K' j' k b1 (lv _ _ b2)
end
section
/-! METHODS, LOCALS, AND WHAT A SOUND INSTRUCTION IS -/
/-- a method: its name, code, locals, answer, class; frames, words of locals, cells, slots that it may take; whether it is a constructor -/
abbrev xM : Type := MethodName × ByteArray × Nat × Option FieldType × String × Nat × Nat × Nat × Nat × Bool
abbrev xM.y (M : xM) : MethodName := M.1
abbrev xM.cd (M : xM) : ByteArray := M.2.1
abbrev xM.mL (M : xM) : Nat := M.2.2.1
abbrev xM.rt (M : xM) : Option FieldType := M.2.2.2.1
abbrev xM.own (M : xM) : String := M.2.2.2.2.1
abbrev xM.fr (M : xM) : Nat := M.2.2.2.2.2.1
abbrev xM.lo (M : xM) : Nat := M.2.2.2.2.2.2.1
abbrev xM.mc (M : xM) : Nat := M.2.2.2.2.2.2.2.1
abbrev xM.ms (M : xM) : Nat := M.2.2.2.2.2.2.2.2.1
abbrev xM.ini (M : xM) : Bool := M.2.2.2.2.2.2.2.2.2
/-- the good words of the tables -/
def x_big : List Cond := lw_tbl.filter goodWord
theorem x_big_in {w : Cond} (h : w ∈ lw_tbl) (hg : goodWord w = true) : w ∈ x_big := List.mem_filter.mpr ⟨h, hg⟩
def x_ws (M : xM) : List Cond := Cond.code M.y M.cd M.mL M.rt :: x_big
def x_rm (M : xM) : Room := { frames := M.fr, cells := M.mc, slots := M.ms, locals := M.lo }
/-- set locals -/
def x_svb (v : xV) : Bool := match v with
  | .inl _ => true
  | .inr (.inl _) => false
  | .inr (.inr r) => !(r.1 == 0)
def x_prs (cv : xV → Value) (ls : List xV) : List (Nat × Value) := (List.range ls.length).filterMap (fun i => (ls[i]?).bind (fun v => if x_svb v = true then some (i, cv v) else none))
theorem x_prs_mem {cv : xV → Value} {ls : List xV} {i : Nat} {w : Value} : (i, w) ∈ x_prs cv ls ↔ ∃ v, ls[i]? = some v ∧ x_svb v = true ∧ cv v = w := by
  unfold x_prs
  rw [List.mem_filterMap]
  constructor
  · rintro ⟨k, -, hk⟩
    obtain ⟨v, hv, h2⟩ := Option.bind_eq_some_iff.mp hk
    by_cases hs : x_svb v = true
    · rw [if_pos hs] at h2
      cases h2
      exact ⟨v, hv, hs, rfl⟩
    · rw [if_neg hs] at h2
      cases h2
  · rintro ⟨v, hv, hs, rfl⟩
    refine ⟨i, List.mem_range.mpr (List.getElem?_eq_some_iff.mp hv).1, ?_⟩
    rw [hv]
    show (if x_svb v = true then some (i, cv v) else none) = _
    rw [if_pos hs]
theorem x_cr_or (n0 : Nat) (oa : Nat → Nat → Nat) (h : xH) (t j : Nat) : x_cr n0 oa h t j = .null ∨ ∃ a, x_cr n0 oa h t j = .ref a := by
  unfold x_cr
  by_cases e : j = 0
  · rw [if_pos e]; exact Or.inl rfl
  · rw [if_neg e]; exact Or.inr ⟨_, rfl⟩
theorem x_cv_cat {n0 : Nat} {oa : Nat → Nat → Nat} {h : xH} {v : xV} : (x_cv n0 oa h v).category = x_cat v := by
  match v with
  | .inl n => rfl
  | .inr (.inl n) => rfl
  | .inr (.inr r) =>
    show (x_cr n0 oa h r.1 r.2).category = 1
    rcases x_cr_or n0 oa h r.1 r.2 with e | ⟨a, e⟩ <;> rw [e] <;> rfl
theorem x_cats_eq {n0 : Nat} {oa : Nat → Nat → Nat} {h : xH} : ∀ l : List xV, ((l.map (x_cv n0 oa h)).map fun v => v.category).sum = x_cats l
  | [] => rfl
  | v :: r => by
    rw [List.map_cons, List.map_cons, List.sum_cons, x_cats_eq r, x_cv_cat]
    rfl
theorem x_svb_cat {v : xV} (h : x_svb v = true) : x_cat v = 1 := by
  match v, h with
  | .inl n, _ => rfl
  | .inr (.inr r), _ => rfl
def x_Loc (cv : xV → Value) (fl : Array Slot) (n : Nat) (ls : List xV) : Prop := ls.length = n ∧ lv_has fl n (x_prs cv ls)
theorem x_Loc.at {cv : xV → Value} {fl : Array Slot} {n : Nat} {ls : List xV} (h : x_Loc cv fl n ls) {i : Nat} {v : xV} (hv : ls[i]? = some v) (hs : x_svb v = true) : fl[i]? = some (.val (cv v)) := h.2.2.2 (i, cv v) (x_prs_mem.mpr ⟨v, hv, hs, rfl⟩)
theorem x_Loc.set {n0 : Nat} {oa : Nat → Nat → Nat} {hh : xH} {fl fl' : Array Slot} {n : Nat} {ls : List xV} (h : x_Loc (x_cv n0 oa hh) fl n ls) {a : Nat} {v : xV} (ha : a < ls.length)
    (h' : lv_has fl' n ((a, x_cv n0 oa hh v) :: (x_prs (x_cv n0 oa hh) ls).filter (fun q => !(q.1 == a) && !(q.1 + 1 == a && q.2.category == 2)))) : x_Loc (x_cv n0 oa hh) fl' n (ls.set a v) := by
  refine ⟨by rw [List.length_set]; exact h.1, h'.1, h'.2.1, ?_⟩
  rintro ⟨i, w⟩ hq
  obtain ⟨u, hu, hs, rfl⟩ := x_prs_mem.mp hq
  by_cases e : i = a
  · subst e
    rw [List.getElem?_set_self ha] at hu
    cases hu
    exact h'.2.2 _ List.mem_cons_self
  · rw [List.getElem?_set_ne (fun q => e q.symm)] at hu
    refine h'.2.2 (i, x_cv n0 oa hh u) (List.mem_cons_of_mem _ (List.mem_filter.mpr ⟨x_prs_mem.mpr ⟨u, hu, hs, rfl⟩, ?_⟩))
    have hc : (x_cv n0 oa hh u).category = 1 := by rw [x_cv_cat, x_svb_cat hs]
    simp [e, hc]
theorem x_Loc.le {n0 : Nat} {oa : Nat → Nat → Nat} {h h' : xH} (hl : x_le h h') {fl : Array Slot} {n : Nat} {ls : List xV} (hv : ∀ v ∈ ls, x_lv h v) (L : x_Loc (x_cv n0 oa h) fl n ls) : x_Loc (x_cv n0 oa h') fl n ls := by
  refine ⟨L.1, L.2.1, L.2.2.1, ?_⟩
  rintro ⟨i, w⟩ hq
  obtain ⟨u, hu, hs, rfl⟩ := x_prs_mem.mp hq
  rw [x_cv_le hl (hv u (List.mem_of_getElem? hu))]
  exact L.at hu hs
-- what the tables say of the classes and of the arrays' classes
def x_K (D : (Nat → ClassId) × (Nat → Nat → Nat) × (Nat → ClassId)) (s : State) : Prop :=
  (∀ K, xk_o K → u_Kn s (xk_C K) (xk_T K) (xk_N K) (D.1 K) (D.2.1 K)) ∧ (∀ K, xk_a K → ArrOfT s (D.2.2 K) (xk_ety K) ∧ va_RA s (D.2.2 K) (xk_ety K))
theorem x_K.moved {D : (Nat → ClassId) × (Nat → Nat → Nat) × (Nat → ClassId)} {u U : State} (hvm : u.vm.Alike U.vm) (h : x_K D u) : x_K D U := ⟨fun K hK => u_Kn_moved hvm (h.1 K hK), fun K hK => ⟨arrOfT_moved hvm (h.2 K hK).1, (h.2 K hK).2.moved hvm⟩⟩
/-- the stages by their places -/
def x_sn (j : Nat) : String := match j with
  | 1 => "NO_CALL"
  | 2 => "DIALLING"
  | 3 => "JOB"
  | 4 => "SENDING"
  | 5 => "RINGING"
  | _ => "TALKING"
/-- the exceptions by their numbers -/
def x_en (E : Nat) : String := if E = 1 then "java/lang/IllegalArgumentException" else "java/lang/IllegalStateException"
def x_chain : List String := ["java/lang/RuntimeException", "java/lang/Exception"]
/-- words that are not good ones: what a throw needs -/
def x_nw : List Cond := [.declares (Bundle.init0 "java/lang/RuntimeException"), .declares (Bundle.init0 "java/lang/Exception"), .declares (Bundle.init0 Bundle.tN)]
/-- arrays of int[] can be made -/
def x_AOA (U : State) : Prop := (Cond.arrayOver (.array .int)).before #[] U = true
theorem x_AOA.moved {u U : State} (hvm : u.vm.Alike U.vm) (h : x_AOA u) : x_AOA U := by
  obtain ⟨comp, c, k, h1, h2, h3, h4, h5⟩ := arrayOverA_spec h
  obtain ⟨k', hk', he⟩ := hvm.2.2 _ _ h3
  have e0 := va_idx_bare U.vm comp
  have e2 : U.vm.bare = u.vm.bare := by first | exact hvm.bare_eq | exact hvm.bare_eq.symm
  rw [e2] at e0
  have hi := e0.symm.trans ((va_idx_bare u.vm comp).trans h2)
  have hkind : k'.kind = .array comp (.array .int) := by rw [he]; exact h4
  have f1 : U.vm.findClass (FieldType.array .int).toString = some comp := by rw [hvm.findClass]; exact h1
  have f2 : U.vm.findClass ("[" ++ (FieldType.array .int).toString) = some c := by rw [hvm.findClass]; exact h5
  unfold x_AOA Cond.before Cond.holds
  simp only [Cond.value]
  rw [f1, Option.bind_some]
  refine (congrArg (fun o : Option Nat => (o.bind (fun c => (U.vm.classes[c]?).map fun (k : Class) => match k.kind with | .array _ ty => decide (ty = FieldType.array .int) && decide (U.vm.findClass ("[" ++ (FieldType.array .int).toString) = some c) | _ => false) == some true)) hi).trans ?_
  simp [hk', hkind, f2]
def x_aol : List String := [RX0, RX1, RX2, RX3, RX4, RX6]
/-- the calls of nest mates -/
def x_nl : List (String × Nat × MethodName × String) := [(RX2, 66, yX7_beginsWith, RX7), (RX2, 85, yX7_isLine, RX7), (RX3, 36, yX7_countDigits, RX7)]
def x_St (n0 : Nat) (oa : Nat → Nat → Nat) (L : Nat) (xs : Nat → Int32) (U : State) (H : Heap) : Prop :=
  (∀ j, 1 ≤ j → j ≤ 6 → va_Z "CrossbarNet$Stage" (x_sn j) "LCrossbarNet$Stage;" (.ref (oa 9 j)) (fun q => n0 ≤ q) U H) ∧
  (∀ i j, 1 ≤ i → i ≤ 6 → 1 ≤ j → j ≤ 6 → oa 9 i = oa 9 j → i = j) ∧
  vx_Zq Bundle.tN "UNASSIGNED_STACK" Bundle.steD (fun q => n0 ≤ q) U H ∧ vx_Zq Bundle.tN "SUPPRESSED_SENTINEL" Bundle.listD (fun q => n0 ≤ q) U H ∧
  va_X (oa 10 1) L xs U H ∧ oa 10 1 < n0 ∧ (∀ w ∈ x_nw, va_Nw w U) ∧ (∀ E, va_Nw (.castable (x_en E) (x_en E)) U) ∧ (∀ q ∈ x_nl, va_Nw (.methodLinkNest q.1 q.2.1 q.2.2.1 q.2.2.2) U) ∧ (∀ C ∈ x_aol, va_AO C U) ∧ x_AOA U
theorem x_St.moved {n0 : Nat} {oa : Nat → Nat → Nat} {L : Nat} {xs : Nat → Int32} {u U : State} {H : Heap} (hW : u.WarmedH U.vm) (h : x_St n0 oa L xs u H) : x_St n0 oa L xs U H := by
  obtain ⟨a1, a2, a3, a4, a5, a6, a7, a8, a9, a10, a11⟩ := h
  refine ⟨fun j h1 h2 => va_Z.moved hW.alike (a1 j h1 h2), a2, vx_Zq.moved hW.alike a3, vx_Zq.moved hW.alike a4, va_X.moved hW.alike a5, a6, fun w hw => ?_, fun E => va_Nw.warmC hW (a8 E), fun q hq => va_Nw.warmM hW (a9 q hq), fun C hC => va_AO.moved hW.alike (a10 C hC), x_AOA.moved hW.alike a11⟩
  have h9 := a7 w hw
  simp only [x_nw, List.mem_cons, List.not_mem_nil, or_false] at hw
  rcases hw with rfl | rfl | rfl <;> exact va_Nw.warmD hW h9
theorem x_St.kept {n0 : Nat} {oa : Nat → Nat → Nat} {L : Nat} {xs : Nat → Int32} {U : State} {H H1 : Heap} (h : x_St n0 oa L xs U H) (hn : n0 ≤ H.size) (hq : ∀ a : Nat, a < H.size → ¬ n0 ≤ a → H1[a]? = H[a]?) : x_St n0 oa L xs U H1 := by
  obtain ⟨a1, a2, a3, a4, a5, a6, a7, a8, a9, a10, a11⟩ := h
  exact ⟨fun j h1 h2 => va_Z.kept (a1 j h1 h2) hq, a2, vx_Zq.kept a3 hq, vx_Zq.kept a4 hq, va_X.kept a5 (hq _ (by omega) (by omega)), a6, a7, a8, a9, a10, a11⟩
section XC
variable (n0 : Nat) (oa : Nat → Nat → Nat) (D : (Nat → ClassId) × (Nat → Nat → Nat) × (Nat → ClassId))
def x_Pc (args : List xV) (h : xH) : Array Value → State → Prop := fun a U => a = (args.map (x_cv n0 oa h)).toArray ∧ x_Rep n0 oa D h U.heap ∧ x_K D U ∧ x_St n0 oa (x_ln h 10 1) (x_vi h 10 1) U U.heap ∧ n0 ≤ U.heap.size
def x_Qc (h : xH) (Z : xO → xH → Prop) : Array Value → State → Outcome → State → Prop := fun _ st o t => ∃ (v : Option xV) (h1 : xH), Z (.inl v) h1 ∧ o = .returned (v.map (x_cv n0 oa h1)) ∧ x_Rep n0 oa D h1 t.heap ∧ x_le h h1 ∧ (∀ w ∈ v, x_lv h1 w) ∧ va_F (fun q => n0 ≤ q) st t
def x_XC (h : xH) (Z : xO → xH → Prop) : String → State → State → Prop := fun E st t => ∃ (k : Nat) (h1 : xH), Z (.inr k) h1 ∧ E = x_en k ∧ x_Rep n0 oa D h1 t.heap ∧ x_le h h1 ∧ va_F (fun q => n0 ≤ q) st t
/-- the contract of a method at these arguments and this heap -/
def x_Con (M : xM) (args : List xV) (h : xH) (Z : xO → xH → Prop) : Prop := ∀ l : Launch, l.stackTraces = false → (∀ v ∈ args, x_lv h v) →
  vx_Met l M.y (x_ws M) (x_rm M) (x_Pc n0 oa D args h) (x_Qc n0 oa D h Z) (x_XC n0 oa D h Z) M.mc M.ms (fun q => n0 ≤ q)
/-- what holds throughout a method's body -/
def x_Cx (M : xM) (h0 : xH) (p : Program) (l : Launch) (R : Room) (s : State) (m : MethodId) (args : Array Value) (meth : Method) (c : Code) : Prop :=
  p.tables.exec = Jvm.exec ∧ c.code = M.cd ∧ c.maxLocals = M.mL ∧ s.vm.findClass M.own = some m.cls ∧ (∀ w ∈ x_big, w.before args s = true) ∧ meth.sig.returnType = M.rt ∧ meth.locks = false ∧
  (M.ini = true → meth.name = "<init>") ∧ c.exceptionTable.toList = [] ∧ x_K D s ∧ x_St n0 oa (x_ln h0 10 1) (x_vi h0 10 1) s s.heap ∧ n0 ≤ s.heap.size ∧ R = x_rm M ∧ l.stackTraces = false
variable (p : Program) (l : Launch) (e : Env) (R : Room) (s : State) (m : MethodId) (args : Array Value) (below : List Frame) (meth : Method) (c : Code)
/-- from this place with these locals, stack and heap the machine comes to Q -/
def x_At (M : xM) (h0 : xH) (Q : State → Prop) (pc : Nat) (S : xS) : Prop :=
  ∀ (H : Heap) (locs : List Loc) (fl : Array Slot), x_Rep n0 oa D S.2.2 H → x_le h0 S.2.2 → x_Loc (x_cv n0 oa S.2.2) fl M.mL S.1 → (∀ v ∈ S.1, x_lv S.2.2 v) → (∀ v ∈ S.2.1, x_lv S.2.2 v) →
    va_S (fun q => n0 ≤ q) s.heap H locs → x_ce S.2.2 ≤ M.mc → x_so S.2.2 ≤ M.ms → W p l e R s m args below meth c H locs (x_ce S.2.2) (x_so S.2.2) Q (F0 m pc fl (S.2.1.map (x_cv n0 oa S.2.2)))
/-- what a body owes at its end -/
def x_MQ (M : xM) (h0 : xH) (Z : xO → xH → Prop) : State → Prop := vx_MQ below (x_Qc n0 oa D h0 Z) (x_XC n0 oa D h0 Z) args s M.mc M.ms (fun q => n0 ≤ q)
end XC
/-- a sound instruction: at pc, the next one at nx -/
def x_Snd (xm : Nat → xM) (M : xM) (pc nx : Nat) (f : xI) : Prop :=
  ∀ (n0 : Nat) (oa : Nat → Nat → Nat) (D : (Nat → ClassId) × (Nat → Nat → Nat) × (Nat → ClassId)) (p : Program) (l : Launch) (e : Env) (R : Room) (s : State) (m : MethodId) (args : Array Value) (below : List Frame) (meth : Method) (c : Code) (Γ : xG) (Z : xO → xH → Prop) (J : Nat → xS → Prop) (q : xS → Prop) (h0 : xH) (S : xS),
    x_Cx n0 oa D M h0 p l R s m args meth c → (∀ μ a h Z', Γ μ a h Z' → x_Con n0 oa D (xm μ) a h Z') → f Γ Z J q S →
    (∀ S', q S' → x_At n0 oa D p l e R s m args below meth c M h0 (x_MQ n0 oa D s args below M h0 Z) nx S') → (∀ pc' S', J pc' S' → x_At n0 oa D p l e R s m args below meth c M h0 (x_MQ n0 oa D s args below M h0 Z) pc' S') →
    x_At n0 oa D p l e R s m args below meth c M h0 (x_MQ n0 oa D s args below M h0 Z) pc S
end
section
/-! SOUND INSTRUCTIONS, one by one: those that leave the heap -/
section XS1
variable {xm : Nat → xM} {M : xM} {pc : Nat}
theorem x_lvs_cons {h : xH} {v : xV} {l : List xV} (hv : x_lv h v) (hl : ∀ w ∈ l, x_lv h w) : ∀ w ∈ v :: l, x_lv h w := fun w hw => (List.mem_cons.mp hw).elim (fun e => e ▸ hv) (hl w)
theorem x_lvs_set {h : xH} {v : xV} {l : List xV} {a : Nat} (hv : x_lv h v) (hl : ∀ w ∈ l, x_lv h w) : ∀ w ∈ l.set a v, x_lv h w := fun w hw => (List.mem_or_eq_of_mem_set hw).elim (hl w) (fun e => e ▸ hv)
theorem snd_iload {a : Nat} (hd : decode M.cd pc = .ok (.iload a, 2)) : x_Snd xm M pc (pc + 2) (x_iload a) := by
  rintro n0 oa D p l e R s m args below meth c Γ Z J q h0 ⟨ls, st, h⟩ C - hf hq - H locs fl hR hle hL h1 h2 hS hc hs
  obtain ⟨hx, hb, -⟩ := C
  unfold x_iload at hf
  dsimp only at hf hL h1 h2 ⊢
  split at hf
  · rename_i n hn
    exact lv_iload hx hb hd (hL.at hn rfl) (hq _ hf H locs fl hR hle hL h1 (x_lvs_cons trivial h2) hS hc hs)
  · exact hf.elim
theorem snd_iload_n {k : Fin 4} {a : Nat} (ha : (k : Nat) = a) (hd : decode M.cd pc = .ok (.iload_n k, 1)) : x_Snd xm M pc (pc + 1) (x_iload a) := by
  rintro n0 oa D p l e R s m args below meth c Γ Z J q h0 ⟨ls, st, h⟩ C - hf hq - H locs fl hR hle hL h1 h2 hS hc hs
  obtain ⟨hx, hb, -⟩ := C
  unfold x_iload at hf
  dsimp only at hf hL h1 h2 ⊢
  split at hf
  · rename_i n hn
    exact lv_iload_n hx hb hd ha (hL.at hn rfl) (hq _ hf H locs fl hR hle hL h1 (x_lvs_cons trivial h2) hS hc hs)
  · exact hf.elim
theorem x_aload0 {n0 : Nat} {oa : Nat → Nat → Nat} {h : xH} {t j : Nat} {P : Value → Prop} (hr : ∀ a, x_cr n0 oa h t j = .ref a → P (.ref a)) (hn : x_cr n0 oa h t j = .null → P .null) : P (x_cr n0 oa h t j) := by
  rcases x_cr_or n0 oa h t j with e | ⟨a, e⟩
  · rw [e]; exact hn e
  · rw [e]; exact hr a e
theorem snd_aload {a : Nat} (hd : decode M.cd pc = .ok (.aload a, 2)) : x_Snd xm M pc (pc + 2) (x_aload a) := by
  rintro n0 oa D p l e R s m args below meth c Γ Z J q h0 ⟨ls, st, h⟩ C - hf hq - H locs fl hR hle hL h1 h2 hS hc hs
  obtain ⟨hx, hb, -⟩ := C
  unfold x_aload at hf
  dsimp only at hf hL h1 h2 ⊢
  split at hf
  · rename_i t j hn
    have hat := hL.at hn (by show (!(t == 0)) = true; simp [hf.1])
    have hk := hq _ hf.2 H locs fl hR hle hL h1 (x_lvs_cons (h1 _ (List.mem_of_getElem? hn)) h2) hS hc hs
    rcases x_cr_or n0 oa h t j with e1 | ⟨b, e1⟩ <;> (have e2 : x_cv n0 oa h (.inr (.inr (t, j))) = _ := e1; rw [List.map_cons, e2] at hk; rw [e2] at hat)
    · exact lv_aloadN hx hb hd hat hk
    · exact lv_aload hx hb hd hat hk
  · exact hf.elim
theorem snd_aload_n {k : Fin 4} {a : Nat} (ha : (k : Nat) = a) (hd : decode M.cd pc = .ok (.aload_n k, 1)) : x_Snd xm M pc (pc + 1) (x_aload a) := by
  rintro n0 oa D p l e R s m args below meth c Γ Z J q h0 ⟨ls, st, h⟩ C - hf hq - H locs fl hR hle hL h1 h2 hS hc hs
  obtain ⟨hx, hb, -⟩ := C
  unfold x_aload at hf
  dsimp only at hf hL h1 h2 ⊢
  split at hf
  · rename_i t j hn
    have hat := hL.at hn (by show (!(t == 0)) = true; simp [hf.1])
    have hk := hq _ hf.2 H locs fl hR hle hL h1 (x_lvs_cons (h1 _ (List.mem_of_getElem? hn)) h2) hS hc hs
    rcases x_cr_or n0 oa h t j with e1 | ⟨b, e1⟩ <;> (have e2 : x_cv n0 oa h (.inr (.inr (t, j))) = _ := e1; rw [List.map_cons, e2] at hk; rw [e2] at hat)
    · exact lv_aload_nN hx hb hd ha hat hk
    · exact lv_aload_n hx hb hd ha hat hk
  · exact hf.elim
theorem snd_istore {a : Nat} (hd : decode M.cd pc = .ok (.istore a, 2)) : x_Snd xm M pc (pc + 2) (x_istore a) := by
  rintro n0 oa D p l e R s m args below meth c Γ Z J q h0 ⟨ls, st, h⟩ C - hf hq - H locs fl hR hle hL h1 h2 hS hc hs
  obtain ⟨hx, hb, -⟩ := C
  unfold x_istore at hf
  dsimp only at hf hL h1 h2 ⊢
  split at hf
  · rename_i n st
    refine lv_istore hx hb hd hL.2 (by rw [← hL.1]; exact hf.1) rfl fun fl' hl' => ?_
    exact hq _ hf.2 H locs fl' hR hle (hL.set (v := .inl n) hf.1 hl') (x_lvs_set trivial h1) (fun w hw => h2 w (List.mem_cons_of_mem _ hw)) hS hc hs
  · exact hf.elim
theorem snd_istore_n {k : Fin 4} {a : Nat} (ha : (k : Nat) = a) (hd : decode M.cd pc = .ok (.istore_n k, 1)) : x_Snd xm M pc (pc + 1) (x_istore a) := by
  rintro n0 oa D p l e R s m args below meth c Γ Z J q h0 ⟨ls, st, h⟩ C - hf hq - H locs fl hR hle hL h1 h2 hS hc hs
  obtain ⟨hx, hb, -⟩ := C
  unfold x_istore at hf
  dsimp only at hf hL h1 h2 ⊢
  split at hf
  · rename_i n st
    refine lv_istore_n hx hb hd ha hL.2 (by rw [← hL.1]; exact hf.1) rfl fun fl' hl' => ?_
    exact hq _ hf.2 H locs fl' hR hle (hL.set (v := .inl n) hf.1 hl') (x_lvs_set trivial h1) (fun w hw => h2 w (List.mem_cons_of_mem _ hw)) hS hc hs
  · exact hf.elim
theorem snd_astore {a : Nat} (hd : decode M.cd pc = .ok (.astore a, 2)) : x_Snd xm M pc (pc + 2) (x_astore a) := by
  rintro n0 oa D p l e R s m args below meth c Γ Z J q h0 ⟨ls, st, h⟩ C - hf hq - H locs fl hR hle hL h1 h2 hS hc hs
  obtain ⟨hx, hb, -⟩ := C
  unfold x_astore at hf
  dsimp only at hf hL h1 h2 ⊢
  split at hf
  · rename_i r st
    rcases x_cr_or n0 oa h r.1 r.2 with e1 | ⟨b, e1⟩ <;> (have e2 : x_cv n0 oa h (.inr (.inr r)) = _ := e1; rw [List.map_cons, e2])
    · exact lv_astoreN hx hb hd hL.2 (by rw [← hL.1]; exact hf.1) rfl fun fl' hl' => hq _ hf.2 H locs fl' hR hle (hL.set (v := .inr (.inr r)) hf.1 (by rw [e2]; exact hl')) (x_lvs_set (h2 _ List.mem_cons_self) h1) (fun w hw => h2 w (List.mem_cons_of_mem _ hw)) hS hc hs
    · exact lv_astore hx hb hd hL.2 (by rw [← hL.1]; exact hf.1) rfl fun fl' hl' => hq _ hf.2 H locs fl' hR hle (hL.set (v := .inr (.inr r)) hf.1 (by rw [e2]; exact hl')) (x_lvs_set (h2 _ List.mem_cons_self) h1) (fun w hw => h2 w (List.mem_cons_of_mem _ hw)) hS hc hs
  · exact hf.elim
theorem snd_astore_n {k : Fin 4} {a : Nat} (ha : (k : Nat) = a) (hd : decode M.cd pc = .ok (.astore_n k, 1)) : x_Snd xm M pc (pc + 1) (x_astore a) := by
  rintro n0 oa D p l e R s m args below meth c Γ Z J q h0 ⟨ls, st, h⟩ C - hf hq - H locs fl hR hle hL h1 h2 hS hc hs
  obtain ⟨hx, hb, -⟩ := C
  unfold x_astore at hf
  dsimp only at hf hL h1 h2 ⊢
  split at hf
  · rename_i r st
    rcases x_cr_or n0 oa h r.1 r.2 with e1 | ⟨b, e1⟩ <;> (have e2 : x_cv n0 oa h (.inr (.inr r)) = _ := e1; rw [List.map_cons, e2])
    · exact lv_astore_nN hx hb hd ha hL.2 (by rw [← hL.1]; exact hf.1) rfl fun fl' hl' => hq _ hf.2 H locs fl' hR hle (hL.set (v := .inr (.inr r)) hf.1 (by rw [e2]; exact hl')) (x_lvs_set (h2 _ List.mem_cons_self) h1) (fun w hw => h2 w (List.mem_cons_of_mem _ hw)) hS hc hs
    · exact lv_astore_n hx hb hd ha hL.2 (by rw [← hL.1]; exact hf.1) rfl fun fl' hl' => hq _ hf.2 H locs fl' hR hle (hL.set (v := .inr (.inr r)) hf.1 (by rw [e2]; exact hl')) (x_lvs_set (h2 _ List.mem_cons_self) h1) (fun w hw => h2 w (List.mem_cons_of_mem _ hw)) hS hc hs
  · exact hf.elim
theorem snd_iinc {a : Nat} {n : Int} {v : Int32} (hv : Int32.ofInt n = v) (hd : decode M.cd pc = .ok (.iinc a n, 3)) : x_Snd xm M pc (pc + 3) (x_iinc a v) := by
  rintro n0 oa D p l e R s m args below meth c Γ Z J q h0 ⟨ls, st, h⟩ C - hf hq - H locs fl hR hle hL h1 h2 hS hc hs
  obtain ⟨hx, hb, -⟩ := C
  unfold x_iinc at hf
  dsimp only at hf hL h1 h2 ⊢
  split at hf
  · rename_i x hn
    have hmem : (a, Value.int x) ∈ x_prs (x_cv n0 oa h) ls := x_prs_mem.mpr ⟨_, hn, rfl, rfl⟩
    obtain ⟨k, hk⟩ := List.mem_iff_getElem?.mp hmem
    have hlt : a < ls.length := (List.getElem?_eq_some_iff.mp hn).1
    refine lv_iinc hx hb hd hL.2 hk (v := x + v) (by rw [hv]) (by rw [← hL.1]; exact hlt) rfl fun fl' hl' => ?_
    exact hq _ hf H locs fl' hR hle (hL.set (v := .inl (x + v)) hlt hl') (x_lvs_set trivial h1) h2 hS hc hs
  · exact hf.elim
theorem snd_iconst {n : Int} {v : Int32} (hv : Int32.ofInt n = v) (hd : decode M.cd pc = .ok (.iconst n, 1)) : x_Snd xm M pc (pc + 1) (x_iconst v) := by
  rintro n0 oa D p l e R s m args below meth c Γ Z J q h0 ⟨ls, st, h⟩ C - hf hq - H locs fl hR hle hL h1 h2 hS hc hs
  obtain ⟨hx, hb, -⟩ := C
  exact lv_iconst hx hb hd hv (hq _ hf H locs fl hR hle hL h1 (x_lvs_cons trivial h2) hS hc hs)
theorem snd_bipush {n : Int} {v : Int32} (hv : (Int8.ofInt n).toInt32 = v) (hd : decode M.cd pc = .ok (.bipush n, 2)) : x_Snd xm M pc (pc + 2) (x_iconst v) := by
  rintro n0 oa D p l e R s m args below meth c Γ Z J q h0 ⟨ls, st, h⟩ C - hf hq - H locs fl hR hle hL h1 h2 hS hc hs
  obtain ⟨hx, hb, -⟩ := C
  exact lv_bipush hx hb hd hv (hq _ hf H locs fl hR hle hL h1 (x_lvs_cons trivial h2) hS hc hs)
theorem snd_sipush {n : Int} {v : Int32} (hv : (Int16.ofInt n).toInt32 = v) (hd : decode M.cd pc = .ok (.sipush n, 3)) : x_Snd xm M pc (pc + 3) (x_iconst v) := by
  rintro n0 oa D p l e R s m args below meth c Γ Z J q h0 ⟨ls, st, h⟩ C - hf hq - H locs fl hR hle hL h1 h2 hS hc hs
  obtain ⟨hx, hb, -⟩ := C
  exact lv_sipush hx hb hd hv (hq _ hf H locs fl hR hle hL h1 (x_lvs_cons trivial h2) hS hc hs)
theorem snd_null {t : Nat} (hd : decode M.cd pc = .ok (.aconst_null, 1)) : x_Snd xm M pc (pc + 1) (x_null t) := by
  rintro n0 oa D p l e R s m args below meth c Γ Z J q h0 ⟨ls, st, h⟩ C - hf hq - H locs fl hR hle hL h1 h2 hS hc hs
  obtain ⟨hx, hb, -⟩ := C
  exact lv_null hx hb hd (hq _ hf H locs fl hR hle hL h1 (x_lvs_cons (Nat.zero_le _) h2) hS hc hs)
-- arithmetic
theorem x_tl {h : xH} {v : xV} {l : List xV} (hl : ∀ w ∈ v :: l, x_lv h w) : ∀ w ∈ l, x_lv h w := fun w hw => hl w (List.mem_cons_of_mem _ hw)
theorem snd_iadd (hd : decode M.cd pc = .ok (.iadd, 1)) : x_Snd xm M pc (pc + 1) (x_bin (fun x y => x + y)) := by
  rintro n0 oa D p l e R s m args below meth c Γ Z J q h0 ⟨ls, st, h⟩ C - hf hq - H locs fl hR hle hL h1 h2 hS hc hs
  obtain ⟨hx, hb, -⟩ := C
  unfold x_bin at hf
  dsimp only at hf hL h1 h2 ⊢
  split at hf
  · exact lv_iadd hx hb hd (hq _ hf H locs fl hR hle hL h1 (x_lvs_cons trivial (x_tl (x_tl h2))) hS hc hs)
  · exact hf.elim
theorem snd_isub (hd : decode M.cd pc = .ok (.isub, 1)) : x_Snd xm M pc (pc + 1) (x_bin (fun x y => x - y)) := by
  rintro n0 oa D p l e R s m args below meth c Γ Z J q h0 ⟨ls, st, h⟩ C - hf hq - H locs fl hR hle hL h1 h2 hS hc hs
  obtain ⟨hx, hb, -⟩ := C
  unfold x_bin at hf
  dsimp only at hf hL h1 h2 ⊢
  split at hf
  · exact lv_isub hx hb hd (hq _ hf H locs fl hR hle hL h1 (x_lvs_cons trivial (x_tl (x_tl h2))) hS hc hs)
  · exact hf.elim
theorem snd_imul (hd : decode M.cd pc = .ok (.imul, 1)) : x_Snd xm M pc (pc + 1) (x_bin (fun x y => x * y)) := by
  rintro n0 oa D p l e R s m args below meth c Γ Z J q h0 ⟨ls, st, h⟩ C - hf hq - H locs fl hR hle hL h1 h2 hS hc hs
  obtain ⟨hx, hb, -⟩ := C
  unfold x_bin at hf
  dsimp only at hf hL h1 h2 ⊢
  split at hf
  · exact lv_imul hx hb hd (hq _ hf H locs fl hR hle hL h1 (x_lvs_cons trivial (x_tl (x_tl h2))) hS hc hs)
  · exact hf.elim
theorem snd_iand (hd : decode M.cd pc = .ok (.iand, 1)) : x_Snd xm M pc (pc + 1) (x_bin (fun x y => x &&& y)) := by
  rintro n0 oa D p l e R s m args below meth c Γ Z J q h0 ⟨ls, st, h⟩ C - hf hq - H locs fl hR hle hL h1 h2 hS hc hs
  obtain ⟨hx, hb, -⟩ := C
  unfold x_bin at hf
  dsimp only at hf hL h1 h2 ⊢
  split at hf
  · exact lv_iand hx hb hd (hq _ hf H locs fl hR hle hL h1 (x_lvs_cons trivial (x_tl (x_tl h2))) hS hc hs)
  · exact hf.elim
theorem snd_ior (hd : decode M.cd pc = .ok (.ior, 1)) : x_Snd xm M pc (pc + 1) (x_bin (fun x y => x ||| y)) := by
  rintro n0 oa D p l e R s m args below meth c Γ Z J q h0 ⟨ls, st, h⟩ C - hf hq - H locs fl hR hle hL h1 h2 hS hc hs
  obtain ⟨hx, hb, -⟩ := C
  unfold x_bin at hf
  dsimp only at hf hL h1 h2 ⊢
  split at hf
  · exact lv_ior hx hb hd (hq _ hf H locs fl hR hle hL h1 (x_lvs_cons trivial (x_tl (x_tl h2))) hS hc hs)
  · exact hf.elim
theorem snd_ishl (hd : decode M.cd pc = .ok (.ishl, 1)) : x_Snd xm M pc (pc + 1) (x_bin (fun x y => x <<< (y &&& 31))) := by
  rintro n0 oa D p l e R s m args below meth c Γ Z J q h0 ⟨ls, st, h⟩ C - hf hq - H locs fl hR hle hL h1 h2 hS hc hs
  obtain ⟨hx, hb, -⟩ := C
  unfold x_bin at hf
  dsimp only at hf hL h1 h2 ⊢
  split at hf
  · exact lv_ishl hx hb hd (hq _ hf H locs fl hR hle hL h1 (x_lvs_cons trivial (x_tl (x_tl h2))) hS hc hs)
  · exact hf.elim
theorem snd_ishr (hd : decode M.cd pc = .ok (.ishr, 1)) : x_Snd xm M pc (pc + 1) (x_bin (fun x y => x >>> (y &&& 31))) := by
  rintro n0 oa D p l e R s m args below meth c Γ Z J q h0 ⟨ls, st, h⟩ C - hf hq - H locs fl hR hle hL h1 h2 hS hc hs
  obtain ⟨hx, hb, -⟩ := C
  unfold x_bin at hf
  dsimp only at hf hL h1 h2 ⊢
  split at hf
  · exact lv_ishr hx hb hd (hq _ hf H locs fl hR hle hL h1 (x_lvs_cons trivial (x_tl (x_tl h2))) hS hc hs)
  · exact hf.elim
theorem snd_idiv (hd : decode M.cd pc = .ok (.idiv, 1)) : x_Snd xm M pc (pc + 1) x_idiv := by
  rintro n0 oa D p l e R s m args below meth c Γ Z J q h0 ⟨ls, st, h⟩ C - hf hq - H locs fl hR hle hL h1 h2 hS hc hs
  obtain ⟨hx, hb, -⟩ := C
  unfold x_idiv at hf
  dsimp only at hf hL h1 h2 ⊢
  split at hf
  · exact lv_idiv hx hb hd hf.1 (hq _ hf.2 H locs fl hR hle hL h1 (x_lvs_cons trivial (x_tl (x_tl h2))) hS hc hs)
  · exact hf.elim
theorem snd_irem (hd : decode M.cd pc = .ok (.irem, 1)) : x_Snd xm M pc (pc + 1) x_irem := by
  rintro n0 oa D p l e R s m args below meth c Γ Z J q h0 ⟨ls, st, h⟩ C - hf hq - H locs fl hR hle hL h1 h2 hS hc hs
  obtain ⟨hx, hb, -⟩ := C
  unfold x_irem at hf
  dsimp only at hf hL h1 h2 ⊢
  split at hf
  · exact lv_irem hx hb hd hf.1 (hq _ hf.2 H locs fl hR hle hL h1 (x_lvs_cons trivial (x_tl (x_tl h2))) hS hc hs)
  · exact hf.elim
theorem snd_dup (hd : decode M.cd pc = .ok (.dup, 1)) : x_Snd xm M pc (pc + 1) x_dup := by
  rintro n0 oa D p l e R s m args below meth c Γ Z J q h0 ⟨ls, st, h⟩ C - hf hq - H locs fl hR hle hL h1 h2 hS hc hs
  obtain ⟨hx, hb, -⟩ := C
  unfold x_dup at hf
  dsimp only at hf hL h1 h2 ⊢
  split at hf
  · exact lv_dup hx hb hd (by rw [x_cv_cat]; exact hf.1) (hq _ hf.2 H locs fl hR hle hL h1 (x_lvs_cons (h2 _ List.mem_cons_self) h2) hS hc hs)
  · exact hf.elim
theorem snd_dup2 (hd : decode M.cd pc = .ok (.dup2, 1)) : x_Snd xm M pc (pc + 1) x_dup2 := by
  rintro n0 oa D p l e R s m args below meth c Γ Z J q h0 ⟨ls, st, h⟩ C - hf hq - H locs fl hR hle hL h1 h2 hS hc hs
  obtain ⟨hx, hb, -⟩ := C
  unfold x_dup2 at hf
  dsimp only at hf hL h1 h2 ⊢
  split at hf
  · exact lv_dup2_11 hx hb hd (by rw [x_cv_cat]; exact hf.1) (by rw [x_cv_cat]; exact hf.2.1) (hq _ hf.2.2 H locs fl hR hle hL h1 (x_lvs_cons (h2 _ List.mem_cons_self) (x_lvs_cons (x_tl h2 _ List.mem_cons_self) h2)) hS hc hs)
  · exact hf.elim
theorem snd_pop (hd : decode M.cd pc = .ok (.pop, 1)) : x_Snd xm M pc (pc + 1) x_pop := by
  rintro n0 oa D p l e R s m args below meth c Γ Z J q h0 ⟨ls, st, h⟩ C - hf hq - H locs fl hR hle hL h1 h2 hS hc hs
  obtain ⟨hx, hb, -⟩ := C
  unfold x_pop at hf
  dsimp only at hf hL h1 h2 ⊢
  split at hf
  · exact lv_pop hx hb hd (by rw [x_cv_cat]; exact hf.1) (hq _ hf.2 H locs fl hR hle hL h1 (x_tl h2) hS hc hs)
  · exact hf.elim
theorem snd_goto {off : Int} {a : Nat} (ht : (pc : Int) + off = (a : Int)) (hd : decode M.cd pc = .ok (.goto off, 3)) : x_Snd xm M pc (pc + 3) (x_goto a) := by
  rintro n0 oa D p l e R s m args below meth c Γ Z J q h0 ⟨ls, st, h⟩ C - hf - hJ H locs fl hR hle hL h1 h2 hS hc hs
  obtain ⟨hx, hb, -⟩ := C
  exact lv_goto hx hb hd ht (hJ _ _ hf H locs fl hR hle hL h1 h2 hS hc hs)
/-- no instruction: to the block that begins here -/
theorem snd_to {nx : Nat} : x_Snd xm M pc nx (x_goto pc) := by
  rintro n0 oa D p l e R s m args below meth c Γ Z J q h0 S C - hf - hJ
  exact hJ _ _ hf
theorem snd_if_eq {off : Int} {a : Nat} (ht : (pc : Int) + off = (a : Int)) (hd : decode M.cd pc = .ok (.ifCond .eq off, 3)) : x_Snd xm M pc (pc + 3) (x_if (fun x => x = 0) a) := by
  rintro n0 oa D p l e R s m args below meth c Γ Z J q h0 ⟨ls, st, h⟩ C - hf hq hJ H locs fl hR hle hL h1 h2 hS hc hs
  obtain ⟨hx, hb, -⟩ := C
  unfold x_if at hf
  dsimp only at hf hL h1 h2 ⊢
  split at hf
  · exact lv_if_eq hx hb hd ht (fun k => hJ _ _ (hf.1 k) H locs fl hR hle hL h1 (x_tl h2) hS hc hs) (fun k => hq _ (hf.2 k) H locs fl hR hle hL h1 (x_tl h2) hS hc hs)
  · exact hf.elim
theorem snd_icmp_eq {off : Int} {a : Nat} (ht : (pc : Int) + off = (a : Int)) (hd : decode M.cd pc = .ok (.if_icmp .eq off, 3)) : x_Snd xm M pc (pc + 3) (x_icmp (fun x y => x = y) a) := by
  rintro n0 oa D p l e R s m args below meth c Γ Z J q h0 ⟨ls, st, h⟩ C - hf hq hJ H locs fl hR hle hL h1 h2 hS hc hs
  obtain ⟨hx, hb, -⟩ := C
  unfold x_icmp at hf
  dsimp only at hf hL h1 h2 ⊢
  split at hf
  · exact lv_icmp_eq hx hb hd ht (fun k => hJ _ _ (hf.1 k) H locs fl hR hle hL h1 (x_tl (x_tl h2)) hS hc hs) (fun k => hq _ (hf.2 k) H locs fl hR hle hL h1 (x_tl (x_tl h2)) hS hc hs)
  · exact hf.elim
theorem snd_if_ne {off : Int} {a : Nat} (ht : (pc : Int) + off = (a : Int)) (hd : decode M.cd pc = .ok (.ifCond .ne off, 3)) : x_Snd xm M pc (pc + 3) (x_if (fun x => ¬ x = 0) a) := by
  rintro n0 oa D p l e R s m args below meth c Γ Z J q h0 ⟨ls, st, h⟩ C - hf hq hJ H locs fl hR hle hL h1 h2 hS hc hs
  obtain ⟨hx, hb, -⟩ := C
  unfold x_if at hf
  dsimp only at hf hL h1 h2 ⊢
  split at hf
  · exact lv_if_ne hx hb hd ht (fun k => hJ _ _ (hf.1 k) H locs fl hR hle hL h1 (x_tl h2) hS hc hs) (fun k => hq _ (hf.2 (fun g => g k)) H locs fl hR hle hL h1 (x_tl h2) hS hc hs)
  · exact hf.elim
theorem snd_icmp_ne {off : Int} {a : Nat} (ht : (pc : Int) + off = (a : Int)) (hd : decode M.cd pc = .ok (.if_icmp .ne off, 3)) : x_Snd xm M pc (pc + 3) (x_icmp (fun x y => ¬ x = y) a) := by
  rintro n0 oa D p l e R s m args below meth c Γ Z J q h0 ⟨ls, st, h⟩ C - hf hq hJ H locs fl hR hle hL h1 h2 hS hc hs
  obtain ⟨hx, hb, -⟩ := C
  unfold x_icmp at hf
  dsimp only at hf hL h1 h2 ⊢
  split at hf
  · exact lv_icmp_ne hx hb hd ht (fun k => hJ _ _ (hf.1 k) H locs fl hR hle hL h1 (x_tl (x_tl h2)) hS hc hs) (fun k => hq _ (hf.2 (fun g => g k)) H locs fl hR hle hL h1 (x_tl (x_tl h2)) hS hc hs)
  · exact hf.elim
theorem snd_if_lt {off : Int} {a : Nat} (ht : (pc : Int) + off = (a : Int)) (hd : decode M.cd pc = .ok (.ifCond .lt off, 3)) : x_Snd xm M pc (pc + 3) (x_if (fun x => x < 0) a) := by
  rintro n0 oa D p l e R s m args below meth c Γ Z J q h0 ⟨ls, st, h⟩ C - hf hq hJ H locs fl hR hle hL h1 h2 hS hc hs
  obtain ⟨hx, hb, -⟩ := C
  unfold x_if at hf
  dsimp only at hf hL h1 h2 ⊢
  split at hf
  · exact lv_if_lt hx hb hd ht (fun k => hJ _ _ (hf.1 k) H locs fl hR hle hL h1 (x_tl h2) hS hc hs) (fun k => hq _ (hf.2 k) H locs fl hR hle hL h1 (x_tl h2) hS hc hs)
  · exact hf.elim
theorem snd_icmp_lt {off : Int} {a : Nat} (ht : (pc : Int) + off = (a : Int)) (hd : decode M.cd pc = .ok (.if_icmp .lt off, 3)) : x_Snd xm M pc (pc + 3) (x_icmp (fun x y => x < y) a) := by
  rintro n0 oa D p l e R s m args below meth c Γ Z J q h0 ⟨ls, st, h⟩ C - hf hq hJ H locs fl hR hle hL h1 h2 hS hc hs
  obtain ⟨hx, hb, -⟩ := C
  unfold x_icmp at hf
  dsimp only at hf hL h1 h2 ⊢
  split at hf
  · exact lv_icmp_lt hx hb hd ht (fun k => hJ _ _ (hf.1 k) H locs fl hR hle hL h1 (x_tl (x_tl h2)) hS hc hs) (fun k => hq _ (hf.2 k) H locs fl hR hle hL h1 (x_tl (x_tl h2)) hS hc hs)
  · exact hf.elim
theorem snd_if_ge {off : Int} {a : Nat} (ht : (pc : Int) + off = (a : Int)) (hd : decode M.cd pc = .ok (.ifCond .ge off, 3)) : x_Snd xm M pc (pc + 3) (x_if (fun x => 0 ≤ x) a) := by
  rintro n0 oa D p l e R s m args below meth c Γ Z J q h0 ⟨ls, st, h⟩ C - hf hq hJ H locs fl hR hle hL h1 h2 hS hc hs
  obtain ⟨hx, hb, -⟩ := C
  unfold x_if at hf
  dsimp only at hf hL h1 h2 ⊢
  split at hf
  · exact lv_if_ge hx hb hd ht (fun k => hJ _ _ (hf.1 k) H locs fl hR hle hL h1 (x_tl h2) hS hc hs) (fun k => hq _ (hf.2 k) H locs fl hR hle hL h1 (x_tl h2) hS hc hs)
  · exact hf.elim
theorem snd_icmp_ge {off : Int} {a : Nat} (ht : (pc : Int) + off = (a : Int)) (hd : decode M.cd pc = .ok (.if_icmp .ge off, 3)) : x_Snd xm M pc (pc + 3) (x_icmp (fun x y => y ≤ x) a) := by
  rintro n0 oa D p l e R s m args below meth c Γ Z J q h0 ⟨ls, st, h⟩ C - hf hq hJ H locs fl hR hle hL h1 h2 hS hc hs
  obtain ⟨hx, hb, -⟩ := C
  unfold x_icmp at hf
  dsimp only at hf hL h1 h2 ⊢
  split at hf
  · exact lv_icmp_ge hx hb hd ht (fun k => hJ _ _ (hf.1 k) H locs fl hR hle hL h1 (x_tl (x_tl h2)) hS hc hs) (fun k => hq _ (hf.2 k) H locs fl hR hle hL h1 (x_tl (x_tl h2)) hS hc hs)
  · exact hf.elim
theorem snd_if_gt {off : Int} {a : Nat} (ht : (pc : Int) + off = (a : Int)) (hd : decode M.cd pc = .ok (.ifCond .gt off, 3)) : x_Snd xm M pc (pc + 3) (x_if (fun x => 0 < x) a) := by
  rintro n0 oa D p l e R s m args below meth c Γ Z J q h0 ⟨ls, st, h⟩ C - hf hq hJ H locs fl hR hle hL h1 h2 hS hc hs
  obtain ⟨hx, hb, -⟩ := C
  unfold x_if at hf
  dsimp only at hf hL h1 h2 ⊢
  split at hf
  · exact lv_if_gt hx hb hd ht (fun k => hJ _ _ (hf.1 k) H locs fl hR hle hL h1 (x_tl h2) hS hc hs) (fun k => hq _ (hf.2 k) H locs fl hR hle hL h1 (x_tl h2) hS hc hs)
  · exact hf.elim
theorem snd_icmp_gt {off : Int} {a : Nat} (ht : (pc : Int) + off = (a : Int)) (hd : decode M.cd pc = .ok (.if_icmp .gt off, 3)) : x_Snd xm M pc (pc + 3) (x_icmp (fun x y => y < x) a) := by
  rintro n0 oa D p l e R s m args below meth c Γ Z J q h0 ⟨ls, st, h⟩ C - hf hq hJ H locs fl hR hle hL h1 h2 hS hc hs
  obtain ⟨hx, hb, -⟩ := C
  unfold x_icmp at hf
  dsimp only at hf hL h1 h2 ⊢
  split at hf
  · exact lv_icmp_gt hx hb hd ht (fun k => hJ _ _ (hf.1 k) H locs fl hR hle hL h1 (x_tl (x_tl h2)) hS hc hs) (fun k => hq _ (hf.2 k) H locs fl hR hle hL h1 (x_tl (x_tl h2)) hS hc hs)
  · exact hf.elim
theorem snd_if_le {off : Int} {a : Nat} (ht : (pc : Int) + off = (a : Int)) (hd : decode M.cd pc = .ok (.ifCond .le off, 3)) : x_Snd xm M pc (pc + 3) (x_if (fun x => x ≤ 0) a) := by
  rintro n0 oa D p l e R s m args below meth c Γ Z J q h0 ⟨ls, st, h⟩ C - hf hq hJ H locs fl hR hle hL h1 h2 hS hc hs
  obtain ⟨hx, hb, -⟩ := C
  unfold x_if at hf
  dsimp only at hf hL h1 h2 ⊢
  split at hf
  · exact lv_if_le hx hb hd ht (fun k => hJ _ _ (hf.1 k) H locs fl hR hle hL h1 (x_tl h2) hS hc hs) (fun k => hq _ (hf.2 k) H locs fl hR hle hL h1 (x_tl h2) hS hc hs)
  · exact hf.elim
theorem snd_icmp_le {off : Int} {a : Nat} (ht : (pc : Int) + off = (a : Int)) (hd : decode M.cd pc = .ok (.if_icmp .le off, 3)) : x_Snd xm M pc (pc + 3) (x_icmp (fun x y => x ≤ y) a) := by
  rintro n0 oa D p l e R s m args below meth c Γ Z J q h0 ⟨ls, st, h⟩ C - hf hq hJ H locs fl hR hle hL h1 h2 hS hc hs
  obtain ⟨hx, hb, -⟩ := C
  unfold x_icmp at hf
  dsimp only at hf hL h1 h2 ⊢
  split at hf
  · exact lv_icmp_le hx hb hd ht (fun k => hJ _ _ (hf.1 k) H locs fl hR hle hL h1 (x_tl (x_tl h2)) hS hc hs) (fun k => hq _ (hf.2 k) H locs fl hR hle hL h1 (x_tl (x_tl h2)) hS hc hs)
  · exact hf.elim
theorem snd_ifnull {off : Int} {a : Nat} (ht : (pc : Int) + off = (a : Int)) (hd : decode M.cd pc = .ok (.ifnull off, 3)) : x_Snd xm M pc (pc + 3) (x_ifnull a) := by
  rintro n0 oa D p l e R s m args below meth c Γ Z J q h0 ⟨ls, st, h⟩ C - hf hq hJ H locs fl hR hle hL h1 h2 hS hc hs
  obtain ⟨hx, hb, -⟩ := C
  unfold x_ifnull at hf
  dsimp only at hf hL h1 h2 ⊢
  split at hf
  · rename_i t j st
    rw [List.map_cons]
    by_cases hj : j = 0
    · have e2 : x_cv n0 oa h (.inr (.inr (t, j))) = .null := by show x_cr n0 oa h t j = .null; unfold x_cr; rw [if_pos hj]
      rw [e2]
      exact lv_ifnullN hx hb hd ht (hJ _ _ (hf.1 hj) H locs fl hR hle hL h1 (x_tl h2) hS hc hs)
    · have e2 : x_cv n0 oa h (.inr (.inr (t, j))) = .ref (x_addr n0 oa h t j) := by show x_cr n0 oa h t j = _; unfold x_cr; rw [if_neg hj]
      rw [e2]
      exact lv_ifnull hx hb hd (hq _ (hf.2 hj) H locs fl hR hle hL h1 (x_tl h2) hS hc hs)
  · exact hf.elim
theorem snd_ifnonnull {off : Int} {a : Nat} (ht : (pc : Int) + off = (a : Int)) (hd : decode M.cd pc = .ok (.ifnonnull off, 3)) : x_Snd xm M pc (pc + 3) (x_ifnonnull a) := by
  rintro n0 oa D p l e R s m args below meth c Γ Z J q h0 ⟨ls, st, h⟩ C - hf hq hJ H locs fl hR hle hL h1 h2 hS hc hs
  obtain ⟨hx, hb, -⟩ := C
  unfold x_ifnonnull at hf
  dsimp only at hf hL h1 h2 ⊢
  split at hf
  · rename_i t j st
    rw [List.map_cons]
    by_cases hj : j = 0
    · have e2 : x_cv n0 oa h (.inr (.inr (t, j))) = .null := by show x_cr n0 oa h t j = .null; unfold x_cr; rw [if_pos hj]
      rw [e2]
      exact lv_ifnonnullN hx hb hd (hq _ (hf.2 hj) H locs fl hR hle hL h1 (x_tl h2) hS hc hs)
    · have e2 : x_cv n0 oa h (.inr (.inr (t, j))) = .ref (x_addr n0 oa h t j) := by show x_cr n0 oa h t j = _; unfold x_cr; rw [if_neg hj]
      rw [e2]
      exact lv_ifnonnull hx hb hd ht (hJ _ _ (hf.1 hj) H locs fl hR hle hL h1 (x_tl h2) hS hc hs)
  · exact hf.elim
end XS1
end
section
/-! SOUND INSTRUCTIONS: references compared, switches, fields -/
theorem xk_cases {P : Nat → Prop} (h1 : P 1) (h2 : P 2) (h3 : P 3) (h4 : P 4) (h5 : P 5) (h6 : P 6) (h7 : P 7) (h8 : P 8) : ∀ K, xk_o K → P K := by
  intro K hK
  unfold xk_o at hK
  rcases (show K = 1 ∨ K = 2 ∨ K = 3 ∨ K = 4 ∨ K = 5 ∨ K = 6 ∨ K = 7 ∨ K = 8 by omega) with rfl | rfl | rfl | rfl | rfl | rfl | rfl | rfl <;> assumption
theorem xk_mem {ws : List Cond} (h : ws.all (fun w => decide (w ∈ lw_tbl) && goodWord w) = true) : ∀ w ∈ ws, w ∈ x_big := fun w hw => by
  have h1 := List.all_eq_true.mp h w hw
  simp only [Bool.and_eq_true, decide_eq_true_eq] at h1
  exact x_big_in h1.1 h1.2
theorem xk_in : ∀ K, xk_o K → ∀ w ∈ u_ws (xk_C K) (xk_T K) (xk_N K), w ∈ x_big := xk_cases (xk_mem (by decide +kernel)) (xk_mem (by decide +kernel)) (xk_mem (by decide +kernel)) (xk_mem (by decide +kernel)) (xk_mem (by decide +kernel)) (xk_mem (by decide +kernel)) (xk_mem (by decide +kernel)) (xk_mem (by decide +kernel))
theorem xk_tyok : ∀ K, xk_o K → ∀ k, k < xk_N K → parseFieldDescriptor (xk_T K k).2.2.1 = some (xk_ty K k) := xk_cases tyX0_ok tyX1_ok tyX2_ok tyX3_ok tyX4_ok tyX6_ok tyX7_ok tyX8_ok
theorem xk_nm : ∀ K, xk_o K → ∀ a, a < xk_N K → ∀ b, b < xk_N K → a ≠ b → (xk_T K a).2.1 ≠ (xk_T K b).2.1 := xk_cases nmX0 nmX1 nmX2 nmX3 nmX4 nmX6 nmX7 nmX8
end
section
section XS2
variable {xm : Nat → xM} {M : xM} {pc : Nat}
theorem x_cr_inj {n0 : Nat} {oa : Nat → Nat → Nat} {D : (Nat → ClassId) × (Nat → Nat → Nat) × (Nat → ClassId)} {h : xH} {H : Heap} (hR : x_Rep n0 oa D h H) (hoa : ∀ i j, 1 ≤ i → i ≤ 6 → 1 ≤ j → j ≤ 6 → oa 9 i = oa 9 j → i = j) {T i j : Nat} (hT : xk_o T ∨ T = 9) (hi : i ≤ x_cn h T) (hj : j ≤ x_cn h T) :
    ∃ a b : Option Nat, x_cr n0 oa h T i = va_rf a ∧ x_cr n0 oa h T j = va_rf b ∧ (a = b ↔ i = j) := by
  refine ⟨if i = 0 then none else some (x_addr n0 oa h T i), if j = 0 then none else some (x_addr n0 oa h T j), ?_, ?_, ?_⟩
  · unfold x_cr; by_cases e : i = 0
    · rw [if_pos e, if_pos e]; rfl
    · rw [if_neg e, if_neg e]; rfl
  · unfold x_cr; by_cases e : j = 0
    · rw [if_pos e, if_pos e]; rfl
    · rw [if_neg e, if_neg e]; rfl
  · constructor
    · intro q
      by_cases e : i = 0
      · rw [if_pos e] at q
        by_cases e' : j = 0
        · omega
        · rw [if_neg e'] at q; cases q
      · rw [if_neg e] at q
        by_cases e' : j = 0
        · rw [if_pos e'] at q; cases q
        · rw [if_neg e'] at q
          have q := Option.some.inj q
          rcases hT with hT | rfl
          · rw [x_addr_in (Or.inl hT), x_addr_in (Or.inl hT)] at q
            exact (hR.2.2.2.1 T i T j (Or.inl hT) (Or.inl hT) ⟨by omega, hi⟩ ⟨by omega, hj⟩ (by omega)).2
          · have h6 := hR.2.2.2.2.2.2
            exact hoa i j (by omega) (by omega) (by omega) (by omega) (by simpa [x_addr] using q)
    · rintro rfl; rfl
theorem snd_aeq {off : Int} {T a : Nat} (hT : xk_o T ∨ T = 9) (ht : (pc : Int) + off = (a : Int)) (hd : decode M.cd pc = .ok (.if_acmp .eq off, 3)) : x_Snd xm M pc (pc + 3) (x_aeq T a) := by
  rintro n0 oa D p l e R s m args below meth c Γ Z J q h0 ⟨ls, st, h⟩ C - hf hq hJ H locs fl hR hle hL h1 h2 hS hc hs
  obtain ⟨hx, hb, -, -, -, -, -, -, -, -, hSt, -⟩ := C
  unfold x_aeq at hf
  dsimp only at hf hL h1 h2 ⊢
  split at hf
  · rename_i t j t' j' st
    obtain ⟨rfl, rfl, k1, k2⟩ := hf
    obtain ⟨u, v, e1, e2, e3⟩ := x_cr_inj hR hSt.2.1 hT (i := j') (j := j) (x_tl h2 _ List.mem_cons_self) (h2 _ List.mem_cons_self)
    rw [List.map_cons, List.map_cons, show x_cv n0 oa h (.inr (.inr (t', j))) = va_rf v from e2, show x_cv n0 oa h (.inr (.inr (t', j'))) = va_rf u from e1]
    exact lv_acmp_eq hx hb hd ht (fun k => hJ _ _ (k1 (e3.mp k)) H locs fl hR hle hL h1 (x_tl (x_tl h2)) hS hc hs) (fun k => hq _ (k2 (fun z => k (e3.mpr z))) H locs fl hR hle hL h1 (x_tl (x_tl h2)) hS hc hs)
  · exact hf.elim
theorem snd_ane {off : Int} {T a : Nat} (hT : xk_o T ∨ T = 9) (ht : (pc : Int) + off = (a : Int)) (hd : decode M.cd pc = .ok (.if_acmp .ne off, 3)) : x_Snd xm M pc (pc + 3) (x_ane T a) := by
  rintro n0 oa D p l e R s m args below meth c Γ Z J q h0 ⟨ls, st, h⟩ C - hf hq hJ H locs fl hR hle hL h1 h2 hS hc hs
  obtain ⟨hx, hb, -, -, -, -, -, -, -, -, hSt, -⟩ := C
  unfold x_ane at hf
  dsimp only at hf hL h1 h2 ⊢
  split at hf
  · rename_i t j t' j' st
    obtain ⟨rfl, rfl, k1, k2⟩ := hf
    obtain ⟨u, v, e1, e2, e3⟩ := x_cr_inj hR hSt.2.1 hT (i := j') (j := j) (x_tl h2 _ List.mem_cons_self) (h2 _ List.mem_cons_self)
    rw [List.map_cons, List.map_cons, show x_cv n0 oa h (.inr (.inr (t', j))) = va_rf v from e2, show x_cv n0 oa h (.inr (.inr (t', j'))) = va_rf u from e1]
    exact lv_acmp_ne hx hb hd ht (fun k => hJ _ _ (k1 (fun z => k (e3.mpr z))) H locs fl hR hle hL h1 (x_tl (x_tl h2)) hS hc hs) (fun k => hq _ (k2 (e3.mp k)) H locs fl hR hle hL h1 (x_tl (x_tl h2)) hS hc hs)
  · exact hf.elim
/-- a switch: the offsets are the targets less pc -/
theorem snd_switch {lo hi dflt : Int} {offs : Array Int} {tg : List Nat} {d len : Nat} (hh : lo + tg.length = hi + 1) (ho : offs.toList = tg.map (fun a : Nat => (a : Int) - (pc : Int))) (htd : (pc : Int) + dflt = (d : Int)) (hd : decode M.cd pc = .ok (.tableswitch dflt lo hi offs, len)) : x_Snd xm M pc (pc + len) (x_switch lo tg d) := by
  rintro n0 oa D p l e R s m args below meth c Γ Z J q h0 ⟨ls, st, h⟩ C - hf - hJ H locs fl hR hle hL h1 h2 hS hc hs
  obtain ⟨hx, hb, -⟩ := C
  unfold x_switch at hf
  dsimp only at hf hL h1 h2 ⊢
  split at hf
  · rename_i x st
    by_cases k1 : x.toInt < lo
    · exact lv_tableOut hx hb hd (Or.inl k1) htd (hJ _ _ (hf.2 (Or.inl k1)) H locs fl hR hle hL h1 (x_tl h2) hS hc hs)
    · by_cases k2 : hi < x.toInt
      · exact lv_tableOut hx hb hd (Or.inr k2) htd (hJ _ _ (hf.2 (Or.inr (by omega))) H locs fl hR hle hL h1 (x_tl h2) hS hc hs)
      · obtain ⟨n, hn⟩ : ∃ n : Nat, x.toInt - lo = n := ⟨(x.toInt - lo).toNat, by omega⟩
        have hlt : n < tg.length := by omega
        have hg : offs[n]? = some ((tg[n] : Int) - pc) := by
          rw [← Array.getElem?_toList, ho, List.getElem?_map, List.getElem?_eq_getElem hlt]
          rfl
        exact lv_tableIn (off := (tg[n] : Int) - pc) (tgt := tg[n]) hx hb hd k1 k2 (by rw [hn]; exact hg) (by omega) (hJ _ _ (hf.1 n tg[n] (List.getElem?_eq_getElem hlt) (by omega)) H locs fl hR hle hL h1 (x_tl h2) hS hc hs)
  · exact hf.elim
-- fields
theorem x_get0 {n0 : Nat} {oa : Nat → Nat → Nat} {D : (Nat → ClassId) × (Nat → Nat → Nat) × (Nat → ClassId)} {p : Program} {l : Launch} {e : Env} {R : Room} {s : State} {m : MethodId} {args : Array Value} {below : List Frame} {meth : Method} {c : Code} {h0 : xH} {Q : State → Prop}
    (C : x_Cx n0 oa D M h0 p l R s m args meth c) {K k idx : Nat} (hK : xk_o K) (hk : k < xk_N K) (hw : Cond.fieldLink M.own idx (xk_T K k).1 (xk_T K k).2.1 (xk_T K k).2.2.1 ∈ x_big) (hd : decode M.cd pc = .ok (.getfield idx, 3))
    {h : xH} {H : Heap} {locs : List Loc} {cells slots : Nat} {fl : Array Slot} {st : List Value} (hR : x_Rep n0 oa D h H) {j : Nat} (hj : x_live h K j)
    (kk : W p l e R s m args below meth c H locs cells slots Q (F0 m (pc + 3) fl (x_cf n0 oa h K k j :: st))) : W p l e R s m args below meth c H locs cells slots Q (F0 m pc fl (x_cr n0 oa h K j :: st)) := by
  obtain ⟨hx, hb, -, hown, hts, -, -, -, -, hKn, -⟩ := C
  rw [x_cr_in (Or.inl hK) hj]
  obtain ⟨-, cell, q1, q2, q3, q4⟩ := hR.2.1 K j hK hj
  obtain ⟨hSl, hfc, kC, hkC, hkind⟩ := hKn.1 K hK
  obtain ⟨cf, kf, fi, f, hi, hsl⟩ := hSl k hk
  refine W.getf hx hb hown (hts _ hw) hi (u_facts hfc hkC (u_lays hts (xk_in K hK) hk) hi).1 q1 (by rw [q3]; exact fun h => by cases h) (v := x_cf n0 oa h K k j) ?_ rfl rfl hd kk
  rw [hsl, q4 k hk]
theorem snd_gfi {K k idx : Nat} (hK : xk_o K) (hk : k < xk_N K) (hft : x_ft K k = 0) (hw : Cond.fieldLink M.own idx (xk_T K k).1 (xk_T K k).2.1 (xk_T K k).2.2.1 ∈ x_big) (hd : decode M.cd pc = .ok (.getfield idx, 3)) : x_Snd xm M pc (pc + 3) (x_gfi K k) := by
  rintro n0 oa D p l e R s m args below meth c Γ Z J q h0 ⟨ls, st, h⟩ C - hf hq - H locs fl hR hle hL h1 h2 hS hc hs
  unfold x_gfi at hf
  dsimp only at hf hL h1 h2 ⊢
  split at hf
  · rename_i t j st
    obtain ⟨rfl, hj, hf⟩ := hf
    refine x_get0 C hK hk hw hd hR hj ?_
    rw [show x_cf n0 oa h t k j = .int (x_vi h t k j) by unfold x_cf; rw [if_pos hft]]
    exact hq _ hf H locs fl hR hle hL h1 (x_lvs_cons trivial (x_tl h2)) hS hc hs
  · exact hf.elim
theorem snd_gfr {K k T idx : Nat} (hK : xk_o K) (hk : k < xk_N K) (hft : x_ft K k = T) (hT : T ≠ 0) (hw : Cond.fieldLink M.own idx (xk_T K k).1 (xk_T K k).2.1 (xk_T K k).2.2.1 ∈ x_big) (hd : decode M.cd pc = .ok (.getfield idx, 3)) : x_Snd xm M pc (pc + 3) (x_gfr K k T) := by
  rintro n0 oa D p l e R s m args below meth c Γ Z J q h0 ⟨ls, st, h⟩ C - hf hq - H locs fl hR hle hL h1 h2 hS hc hs
  unfold x_gfr at hf
  dsimp only at hf hL h1 h2 ⊢
  split at hf
  · rename_i t j st
    obtain ⟨rfl, hj, hf⟩ := hf
    refine x_get0 C hK hk hw hd hR hj ?_
    have hl := hR.2.2.2.2.1 t j k hK hj
    rw [show x_cf n0 oa h t k j = x_cr n0 oa h T (x_vr h t k j) by unfold x_cf; rw [if_neg (by rw [hft]; exact hT), hft]]
    rw [hft] at hl
    exact hq _ hf H locs fl hR hle hL h1 (x_lvs_cons hl (x_tl h2)) hS hc hs
  · exact hf.elim
theorem x_put0 {n0 : Nat} {oa : Nat → Nat → Nat} {D : (Nat → ClassId) × (Nat → Nat → Nat) × (Nat → ClassId)} {p : Program} {l : Launch} {e : Env} {R : Room} {s : State} {m : MethodId} {args : Array Value} {below : List Frame} {meth : Method} {c : Code} {h0 : xH} {Q : State → Prop}
    (C : x_Cx n0 oa D M h0 p l R s m args meth c) {K k idx : Nat} (hK : xk_o K) (hk : k < xk_N K) (hw : Cond.fieldLink M.own idx (xk_T K k).1 (xk_T K k).2.1 (xk_T K k).2.2.1 ∈ x_big) (hd : decode M.cd pc = .ok (.putfield idx, 3))
    (hfin : (xk_T K k).2.2.2 = false ∨ ((xk_T K k).2.2.2 = true ∧ M.ini = true ∧ (xk_T K k).1 = M.own))
    {h h' : xH} {H : Heap} {locs : List Loc} {cells slots : Nat} {fl : Array Slot} {st : List Value} (hR : x_Rep n0 oa D h H) (hle : x_le h0 h) (hS : va_S (fun q => n0 ≤ q) s.heap H locs) {j : Nat} (hj : x_live h K j) {v : Value}
    (hn : narrow (xk_ty K k) v = v) (hv : fits (xk_ty K k) v = true)
    (e1 : x_cn h' = x_cn h) (e2 : x_ln h' = x_ln h) (e3 : x_ad h' = x_ad h) (e4 : x_sz h' = x_sz h)
    (f1 : ∀ K' k' j', ¬ (K' = K ∧ k' = k ∧ j' = j) → x_cf n0 oa h' K' k' j' = x_cf n0 oa h K' k' j') (f0 : x_cf n0 oa h' K k j = v)
    (f2 : ∀ K' j' i, xk_a K' → x_ae n0 oa h' K' j' i = x_ae n0 oa h K' j' i)
    (l1 : ∀ K j k, xk_o K → x_live h K j → x_vr h' K k j ≤ x_cn h (x_ft K k)) (l2 : ∀ K j i, xk_a K → x_live h K j → x_vr h' K j i ≤ x_cn h (x_et K))
    (kk : ∀ (H1 : Heap) (locs1 : List Loc), x_Rep n0 oa D h' H1 → va_S (fun q => n0 ≤ q) s.heap H1 locs1 → W p l e R s m args below meth c H1 locs1 cells slots Q (F0 m (pc + 3) fl st)) : W p l e R s m args below meth c H locs cells slots Q (F0 m pc fl (v :: x_cr n0 oa h K j :: st)) := by
  obtain ⟨hx, hb, -, hown, hts, -, -, hini, -, hKn, -, hn0, -⟩ := C
  rw [x_cr_in (Or.inl hK) hj]
  obtain ⟨-, cell, q1, q2, q3, q4⟩ := hR.2.1 K j hK hj
  obtain ⟨hSl, hfc, kC, hkC, hkind⟩ := hKn.1 K hK
  obtain ⟨cf, kf, fi, f, hi, hsl⟩ := hSl k hk
  have hlay := hts _ (xk_in K hK _ (u_in_lay hk))
  have hst := (u_facts hfc hkC (u_lays hts (xk_in K hK) hk) hi).1
  have hap : ∀ x y, x < xk_N K → y < xk_N K → x ≠ y → (D.2.1 K) x ≠ (D.2.1 K) y := by
    intro x y hx9 hy9 hne
    obtain ⟨_, _, _, fa, hia, ea⟩ := hSl x hx9
    obtain ⟨_, _, _, fb, hib, eb⟩ := hSl y hy9
    rw [← ea, ← eb]
    refine u_apart (u_lays hts (xk_in K hK) hx9) (u_lays hts (xk_in K hK) hy9) hia hib ?_
    rw [(State.fieldFound?_type hia (xk_tyok K hK x hx9)).1, (State.fieldFound?_type hib (xk_tyok K hK y hy9)).1]
    exact xk_nm K hK x hx9 y hy9 hne
  have fin : ∀ H' : Heap, H'[n0 + x_ad h K j]? = some (cell.setSlot f.slot v) → H'.size = H.size → (∀ q, q ≠ n0 + x_ad h K j → H'[q]? = H[q]?) → W p l e R s m args below meth c H' (locs ++ [⟨n0 + x_ad h K j, f.slot⟩]) cells slots Q (F0 m (pc + 3) fl st) := by
    intro H' g1 g2 g3
    refine kk H' _ ?_ (hS.put g2 g3 (Nat.le_add_right _ _))
    refine hR.put (K := K) (j := j) e1 e2 e3 e4 (Or.inl hK) hj g2 g3 (fun K' k' j' _ _ hne => f1 K' k' j' (fun z => hne ⟨z.1, z.2.2⟩)) (fun K' j' i ha _ _ => f2 K' j' i ha) (fun _ => ?_) (fun ha => ?_) l1 l2
    · rw [hsl] at g1
      refine ⟨_, g1, q2, q3, fun k' hk' => ?_⟩
      rw [t_set q4 hap hk v k' hk']
      show some (updV (fun k => x_cf n0 oa h K k j) k v k') = some (x_cf n0 oa h' K k' j)
      unfold updV
      by_cases e9 : k' = k
      · rw [if_pos e9, e9, f0]
      · rw [if_neg e9, f1 K k' j (fun z => e9 z.2.1)]
    · exfalso
      simp only [xk_o, xk_a] at hK ha
      omega
  rcases hfin with hfin | ⟨hfin, hi1, hi2⟩
  · unfold u_lay at hlay
    rw [if_neg (by rw [hfin]; decide)] at hlay
    have h6 := u_store hfc hkC hkind hlay hi (xk_tyok K hK k hk) hn hv
    exact W.putK hx hb (f := f) ⟨hown, hts _ hw, ⟨_, _, _, hi⟩, hst⟩ (by rw [q2]; exact h6) q1 q3 (by rw [hsl]; exact k2_hasslot (q4 k hk)) rfl rfl hd fin
  · unfold u_lay at hlay
    rw [if_pos hfin] at hlay
    have hcf : m.cls = cf := by
      obtain ⟨_, _, c', _, _, _, -, -, hf', -, -, -, hown2, -⟩ := Cond.laysFinal_spec hlay
      have e1 : c' = cf := by have := hi.symm.trans hf'; simp at this; exact this.1.symm
      rw [hi2] at hown2
      rw [← e1]; exact Option.some.inj (hown.symm.trans hown2)
    have h6 := u_fits hfc hkC hkind (Or.inr hlay) hi (xk_tyok K hK k hk) hn hv
    exact W.putFinK hx hb hown (hts _ hw) hi hst hcf (hini hi1) (by rw [q2]; exact h6) q1 q3 (by rw [hsl]; exact k2_hasslot (q4 k hk)) rfl rfl hd fin
theorem x_cf_puti {n0 : Nat} {oa : Nat → Nat → Nat} {h : xH} {K k j : Nat} {v : Int32} {K' k' j' : Nat} (hne : ¬ (K' = K ∧ k' = k ∧ j' = j)) : x_cf n0 oa (x_puti h K k j v) K' k' j' = x_cf n0 oa h K' k' j' := by
  unfold x_cf
  rw [show x_vi (x_puti h K k j v) K' k' j' = x_vi h K' k' j' by show x_u3 (x_vi h) K k j v K' k' j' = _; unfold x_u3; rw [if_neg hne]]
  rfl
theorem x_ae_puti {n0 : Nat} {oa : Nat → Nat → Nat} {h : xH} {K k j : Nat} {v : Int32} {K' j' i : Nat} (hne : ¬ (K' = K ∧ j' = k ∧ i = j)) : x_ae n0 oa (x_puti h K k j v) K' j' i = x_ae n0 oa h K' j' i := by
  unfold x_ae
  rw [show x_vi (x_puti h K k j v) K' j' i = x_vi h K' j' i by show x_u3 (x_vi h) K k j v K' j' i = _; unfold x_u3; rw [if_neg hne]]
  rfl
theorem x_cf_putr {n0 : Nat} {oa : Nat → Nat → Nat} {h : xH} {K k j v K' k' j' : Nat} (hne : ¬ (K' = K ∧ k' = k ∧ j' = j)) : x_cf n0 oa (x_putr h K k j v) K' k' j' = x_cf n0 oa h K' k' j' := by
  unfold x_cf
  rw [show x_vr (x_putr h K k j v) K' k' j' = x_vr h K' k' j' by show x_u3 (x_vr h) K k j v K' k' j' = _; unfold x_u3; rw [if_neg hne]]
  rfl
theorem x_ae_putr {n0 : Nat} {oa : Nat → Nat → Nat} {h : xH} {K k j v K' j' i : Nat} (hne : ¬ (K' = K ∧ j' = k ∧ i = j)) : x_ae n0 oa (x_putr h K k j v) K' j' i = x_ae n0 oa h K' j' i := by
  unfold x_ae
  rw [show x_vr (x_putr h K k j v) K' j' i = x_vr h K' j' i by show x_u3 (x_vr h) K k j v K' j' i = _; unfold x_u3; rw [if_neg hne]]
  rfl
theorem x_o_ne_a {K K' : Nat} (h : xk_o K) (h' : xk_a K') : K' ≠ K := by
  simp only [xk_o, xk_a] at h h'; omega
theorem x_o_ne10 {K : Nat} (h : xk_o K) : K ≠ 10 := by simp only [xk_o] at h; omega
theorem x_a_ne10 {K : Nat} (h : xk_a K) : K ≠ 10 := by simp only [xk_a] at h; omega
theorem x_pfi0 {n0 : Nat} {oa : Nat → Nat → Nat} {D : (Nat → ClassId) × (Nat → Nat → Nat) × (Nat → ClassId)} {p : Program} {l : Launch} {e : Env} {R : Room} {s : State} {m : MethodId} {args : Array Value} {below : List Frame} {meth : Method} {c : Code} {h0 : xH} {Q : State → Prop}
    (C : x_Cx n0 oa D M h0 p l R s m args meth c) {K k idx : Nat} (hK : xk_o K) (hk : k < xk_N K) (hft : x_ft K k = 0) (hw : Cond.fieldLink M.own idx (xk_T K k).1 (xk_T K k).2.1 (xk_T K k).2.2.1 ∈ x_big) (hd : decode M.cd pc = .ok (.putfield idx, 3))
    (hfin : (xk_T K k).2.2.2 = false ∨ ((xk_T K k).2.2.2 = true ∧ M.ini = true ∧ (xk_T K k).1 = M.own)) {n : Int32} (hn : narrow (xk_ty K k) (.int n) = .int n) (hv : fits (xk_ty K k) (.int n) = true)
    {ls st : List xV} {h : xH} {j : Nat} (hj : x_live h K j) (hq : x_At n0 oa D p l e R s m args below meth c M h0 Q (pc + 3) (ls, st, x_puti h K k j n)) : x_At n0 oa D p l e R s m args below meth c M h0 Q pc (ls, .inl n :: .inr (.inr (K, j)) :: st, h) := by
  intro H locs fl hR hle hL h1 h2 hS hc hs
  dsimp only at hR hle hL h1 h2 hc hs ⊢
  refine x_put0 (h' := x_puti h K k j n) C hK hk hw hd hfin hR hle hS hj hn hv rfl rfl rfl rfl (fun K' k' j' z => x_cf_puti z) ?_ (fun K' j' i ha => x_ae_puti (fun z => x_o_ne_a hK ha z.1)) (fun K j k a b => hR.2.2.2.2.1 K j k a b) (fun K j i a b => hR.2.2.2.2.2.1 K j i a b) fun H1 locs1 hR1 hS1 => ?_
  · unfold x_cf
    rw [if_pos hft]
    show Value.int (x_u3 (x_vi h) K k j n K k j) = _
    unfold x_u3
    rw [if_pos ⟨rfl, rfl, rfl⟩]
    rfl
  · have hl := x_le.puti (h := h) (k := k) (i := j) (v := n) (x_o_ne10 hK)
    exact hq H1 locs1 fl hR1 (hle.tr hl) (hL.le hl h1) (x_lvs_le hl h1) (x_lvs_le hl (x_tl (x_tl h2))) hS1 hc hs
theorem snd_pfi {K k idx : Nat} (hK : xk_o K) (hk : k < xk_N K) (hft : x_ft K k = 0) (hty : xk_ty K k = .int) (hw : Cond.fieldLink M.own idx (xk_T K k).1 (xk_T K k).2.1 (xk_T K k).2.2.1 ∈ x_big)
    (hfin : (xk_T K k).2.2.2 = false ∨ ((xk_T K k).2.2.2 = true ∧ M.ini = true ∧ (xk_T K k).1 = M.own)) (hd : decode M.cd pc = .ok (.putfield idx, 3)) : x_Snd xm M pc (pc + 3) (x_pfi K k) := by
  rintro n0 oa D p l e R s m args below meth c Γ Z J q h0 ⟨ls, st, h⟩ C - hf hq -
  unfold x_pfi at hf
  dsimp only at hf
  split at hf
  · obtain ⟨rfl, hj, hf⟩ := hf
    exact x_pfi0 C hK hk hft hw hd hfin (by rw [hty]; rfl) (by rw [hty]; rfl) hj (hq _ hf)
  · exact hf.elim
theorem snd_pfz {K k idx : Nat} (hK : xk_o K) (hk : k < xk_N K) (hft : x_ft K k = 0) (hty : xk_ty K k = .boolean) (hw : Cond.fieldLink M.own idx (xk_T K k).1 (xk_T K k).2.1 (xk_T K k).2.2.1 ∈ x_big)
    (hfin : (xk_T K k).2.2.2 = false ∨ ((xk_T K k).2.2.2 = true ∧ M.ini = true ∧ (xk_T K k).1 = M.own)) (hd : decode M.cd pc = .ok (.putfield idx, 3)) : x_Snd xm M pc (pc + 3) (x_pfz K k) := by
  rintro n0 oa D p l e R s m args below meth c Γ Z J q h0 ⟨ls, st, h⟩ C - hf hq -
  unfold x_pfz at hf
  dsimp only at hf
  split at hf
  · obtain ⟨rfl, hj, hz, hf⟩ := hf
    exact x_pfi0 C hK hk hft hw hd hfin (by rw [hty]; rcases hz with rfl | rfl <;> rfl) (by rw [hty]; rcases hz with rfl | rfl <;> rfl) hj (hq _ hf)
  · exact hf.elim
theorem snd_pfr {K k T idx : Nat} (hK : xk_o K) (hk : k < xk_N K) (hft : x_ft K k = T) (hT : T ≠ 0) (hty : (xk_ty K k).isReference = true) (hw : Cond.fieldLink M.own idx (xk_T K k).1 (xk_T K k).2.1 (xk_T K k).2.2.1 ∈ x_big)
    (hfin : (xk_T K k).2.2.2 = false ∨ ((xk_T K k).2.2.2 = true ∧ M.ini = true ∧ (xk_T K k).1 = M.own)) (hd : decode M.cd pc = .ok (.putfield idx, 3)) : x_Snd xm M pc (pc + 3) (x_pfr K k T) := by
  rintro n0 oa D p l e R s m args below meth c Γ Z J q h0 ⟨ls, st, h⟩ C - hf hq - H locs fl hR hle hL h1 h2 hS hc hs
  unfold x_pfr at hf
  dsimp only at hf hR hle hL h1 h2 hc hs ⊢
  split at hf
  · rename_i t' j' t j st
    obtain ⟨rfl, rfl, hj, hf⟩ := hf
    have hv2 : j' ≤ x_cn h t' := h2 _ List.mem_cons_self
    refine x_put0 (h' := x_putr h t k j j') C hK hk hw hd hfin hR hle hS hj ?_ ?_ rfl rfl rfl rfl (fun K' k' j' z => x_cf_putr z) ?_ (fun K' j' i ha => x_ae_putr (fun z => x_o_ne_a hK ha z.1)) ?_ ?_ fun H1 locs1 hR1 hS1 => ?_
    · show narrow (xk_ty t k) (x_cr n0 oa h t' j') = x_cr n0 oa h t' j'
      rcases x_cr_or n0 oa h t' j' with e9 | ⟨a9, e9⟩ <;> rw [e9] <;> (cases h9 : xk_ty t k <;> rw [h9] at hty <;> first | rfl | (cases hty))
    · show fits (xk_ty t k) (x_cr n0 oa h t' j') = true
      rcases x_cr_or n0 oa h t' j' with e9 | ⟨a9, e9⟩ <;> rw [e9] <;> (cases h9 : xk_ty t k <;> rw [h9] at hty <;> first | rfl | (cases hty))
    · unfold x_cf
      rw [if_neg (by rw [hft]; exact hT), hft]
      show x_cr n0 oa h t' (x_u3 (x_vr h) t k j j' t k j) = x_cr n0 oa h t' j'
      unfold x_u3
      rw [if_pos ⟨rfl, rfl, rfl⟩]
    · intro K9 j9 k9 a9 b9
      show x_u3 (x_vr h) t k j j' K9 k9 j9 ≤ _
      unfold x_u3
      by_cases z : K9 = t ∧ k9 = k ∧ j9 = j
      · rw [if_pos z, z.1, z.2.1, hft]; exact hv2
      · rw [if_neg z]; exact hR.2.2.2.2.1 K9 j9 k9 a9 b9
    · intro K9 j9 i9 a9 b9
      show x_u3 (x_vr h) t k j j' K9 j9 i9 ≤ _
      unfold x_u3
      rw [if_neg (fun z => x_o_ne_a hK a9 z.1)]
      exact hR.2.2.2.2.2.1 K9 j9 i9 a9 b9
    · have hl := x_le.putr (h := h) (K := t) (k := k) (i := j) (v := j')
      exact hq _ hf H1 locs1 fl hR1 (hle.tr hl) (hL.le hl h1) (x_lvs_le hl h1) (x_lvs_le hl (x_tl (x_tl h2))) hS1 hc hs
  · exact hf.elim
theorem snd_stage {j idx : Nat} (h1 : 1 ≤ j) (h6 : j ≤ 6) (hw : Cond.fieldLink M.own idx "CrossbarNet$Stage" (x_sn j) "LCrossbarNet$Stage;" ∈ x_big) (hd : decode M.cd pc = .ok (.getstatic idx, 3)) : x_Snd xm M pc (pc + 3) (x_stage j) := by
  rintro n0 oa D p l e R s m args below meth c Γ Z J q h0 ⟨ls, st, h⟩ C - hf hq - H locs fl hR hle hL h1' h2 hS hc hs
  obtain ⟨hx, hb, -, hown, hts, -, -, -, -, -, hSt, -⟩ := C
  dsimp only at hR hle hL h1' h2 hc hs ⊢
  refine va_gets hx hb (hSt.1 j h1 h6) hS hown (hts _ hw) (fun _ z => z) hd ?_
  have e9 : x_cv n0 oa h (.inr (.inr (9, j))) = .ref (oa 9 j) := by
    show x_cr n0 oa h 9 j = _
    unfold x_cr x_addr
    rw [if_neg (by omega), if_pos (Or.inl rfl)]
  have := hq _ hf H locs fl hR hle hL h1' (x_lvs_cons (show j ≤ x_cn h 9 from ?_) h2) hS hc hs
  · rw [List.map_cons, e9] at this
    exact this
  · rw [hR.2.2.2.2.2.2]; exact h6
end XS2
end
section
/-! SOUND INSTRUCTIONS: arrays, new cells -/
/-- one cell more -/
theorem x_Rep.grow {n0 : Nat} {oa : Nat → Nat → Nat} {D : (Nat → ClassId) × (Nat → Nat → Nat) × (Nat → ClassId)} {h h' : xH} {H H1 : Heap} (hR : x_Rep n0 oa D h H) {K : Nat} (hK : xk_o K ∨ xk_a K) (hle : x_le h h')
    (c1 : ∀ K', x_cn h' K' = if K' = K then x_cn h K + 1 else x_cn h K') (c2 : x_ad h' K (x_cn h K + 1) = x_sz h) (c3 : x_sz h' = x_sz h + 1) (c4 : ∀ K' j', x_live h K' j' → x_ln h' K' j' = x_ln h K' j')
    (v1 : ∀ K' k j', xk_o K' → x_live h K' j' → x_vi h' K' k j' = x_vi h K' k j' ∧ x_vr h' K' k j' = x_vr h K' k j') (v2 : ∀ K' j' i, xk_a K' → x_live h K' j' → x_vi h' K' j' i = x_vi h K' j' i ∧ x_vr h' K' j' i = x_vr h K' j' i)
    (v3 : ∀ j, x_live h 21 j → x_lg h' = x_lg h) (z1 : H1.size = H.size + 1) (o1 : ∀ q, q < H.size → H1[q]? = H[q]?)
    (g1 : xk_o K → t_OB (n0 + x_sz h) (D.1 K) (xk_N K) (D.2.1 K) H1 (fun k => x_cf n0 oa h' K k (x_cn h K + 1))) (g2 : xk_a K → H1[n0 + x_sz h]? = some (arrV (D.2.2 K) (x_ln h' K (x_cn h K + 1)) (fun i => x_ae n0 oa h' K (x_cn h K + 1) i)))
    (w1 : xk_o K → ∀ k, x_vr h' K k (x_cn h K + 1) = 0) (w2 : xk_a K → ∀ i, x_vr h' K (x_cn h K + 1) i = 0) : x_Rep n0 oa D h' H1 := by
  obtain ⟨a1, a2, a3, a4, a5, a6, a7⟩ := hR
  have hsp : ∀ K' j', x_live h' K' j' → x_live h K' j' ∨ (K' = K ∧ j' = x_cn h K + 1) := by
    intro K' j' ⟨q1, q2⟩
    rw [c1] at q2
    by_cases e : K' = K
    · rw [if_pos e] at q2
      by_cases e2 : j' = x_cn h K + 1
      · exact Or.inr ⟨e, e2⟩
      · exact Or.inl ⟨q1, by rw [e]; omega⟩
    · rw [if_neg e] at q2
      exact Or.inl ⟨q1, q2⟩
  have hcf : ∀ K' k j', xk_o K' → x_live h K' j' → x_cf n0 oa h' K' k j' = x_cf n0 oa h K' k j' := by
    intro K' k j' hk hj
    unfold x_cf
    rw [(v1 K' k j' hk hj).1, (v1 K' k j' hk hj).2, x_cr_le hle (a5 K' j' k hk hj)]
  have hae : ∀ K' j' i, xk_a K' → x_live h K' j' → x_ae n0 oa h' K' j' i = x_ae n0 oa h K' j' i := by
    intro K' j' i hk hj
    unfold x_ae
    rw [(v2 K' j' i hk hj).1, (v2 K' j' i hk hj).2, x_cr_le hle (a6 K' j' i hk hj)]
    by_cases e : K' = 21
    · subst e
      rw [v3 j' hj]
    · rw [if_neg e, if_neg e]
  have had : ∀ K' j', x_live h K' j' → x_ad h' K' j' = x_ad h K' j' := fun K' j' hj => hle.2.1 K' j' hj.2
  have hlt : ∀ K' j', (xk_o K' ∨ xk_a K') → x_live h K' j' → x_ad h K' j' < x_sz h := fun K' j' hk hj => hk.elim (fun hk => (a2 K' j' hk hj).1) (fun hk => (a3 K' j' hk hj).1)
  refine ⟨by rw [z1, a1, c3]; omega, fun K' j' hk hj => ?_, fun K' j' hk hj => ?_, fun K1 j1 K2 j2 b1 b2 b3 b4 b5 => ?_, fun K' j' k hk hj => ?_, fun K' j' i hk hj => ?_, ?_⟩
  · rcases hsp _ _ hj with hj | ⟨rfl, rfl⟩
    · have q := a2 K' j' hk hj
      rw [had _ _ hj, c3]
      exact ⟨by omega, t_OB.to (q.2.kept (o1 _ (by omega))) (fun k _ => (hcf K' k j' hk hj).symm)⟩
    · rw [c2, c3]
      exact ⟨by omega, g1 hk⟩
  · rcases hsp _ _ hj with hj | ⟨rfl, rfl⟩
    · have q := a3 K' j' hk hj
      rw [had _ _ hj, c3, c4 _ _ hj, o1 _ (by omega), q.2]
      exact ⟨by omega, congrArg some (congrArg (arrV _ _) (funext fun i => (hae K' j' i hk hj).symm))⟩
    · rw [c2, c3]
      exact ⟨by omega, g2 hk⟩
  · rcases hsp _ _ b3 with q1 | ⟨rfl, rfl⟩ <;> rcases hsp _ _ b4 with q2 | ⟨q3, q4⟩
    · rw [had _ _ q1, had _ _ q2] at b5
      exact a4 K1 j1 K2 j2 b1 b2 q1 q2 b5
    · subst q3; subst q4
      rw [had _ _ q1, c2] at b5
      have := hlt _ _ b1 q1
      omega
    · rw [had _ _ q2, c2] at b5
      have := hlt _ _ b2 q2
      omega
    · subst q3; subst q4
      exact ⟨rfl, rfl⟩
  · rcases hsp _ _ hj with hj | ⟨rfl, rfl⟩
    · rw [(v1 K' k j' hk hj).2]
      exact Nat.le_trans (a5 K' j' k hk hj) (hle.1 _)
    · rw [w1 hk]; exact Nat.zero_le _
  · rcases hsp _ _ hj with hj | ⟨rfl, rfl⟩
    · rw [(v2 K' j' i hk hj).2]
      exact Nat.le_trans (a6 K' j' i hk hj) (hle.1 _)
    · rw [w2 hk]; exact Nat.zero_le _
  · rw [c1, if_neg, a7]
    rintro rfl
    rcases hK with hK | hK <;> (simp only [xk_o, xk_a] at hK; omega)
theorem x_new_cn {h : xH} {K N : Nat} (K' : Nat) : x_cn (x_new h K N) K' = if K' = K then x_cn h K + 1 else x_cn h K' := rfl
theorem x_newa_cn {h : xH} {K n : Nat} (K' : Nat) : x_cn (x_newa h K n) K' = if K' = K then x_cn h K + 1 else x_cn h K' := rfl
theorem x_live_ne {h : xH} {K K' j' : Nat} (hj : x_live h K' j') : ¬ (K' = K ∧ j' = x_cn h K + 1) := by
  rintro ⟨rfl, rfl⟩
  have := hj.2
  omega
theorem x_Rep.new {n0 : Nat} {oa : Nat → Nat → Nat} {D : (Nat → ClassId) × (Nat → Nat → Nat) × (Nat → ClassId)} {h : xH} {H H1 : Heap} (hR : x_Rep n0 oa D h H) {K N : Nat} (hK : xk_o K) (z1 : H1.size = H.size + 1) (o1 : ∀ q, q < H.size → H1[q]? = H[q]?)
    (g1 : t_OB H.size (D.1 K) (xk_N K) (D.2.1 K) H1 (fun k => x_cf n0 oa (x_new h K N) K k (x_cn h K + 1))) : x_Rep n0 oa D (x_new h K N) H1 := by
  refine hR.grow (Or.inl hK) (x_le.new (x_o_ne10 hK)) x_new_cn ?_ rfl (fun _ _ _ => rfl) (fun K' k j' _ hj => ⟨?_, ?_⟩) (fun K' j' i ha hj => ⟨?_, ?_⟩) (fun _ _ => rfl) z1 o1 (fun _ => by rw [← hR.1]; exact g1) (fun ha => absurd rfl (x_o_ne_a hK ha)) (fun _ k => ?_) (fun ha => absurd rfl (x_o_ne_a hK ha))
  · show x_u2 (x_ad h) K (x_cn h K + 1) (x_sz h) K (x_cn h K + 1) = x_sz h
    unfold x_u2; rw [if_pos ⟨rfl, rfl⟩]
  · exact if_neg (x_live_ne hj)
  · exact if_neg (x_live_ne hj)
  · exact if_neg (fun z => x_o_ne_a hK ha z.1)
  · exact if_neg (fun z => x_o_ne_a hK ha z.1)
  · exact if_pos ⟨rfl, rfl⟩
theorem x_Rep.newa {n0 : Nat} {oa : Nat → Nat → Nat} {D : (Nat → ClassId) × (Nat → Nat → Nat) × (Nat → ClassId)} {h : xH} {H H1 : Heap} (hR : x_Rep n0 oa D h H) {K n : Nat} (hK : xk_a K) (h21 : K = 21 → x_cn h 21 = 0) (z1 : H1.size = H.size + 1) (o1 : ∀ q, q < H.size → H1[q]? = H[q]?)
    (g2 : H1[H.size]? = some (arrV (D.2.2 K) n (fun i => x_ae n0 oa (x_newa h K n) K (x_cn h K + 1) i))) : x_Rep n0 oa D (x_newa h K n) H1 := by
  refine hR.grow (Or.inr hK) (x_le.newa (x_a_ne10 hK)) x_newa_cn ?_ rfl (fun K' j' hj => ?_) (fun K' k j' ho hj => ⟨?_, ?_⟩) (fun K' j' i ha hj => ⟨?_, ?_⟩) (fun j hj => ?_) z1 o1 (fun ho => absurd rfl (x_o_ne_a ho hK)) (fun _ => ?_) (fun ho => absurd rfl (x_o_ne_a ho hK)) (fun _ k => ?_)
  · show x_u2 (x_ad h) K (x_cn h K + 1) (x_sz h) K (x_cn h K + 1) = x_sz h
    unfold x_u2; rw [if_pos ⟨rfl, rfl⟩]
  · show x_u2 (x_ln h) K (x_cn h K + 1) n K' j' = x_ln h K' j'
    unfold x_u2; rw [if_neg (x_live_ne hj)]
  · exact if_neg (fun z => x_o_ne_a ho hK z.1.symm)
  · exact if_neg (fun z => x_o_ne_a ho hK z.1.symm)
  · exact if_neg (x_live_ne hj)
  · exact if_neg (x_live_ne hj)
  · show (if K = 21 then 0 else x_lg h) = x_lg h
    by_cases e : K = 21
    · have := h21 e
      have := hj.1
      have := hj.2
      omega
    · rw [if_neg e]
  · rw [← hR.1, g2]
    show _ = some (arrV _ (x_u2 (x_ln h) K (x_cn h K + 1) n K (x_cn h K + 1)) _)
    unfold x_u2; rw [if_pos ⟨rfl, rfl⟩]
  · exact if_pos ⟨rfl, rfl⟩
section XS3
variable {xm : Nat → xM} {M : xM} {pc : Nat}
theorem snd_ald {K : Nat} (hK : xk_a K) (hty : xk_ety K = .int) (he : x_et K = 0) (hn21 : K ≠ 21) (hd : decode M.cd pc = .ok (.iaload, 1)) : x_Snd xm M pc (pc + 1) (x_ald K) := by
  rintro n0 oa D p l e R s m args below meth c Γ Z J q h0 ⟨ls, st, h⟩ C - hf hq - H locs fl hR hle hL h1 h2 hS hc hs
  obtain ⟨hx, hb, -, -, -, -, -, -, -, hKn, -⟩ := C
  unfold x_ald at hf
  dsimp only at hf hR hle hL h1 h2 hc hs ⊢
  split at hf
  · rename_i i t j st
    obtain ⟨rfl, hj, hin, hf⟩ := hf
    obtain ⟨-, q2⟩ := hR.2.2.1 t j hK hj
    have hin' := vp_in_iff.mpr hin
    have hlt : i.toNatClampNeg < x_ln h t j := Nat.not_le.mp fun q => hin' (Or.inr q)
    rw [List.map_cons, List.map_cons, show x_cv n0 oa h (.inr (.inr (t, j))) = _ from x_cr_in (Or.inr hK) hj]
    refine W.iald (v := .int (x_vi h t j i.toNatClampNeg)) hx hb q2 (by have := (hKn.2 t hK).1; rw [hty] at this; exact this _ _) (fun q => by cases q) (by rw [arrV_size]; exact hin') (by rw [arrV_read _ _ hlt]; unfold x_ae; rw [if_neg hn21, if_pos he]) rfl rfl hd ?_
    exact hq _ hf H locs fl hR hle hL h1 (x_lvs_cons trivial (x_tl (x_tl h2))) hS hc hs
  · exact hf.elim
theorem snd_bald {K : Nat} (hK : xk_a K) (hty : xk_ety K = .boolean) (he : x_et K = 0) (hn21 : K ≠ 21) (hd : decode M.cd pc = .ok (.baload, 1)) : x_Snd xm M pc (pc + 1) (x_ald K) := by
  rintro n0 oa D p l e R s m args below meth c Γ Z J q h0 ⟨ls, st, h⟩ C - hf hq - H locs fl hR hle hL h1 h2 hS hc hs
  obtain ⟨hx, hb, -, -, -, -, -, -, -, hKn, -⟩ := C
  unfold x_ald at hf
  dsimp only at hf hR hle hL h1 h2 hc hs ⊢
  split at hf
  · rename_i i t j st
    obtain ⟨rfl, hj, hin, hf⟩ := hf
    obtain ⟨-, q2⟩ := hR.2.2.1 t j hK hj
    have hin' := vp_in_iff.mpr hin
    have hlt : i.toNatClampNeg < x_ln h t j := Nat.not_le.mp fun q => hin' (Or.inr q)
    rw [List.map_cons, List.map_cons, show x_cv n0 oa h (.inr (.inr (t, j))) = _ from x_cr_in (Or.inr hK) hj]
    refine W.zald (v := .int (x_vi h t j i.toNatClampNeg)) hx hb q2 (by have := (hKn.2 t hK).1; rw [hty] at this; exact this _ _) (fun q => by cases q) (by rw [arrV_size]; exact hin') (by rw [arrV_read _ _ hlt]; unfold x_ae; rw [if_neg hn21, if_pos he]) rfl rfl hd ?_
    exact hq _ hf H locs fl hR hle hL h1 (x_lvs_cons trivial (x_tl (x_tl h2))) hS hc hs
  · exact hf.elim
theorem snd_aald {K T : Nat} (hK : xk_a K) (hty : (xk_ety K).isReference = true) (he : x_et K = T) (hT : T ≠ 0) (hn21 : K ≠ 21) (hd : decode M.cd pc = .ok (.aaload, 1)) : x_Snd xm M pc (pc + 1) (x_aald K T) := by
  rintro n0 oa D p l e R s m args below meth c Γ Z J q h0 ⟨ls, st, h⟩ C - hf hq - H locs fl hR hle hL h1 h2 hS hc hs
  obtain ⟨hx, hb, -, -, -, -, -, -, -, hKn, -⟩ := C
  unfold x_aald at hf
  dsimp only at hf hR hle hL h1 h2 hc hs ⊢
  split at hf
  · rename_i i t j st
    obtain ⟨rfl, hj, hin, hf⟩ := hf
    obtain ⟨-, q2⟩ := hR.2.2.1 t j hK hj
    have hin' := vp_in_iff.mpr hin
    have hlt : i.toNatClampNeg < x_ln h t j := Nat.not_le.mp fun q => hin' (Or.inr q)
    rw [List.map_cons, List.map_cons, show x_cv n0 oa h (.inr (.inr (t, j))) = _ from x_cr_in (Or.inr hK) hj]
    refine W.aald (v := x_cr n0 oa h T (x_vr h t j i.toNatClampNeg)) (ty := xk_ety t) hx hb q2 ((hKn.2 t hK).1 _ _) hty (fun q => by cases q) (by rw [arrV_size]; exact hin') (by rw [arrV_read _ _ hlt]; unfold x_ae; rw [if_neg hn21, if_neg (by rw [he]; exact hT), he]) rfl rfl hd ?_
    have hl := hR.2.2.2.2.2.1 t j i.toNatClampNeg hK hj
    rw [he] at hl
    exact hq _ hf H locs fl hR hle hL h1 (x_lvs_cons hl (x_tl (x_tl h2))) hS hc hs
  · exact hf.elim
theorem snd_alen {K : Nat} (hK : xk_a K) (hd : decode M.cd pc = .ok (.arraylength, 1)) : x_Snd xm M pc (pc + 1) (x_alen K) := by
  rintro n0 oa D p l e R s m args below meth c Γ Z J q h0 ⟨ls, st, h⟩ C - hf hq - H locs fl hR hle hL h1 h2 hS hc hs
  obtain ⟨hx, hb, -, -, -, -, -, -, -, hKn, -⟩ := C
  unfold x_alen at hf
  dsimp only at hf hR hle hL h1 h2 hc hs ⊢
  split at hf
  · rename_i t j st
    obtain ⟨rfl, hj, hf⟩ := hf
    obtain ⟨-, q2⟩ := hR.2.2.1 t j hK hj
    rw [List.map_cons, show x_cv n0 oa h (.inr (.inr (t, j))) = _ from x_cr_in (Or.inr hK) hj]
    refine W.alen (n := Int32.ofNat (x_ln h t j)) hx hb q2 ((hKn.2 t hK).1 _ _) (by rw [arrV_size]) rfl rfl hd ?_
    exact hq _ hf H locs fl hR hle hL h1 (x_lvs_cons trivial (x_tl h2)) hS hc hs
  · exact hf.elim
/-- what an array's store leaves -/
theorem x_stored {n0 : Nat} {oa : Nat → Nat → Nat} {D : (Nat → ClassId) × (Nat → Nat → Nat) × (Nat → ClassId)} {h h' : xH} {H H' : Heap} {K j i : Nat} {v : Value} (hR : x_Rep n0 oa D h H) (hK : xk_a K) (hj : x_live h K j)
    (e1 : x_cn h' = x_cn h) (e2 : x_ln h' = x_ln h) (e3 : x_ad h' = x_ad h) (e4 : x_sz h' = x_sz h)
    (f1 : ∀ K' k' j', xk_o K' → x_cf n0 oa h' K' k' j' = x_cf n0 oa h K' k' j') (f2 : ∀ K' j' i', xk_a K' → x_live h K' j' → ¬ (K' = K ∧ j' = j ∧ i' = i) → x_ae n0 oa h' K' j' i' = x_ae n0 oa h K' j' i') (f0 : x_ae n0 oa h' K j i = v)
    (l1 : ∀ K j k, xk_o K → x_live h K j → x_vr h' K k j ≤ x_cn h (x_ft K k)) (l2 : ∀ K j i, xk_a K → x_live h K j → x_vr h' K j i ≤ x_cn h (x_et K))
    (g1 : H'[n0 + x_ad h K j]? = some ((arrV (D.2.2 K) (x_ln h K j) (fun i => x_ae n0 oa h K j i)).setSlot i v)) (g2 : H'.size = H.size) (g3 : ∀ q, q ≠ n0 + x_ad h K j → H'[q]? = H[q]?) : x_Rep n0 oa D h' H' := by
  refine hR.put (K := K) (j := j) e1 e2 e3 e4 (Or.inr hK) hj g2 g3 (fun K' k' j' a _ _ => f1 K' k' j' a) (fun K' j' i' a b z => f2 K' j' i' a b (fun y => z ⟨y.1, y.2.1⟩)) (fun ho => absurd rfl (x_o_ne_a ho hK)) (fun _ => ?_) l1 l2
  rw [g1, arrV_store]
  refine congrArg some (congrArg (arrV _ _) (funext fun i' => ?_))
  unfold updV
  by_cases e9 : i' = i
  · rw [if_pos e9, e9, f0]
  · rw [if_neg e9, f2 K j i' hK hj (fun z => e9 z.2.2)]
theorem x_ast0 {n0 : Nat} {oa : Nat → Nat → Nat} {D : (Nat → ClassId) × (Nat → Nat → Nat) × (Nat → ClassId)} {h : xH} {H H' : Heap} {K j i : Nat} {n : Int32} (hR : x_Rep n0 oa D h H) (hK : xk_a K) (he : x_et K = 0) (hn21 : K ≠ 21) (hj : x_live h K j)
    (g1 : H'[n0 + x_ad h K j]? = some ((arrV (D.2.2 K) (x_ln h K j) (fun i => x_ae n0 oa h K j i)).setSlot i (.int n))) (g2 : H'.size = H.size) (g3 : ∀ q, q ≠ n0 + x_ad h K j → H'[q]? = H[q]?) : x_Rep n0 oa D (x_puti h K j i n) H' := by
  refine x_stored hR hK hj rfl rfl rfl rfl (fun K' k' j' ho => x_cf_puti (fun z => x_o_ne_a ho hK z.1.symm)) (fun K' j' i' _ _ z => x_ae_puti z) ?_ (fun K j k a b => hR.2.2.2.2.1 K j k a b) (fun K j i a b => hR.2.2.2.2.2.1 K j i a b) g1 g2 g3
  unfold x_ae
  rw [if_neg hn21, if_pos he]
  show Value.int (x_u3 (x_vi h) K j i n K j i) = _
  unfold x_u3
  rw [if_pos ⟨rfl, rfl, rfl⟩]
theorem snd_ast {K : Nat} (hK : xk_a K) (hty : xk_ety K = .int) (he : x_et K = 0) (hn21 : K ≠ 21) (hd : decode M.cd pc = .ok (.iastore, 1)) : x_Snd xm M pc (pc + 1) (x_ast K) := by
  rintro n0 oa D p l e R s m args below meth c Γ Z J q h0 ⟨ls, st, h⟩ C - hf hq - H locs fl hR hle hL h1 h2 hS hc hs
  obtain ⟨hx, hb, -, -, -, -, -, -, -, hKn, -⟩ := C
  unfold x_ast at hf
  dsimp only at hf hR hle hL h1 h2 hc hs ⊢
  split at hf
  · rename_i n i t j st
    obtain ⟨rfl, hj, hin, hf⟩ := hf
    obtain ⟨-, q2⟩ := hR.2.2.1 t j hK hj
    have hin' := vp_in_iff.mpr hin
    rw [List.map_cons, List.map_cons, List.map_cons, show x_cv n0 oa h (.inr (.inr (t, j))) = _ from x_cr_in (Or.inr hK) hj]
    refine W.iast hx hb q2 (by have := (hKn.2 t hK).1; rw [hty] at this; exact this _ _) (fun q => by cases q) (by rw [arrV_size]; exact hin') rfl rfl hd fun H' g1 g2 g3 => ?_
    have hl := x_le.puti (h := h) (k := j) (i := i.toNatClampNeg) (v := n) (x_a_ne10 hK)
    exact hq _ hf H' _ fl (x_ast0 hR hK he hn21 hj g1 g2 g3) (hle.tr hl) (hL.le hl h1) (x_lvs_le hl h1) (x_lvs_le hl (x_tl (x_tl (x_tl h2)))) (hS.put g2 g3 (Nat.le_add_right _ _)) hc hs
  · exact hf.elim
theorem snd_zst {K : Nat} (hK : xk_a K) (hty : xk_ety K = .boolean) (he : x_et K = 0) (hn21 : K ≠ 21) (hd : decode M.cd pc = .ok (.bastore, 1)) : x_Snd xm M pc (pc + 1) (x_zst K) := by
  rintro n0 oa D p l e R s m args below meth c Γ Z J q h0 ⟨ls, st, h⟩ C - hf hq - H locs fl hR hle hL h1 h2 hS hc hs
  obtain ⟨hx, hb, -, -, -, -, -, -, -, hKn, -⟩ := C
  unfold x_zst at hf
  dsimp only at hf hR hle hL h1 h2 hc hs ⊢
  split at hf
  · rename_i n i t j st
    obtain ⟨rfl, hj, hin, hz, hf⟩ := hf
    obtain ⟨-, q2⟩ := hR.2.2.1 t j hK hj
    have hin' := vp_in_iff.mpr hin
    rw [List.map_cons, List.map_cons, List.map_cons, show x_cv n0 oa h (.inr (.inr (t, j))) = _ from x_cr_in (Or.inr hK) hj]
    refine W.zast hx hb q2 (by have := (hKn.2 t hK).1; rw [hty] at this; exact this _ _) (fun q => by cases q) (by rw [arrV_size]; exact hin') rfl rfl hd fun H' g1 g2 g3 => ?_
    have hl := x_le.puti (h := h) (k := j) (i := i.toNatClampNeg) (v := n) (x_a_ne10 hK)
    rw [show narrow .boolean (.int n) = .int n by rcases hz with rfl | rfl <;> rfl] at g1
    exact hq _ hf H' _ fl (x_ast0 hR hK he hn21 hj g1 g2 g3) (hle.tr hl) (hL.le hl h1) (x_lvs_le hl h1) (x_lvs_le hl (x_tl (x_tl (x_tl h2)))) (hS.put g2 g3 (Nat.le_add_right _ _)) hc hs
  · exact hf.elim
theorem snd_aast {K T : Nat} (hK : xk_a K) (hT : xk_o T) (hty : xk_ety K = .object (xk_C T)) (he : x_et K = T) (hn21 : K ≠ 21) (hd : decode M.cd pc = .ok (.aastore, 1)) : x_Snd xm M pc (pc + 1) (x_aast K T) := by
  rintro n0 oa D p l e R s m args below meth c Γ Z J q h0 ⟨ls, st, h⟩ C - hf hq - H locs fl hR hle hL h1 h2 hS hc hs
  obtain ⟨hx, hb, -, -, -, -, -, -, -, hKn, -⟩ := C
  unfold x_aast at hf
  dsimp only at hf hR hle hL h1 h2 hc hs ⊢
  split at hf
  · rename_i t' j' i t j st
    obtain ⟨rfl, rfl, hj, hin, hf⟩ := hf
    have hT0 : t' ≠ 0 := by simp only [xk_o] at hT; omega
    obtain ⟨-, q2⟩ := hR.2.2.1 t j hK hj
    have hin' := vp_in_iff.mpr hin
    have hlt : i.toNatClampNeg < x_ln h t j := Nat.not_le.mp fun q => hin' (Or.inr q)
    have hv2 : j' ≤ x_cn h t' := h2 _ List.mem_cons_self
    have hKt := hKn.2 t hK
    rw [hty] at hKt
    rw [List.map_cons, List.map_cons, List.map_cons, show x_cv n0 oa h (.inr (.inr (t, j))) = _ from x_cr_in (Or.inr hK) hj]
    have hl := x_le.putr (h := h) (K := t) (k := j) (i := i.toNatClampNeg) (v := j')
    have fin : ∀ H' : Heap, H'[n0 + x_ad h t j]? = some ((arrV (D.2.2 t) (x_ln h t j) (fun i => x_ae n0 oa h t j i)).setSlot i.toNatClampNeg (x_cr n0 oa h t' j')) → H'.size = H.size → (∀ q, q ≠ n0 + x_ad h t j → H'[q]? = H[q]?) →
        W p l e R s m args below meth c H' (locs ++ [⟨n0 + x_ad h t j, i.toNatClampNeg⟩]) (x_ce h) (x_so h) (x_MQ n0 oa D s args below M h0 Z) (F0 m (pc + 1) fl (st.map (x_cv n0 oa h))) := by
      intro H' g1 g2 g3
      refine hq _ hf H' _ fl (x_stored hR hK hj rfl rfl rfl rfl (fun K' k' j' ho => x_cf_putr (fun z => x_o_ne_a ho hK z.1.symm)) (fun K' j' i' _ _ z => x_ae_putr z) ?_ ?_ ?_ g1 g2 g3) (hle.tr hl) (hL.le hl h1) (x_lvs_le hl h1) (x_lvs_le hl (x_tl (x_tl (x_tl h2)))) (hS.put g2 g3 (Nat.le_add_right _ _)) hc hs
      · unfold x_ae
        rw [if_neg hn21, if_neg (by rw [he]; exact hT0), he]
        show x_cr n0 oa h t' (x_u3 (x_vr h) t j i.toNatClampNeg j' t j i.toNatClampNeg) = _
        unfold x_u3
        rw [if_pos ⟨rfl, rfl, rfl⟩]
      · intro K9 j9 k9 a9 b9
        show x_u3 (x_vr h) t j i.toNatClampNeg j' K9 k9 j9 ≤ _
        unfold x_u3
        rw [if_neg (fun z => x_o_ne_a a9 hK z.1.symm)]
        exact hR.2.2.2.2.1 K9 j9 k9 a9 b9
      · intro K9 j9 i9 a9 b9
        show x_u3 (x_vr h) t j i.toNatClampNeg j' K9 j9 i9 ≤ _
        unfold x_u3
        by_cases z : K9 = t ∧ j9 = j ∧ i9 = i.toNatClampNeg
        · rw [if_pos z, z.1, he]; exact hv2
        · rw [if_neg z]; exact hR.2.2.2.2.2.1 K9 j9 i9 a9 b9
    by_cases hz : j' = 0
    · have e9 : x_cr n0 oa h t' j' = .null := by unfold x_cr; rw [if_pos hz]
      rw [show x_cv n0 oa h (.inr (.inr (t', j'))) = .null from e9]
      rw [e9] at fin
      exact va_WaastN (C := xk_C t') hx hb q2 (hKt.1 _ _) (fun h => by cases h) (by rw [arrV_size]; exact hin') rfl rfl hd fin
    · have hlv : x_live h t' j' := ⟨by omega, hv2⟩
      have e9 : x_cr n0 oa h t' j' = .ref (n0 + x_ad h t' j') := x_cr_in (Or.inl hT) hlv
      rw [show x_cv n0 oa h (.inr (.inr (t', j'))) = _ from e9]
      rw [e9] at fin
      obtain ⟨-, cellV, p1, p2, p3, -⟩ := hR.2.1 t' j' hT hlv
      have hcls := (hKn.1 t' hT).2
      obtain ⟨kA, comp, k1, k2, k3, -⟩ := hKt.2
      have hcomp : comp = D.1 t' := Option.some.inj (k3.symm.trans hcls.1)
      subst hcomp
      obtain ⟨kC, hkC, -⟩ := hcls.2
      exact W.aast hx hb q2 (fun q h => by cases h) (fun h => by cases h) k1 k2 rfl hkC ⟨fun z => hin' (Or.inl z), by rw [arrV_size]; exact hlt⟩ p1 (fun q h => by rw [p3] at h; cases h) (by rw [p2]; exact hkC) (by rw [p2]; exact va_assign hcls) rfl rfl hd fin
  · exact hf.elim
end XS3
end
section
/-! SOUND INSTRUCTIONS: making cells, ends, calls -/
section XS4
variable {xm : Nat → xM} {M : xM} {pc : Nat}
theorem x_S_grow {A : Nat → Prop} {H0 H H1 : Heap} {locs : List Loc} (hS : va_S A H0 H locs) (z1 : H.size ≤ H1.size) (o1 : ∀ q, q < H.size → H1[q]? = H[q]?) : va_S A H0 H1 locs :=
  ⟨Nat.le_trans hS.1 z1, fun x a b => (o1 x (Nat.lt_of_lt_of_le a hS.1)).trans (hS.2.1 x a b), hS.2.2⟩
theorem x_def_int {ty : FieldType} (h : ty = .int ∨ ty = .boolean) : defaultValue ty = .int 0 := by rcases h with rfl | rfl <;> rfl
theorem x_def_ref {ty : FieldType} (h : ty.isReference = true) : defaultValue ty = .null := by cases ty <;> first | rfl | (cases h)
theorem xk_ftd : ∀ K, xk_o K → ∀ k, k < xk_N K → (x_ft K k = 0 → defaultValue (xk_ty K k) = .int 0) ∧ (x_ft K k ≠ 0 → defaultValue (xk_ty K k) = .null) := by
  refine xk_cases ?_ ?_ ?_ ?_ ?_ ?_ ?_ ?_ <;> decide +kernel
theorem snd_new {K N idx bc bs : Nat} (hK : xk_o K) (hN : xk_N K = N) (hbc : bc = M.mc) (hbs : bs = M.ms) (hc1 : Cond.classLink M.own idx (xk_C K) ∈ x_big) (hc2 : Cond.instantiable (xk_C K) N ∈ x_big) (hc3 : Cond.initialized (xk_C K) ∈ x_big) (hd : decode M.cd pc = .ok (.new idx, 3)) : x_Snd xm M pc (pc + 3) (x_newo K N bc bs) := by
  rintro n0 oa D p l e R s m args below meth c Γ Z J q h0 ⟨ls, st, h⟩ C - hf hq - H locs fl hR hle hL h1 h2 hS hc hs
  obtain ⟨hx, hb, -, hown, hts, -, -, -, -, hKn, -, -, hRm, -⟩ := C
  unfold x_newo at hf
  dsimp only at hf hR hle hL h1 h2 hc hs ⊢
  obtain ⟨b1, b2, hf⟩ := hf
  subst hN; subst hbc; subst hbs; subst hRm
  refine W.newcK hx hb hown (hts _ hc1) (hts _ hc2) (hts _ hc3) rfl hd b1 b2 (hKn.1 K hK).2.1 rfl fun H1 kC hkC e1 z1 o1 => ?_
  have hl := x_le.new (h := h) (K := K) (N := xk_N K) (x_o_ne10 hK)
  have hR1 : x_Rep n0 oa D (x_new h K (xk_N K)) H1 := by
    refine hR.new hK z1 o1 ((u_born (xk_ty K) hts (xk_in K hK) (hKn.1 K hK) hkC e1 (xk_tyok K hK)).to fun k hk => ?_)
    have hft := xk_ftd K hK k hk
    unfold x_cf
    by_cases e9 : x_ft K k = 0
    · rw [if_pos e9, hft.1 e9]
      show _ = Value.int (if K = K ∧ x_cn h K + 1 = x_cn h K + 1 then 0 else x_vi h K k (x_cn h K + 1))
      rw [if_pos ⟨rfl, rfl⟩]
    · rw [if_neg e9, hft.2 e9]
      show _ = x_cr n0 oa _ _ (if K = K ∧ x_cn h K + 1 = x_cn h K + 1 then 0 else x_vr h K k (x_cn h K + 1))
      rw [if_pos ⟨rfl, rfl⟩]
      rfl
  have hlv : x_live (x_new h K (xk_N K)) K (x_cn h K + 1) := ⟨by omega, by rw [x_new_cn, if_pos rfl]; exact Nat.le_refl _⟩
  have e9 : x_cr n0 oa (x_new h K (xk_N K)) K (x_cn h K + 1) = .ref H.size := by
    rw [x_cr_in (Or.inl hK) hlv]
    show Value.ref (n0 + x_u2 (x_ad h) K (x_cn h K + 1) (x_sz h) K (x_cn h K + 1)) = _
    unfold x_u2
    rw [if_pos ⟨rfl, rfl⟩, hR.1]
  have := hq _ hf H1 locs fl hR1 (hle.tr hl) (hL.le hl h1) (x_lvs_le hl h1) (x_lvs_cons hlv.2 (x_lvs_le hl h2)) (x_S_grow hS (by omega) o1) b1 b2
  rw [List.map_cons, show x_cv n0 oa (x_new h K (xk_N K)) (.inr (.inr (K, x_cn h K + 1))) = _ from e9, x_cvs_le hl h2] at this
  exact this
theorem x_newa_done {n0 : Nat} {oa : Nat → Nat → Nat} {D : (Nat → ClassId) × (Nat → Nat → Nat) × (Nat → ClassId)} {h : xH} {H H1 : Heap} {K n : Nat} (hR : x_Rep n0 oa D h H) (hK : xk_a K) (h21 : K ≠ 21) {v : Value} (hv : (x_et K = 0 ∧ v = .int 0) ∨ (x_et K ≠ 0 ∧ v = .null))
    (e1 : H1[H.size]? = some (arrV (D.2.2 K) n (fun _ => v))) (z1 : H1.size = H.size + 1) (o1 : ∀ q, q < H.size → H1[q]? = H[q]?) :
    x_Rep n0 oa D (x_newa h K n) H1 ∧ x_live (x_newa h K n) K (x_cn h K + 1) ∧ x_cr n0 oa (x_newa h K n) K (x_cn h K + 1) = .ref H.size := by
  have hlv : x_live (x_newa h K n) K (x_cn h K + 1) := ⟨by omega, by rw [x_newa_cn, if_pos rfl]; exact Nat.le_refl _⟩
  refine ⟨hR.newa hK (fun z => absurd z h21) z1 o1 ?_, hlv, ?_⟩
  · rw [e1]
    refine congrArg some (congrArg (arrV _ _) (funext fun i => ?_))
    unfold x_ae
    rw [if_neg h21]
    rcases hv with ⟨e9, rfl⟩ | ⟨e9, rfl⟩
    · rw [if_pos e9]
      show _ = Value.int (if K = K ∧ x_cn h K + 1 = x_cn h K + 1 then 0 else x_vi h K (x_cn h K + 1) i)
      rw [if_pos ⟨rfl, rfl⟩]
    · rw [if_neg e9]
      show _ = x_cr n0 oa _ _ (if K = K ∧ x_cn h K + 1 = x_cn h K + 1 then 0 else x_vr h K (x_cn h K + 1) i)
      rw [if_pos ⟨rfl, rfl⟩]
      rfl
  · rw [x_cr_in (Or.inr hK) hlv]
    show Value.ref (n0 + x_u2 (x_ad h) K (x_cn h K + 1) (x_sz h) K (x_cn h K + 1)) = _
    unfold x_u2
    rw [if_pos ⟨rfl, rfl⟩, hR.1]
theorem x_nn {n : Int32} (h : 0 ≤ n.toInt) : ¬ n < 0 := by
  intro q
  have := Int32.lt_iff_toInt_lt.mp q
  have e0 : (0 : Int32).toInt = 0 := rfl
  omega
theorem x_clamp {n : Int32} (h : 0 ≤ n.toInt) : (n.toNatClampNeg : Int) = n.toInt := by
  have : n.toNatClampNeg = n.toInt.toNat := rfl
  omega
/-- newarray of ints or booleans -/
theorem snd_newr {K bc bs : Nat} {at9 : ArrayType} (hK : xk_a K) (h21 : K ≠ 21) (hty : newarray.typeOf at9 = xk_ety K) (hib : xk_ety K = .int ∨ xk_ety K = .boolean) (he : x_et K = 0) (hbc : bc = M.mc) (hbs : bs = M.ms) (hc1 : Cond.arrayClass (newarray.typeOf at9) ∈ x_big) (hd : decode M.cd pc = .ok (.newarray at9, 2)) : x_Snd xm M pc (pc + 2) (x_newr K bc bs) := by
  rintro n0 oa D p l e R s m args below meth c Γ Z J q h0 ⟨ls, st, h⟩ C - hf hq - H locs fl hR hle hL h1 h2 hS hc hs
  obtain ⟨hx, hb, -, hown, hts, -, -, -, -, hKn, -, -, hRm, -⟩ := C
  unfold x_newr at hf
  dsimp only at hf hR hle hL h1 h2 hc hs ⊢
  split at hf
  · rename_i n st
    obtain ⟨n1, n2, b1, b2, hf⟩ := hf
    subst hbc; subst hbs; subst hRm
    have hcl := x_clamp n1
    refine va_newaK hx hb (hts _ hc1) rfl hd rfl (x_nn n1) rfl (by have : componentBytes (newarray.typeOf at9) ≤ 8 := (by cases at9 <;> decide); have := Nat.mul_le_mul_left n.toNatClampNeg this; omega) b1 b2 rfl fun H1 cA e1 z1 o1 hAr hNm => ?_
    have hcA : cA = D.2.2 K := by
      have h9 := (hKn.2 K hK).2
      rw [hty] at hNm
      rcases hib with e | e <;> (rw [e] at h9 hNm; exact Option.some.inj (hNm.symm.trans h9))
    subst hcA
    rw [hty, x_def_int hib] at e1
    obtain ⟨hR1, hlv, e9⟩ := x_newa_done (K := K) hR hK h21 (Or.inl ⟨he, rfl⟩) e1 z1 o1
    have hl := x_le.newa (h := h) (n := n.toNatClampNeg) (x_a_ne10 hK)
    have := hq _ hf H1 locs fl hR1 (hle.tr hl) (hL.le hl h1) (x_lvs_le hl h1) (x_lvs_cons hlv.2 (x_lvs_le hl (x_tl h2))) (x_S_grow hS (by omega) o1) b1 b2
    rw [List.map_cons, show x_cv n0 oa _ (.inr (.inr (K, x_cn h K + 1))) = _ from e9, x_cvs_le hl (x_tl h2)] at this
    exact this
  · exact hf.elim
/-- anewarray -/
theorem snd_newq {K T idx bc bs : Nat} (hK : xk_a K) (h21 : K ≠ 21) (hT : xk_o T) (hty : xk_ety K = .object (xk_C T)) (he : x_et K = T) (hbc : bc = M.mc) (hbs : bs = M.ms) (hc1 : Cond.classLink M.own idx (xk_C T) ∈ x_big) (hc2 : xk_C T ∈ x_aol) (hd : decode M.cd pc = .ok (.anewarray idx, 3)) : x_Snd xm M pc (pc + 3) (x_newr K bc bs) := by
  rintro n0 oa D p l e R s m args below meth c Γ Z J q h0 ⟨ls, st, h⟩ C - hf hq - H locs fl hR hle hL h1 h2 hS hc hs
  obtain ⟨hx, hb, -, hown, hts, -, -, -, -, hKn, hSt, -, hRm, -⟩ := C
  unfold x_newr at hf
  dsimp only at hf hR hle hL h1 h2 hc hs ⊢
  split at hf
  · rename_i n st
    obtain ⟨n1, n2, b1, b2, hf⟩ := hf
    subst hbc; subst hbs; subst hRm
    have hcl := x_clamp n1
    have hT0 : T ≠ 0 := by simp only [xk_o] at hT; omega
    refine W.anew hx hb hown (hts _ hc1) (va_AO.use (hSt.2.2.2.2.2.2.2.2.2.1 _ hc2)) rfl hd rfl (x_nn n1) (by omega) b1 b2 fun cA kA comp f1 f2 f3 f4 => ?_
    have hcA : cA = D.2.2 K := by
      have h9 := (hKn.2 K hK).2
      rw [hty] at h9
      obtain ⟨_, _, _, _, _, h9⟩ := h9
      exact Option.some.inj (f1.symm.trans h9)
    subst hcA
    generalize hH1 : H.push ({ cls := D.2.2 K, slots := Array.replicate n.toNatClampNeg .null, vm := .none } : Cell) = H1
    have z1 : H1.size = H.size + 1 := by rw [← hH1, Array.size_push]
    have e1 : H1[H.size]? = some (arrV (D.2.2 K) n.toNatClampNeg (fun _ => .null)) := by rw [← hH1, Array.getElem?_push_size, ← arrV_new]
    have o1 : ∀ q, q < H.size → H1[q]? = H[q]? := fun q hq => by rw [← hH1, Array.getElem?_push_lt hq, Array.getElem?_eq_getElem hq]
    obtain ⟨hR1, hlv, e9⟩ := x_newa_done (K := K) hR hK h21 (Or.inr ⟨by rw [he]; exact hT0, rfl⟩) e1 z1 o1
    have hl := x_le.newa (h := h) (n := n.toNatClampNeg) (x_a_ne10 hK)
    have := hq _ hf H1 locs fl hR1 (hle.tr hl) (hL.le hl h1) (x_lvs_le hl h1) (x_lvs_cons hlv.2 (x_lvs_le hl (x_tl h2))) (x_S_grow hS (by omega) o1) b1 b2
    rw [List.map_cons, show x_cv n0 oa _ (.inr (.inr (K, x_cn h K + 1))) = _ from e9, x_cvs_le hl (x_tl h2)] at this
    exact this
  · exact hf.elim
theorem snd_objinit {idx : Nat} (hc1 : Cond.methodLink M.own idx Lib.objectInit ∈ x_big) (hc2 : Cond.instanceMethod Lib.objectInit ∈ x_big) (hc3 : Cond.code Lib.objectInit ⟨#[0xb1]⟩ 1 none ∈ x_big) (hfr : 1 ≤ M.fr) (hlo : 20 ≤ M.lo) (hd : decode M.cd pc = .ok (.invokespecial idx, 3)) : x_Snd xm M pc (pc + 3) x_objinit := by
  rintro n0 oa D p l e R s m args below meth c Γ Z J q h0 ⟨ls, st, h⟩ C - hf hq - H locs fl hR hle hL h1 h2 hS hc hs
  obtain ⟨hx, hb, hml, hown, hts, -, -, -, -, hKn, -, -, hRm, -⟩ := C
  unfold x_objinit at hf
  dsimp only at hf hR hle hL h1 h2 hc hs ⊢
  split at hf
  · rename_i t j st
    obtain ⟨t1, t2, t3, hf⟩ := hf
    subst hRm
    have e9 : x_cr n0 oa h t j = .ref (x_addr n0 oa h t j) := by unfold x_cr; rw [if_neg (by omega)]
    rw [List.map_cons, show x_cv n0 oa h (.inr (.inr (t, j))) = _ from e9]
    refine W.objInit hx hb hown (hts _ hc1) (hts _ hc2) (hts _ hc3) rfl (by rw [hml]; exact hL.2.1) rfl hd hfr (by have := x_cats_eq (n0 := n0) (oa := oa) (h := h) st; show 2 * 0 + _ + 12 ≤ M.lo; omega) ?_
    exact hq _ hf H locs fl hR hle hL h1 (x_tl h2) hS hc hs
  · exact hf.elim
theorem x_fl {n0 : Nat} {s : State} {H : Heap} {locs : List Loc} (hS : va_S (fun q => n0 ≤ q) s.heap H locs) : ∀ q ∈ locs, (fun q : Nat => n0 ≤ q) q.base := hS.2.2
theorem snd_ret (hrt : M.rt = none) (hd : decode M.cd pc = .ok (.return_, 1)) : x_Snd xm M pc (pc + 1) x_ret := by
  rintro n0 oa D p l e R s m args below meth c Γ Z J q h0 ⟨ls, st, h⟩ C - hf - - H locs fl hR hle hL h1 h2 hS hc hs
  obtain ⟨hx, hb, hml, hown, hts, hr, hlocks, -⟩ := C
  unfold x_ret at hf
  dsimp only at hf hR hle hL h1 h2 hc hs ⊢
  split at hf
  · refine W.widen hc hs (vx_ret (W.vret hx hb (hr.trans hrt) (fun t ht hW => ?_) (x_fl hS) hd hlocks))
    exact ⟨none, h, hf, rfl, by rw [ht]; exact hR, hle, (fun w hw => by cases hw), hS.F ht⟩
  · exact hf.elim
theorem snd_iret (hrt : M.rt = some .int) (hd : decode M.cd pc = .ok (.ireturn, 1)) : x_Snd xm M pc (pc + 1) x_iret := by
  rintro n0 oa D p l e R s m args below meth c Γ Z J q h0 ⟨ls, st, h⟩ C - hf - - H locs fl hR hle hL h1 h2 hS hc hs
  obtain ⟨hx, hb, hml, hown, hts, hr, hlocks, -⟩ := C
  unfold x_iret at hf
  dsimp only at hf hR hle hL h1 h2 hc hs ⊢
  split at hf
  · rename_i n
    refine W.widen hc hs (vx_ret (W.iret hx hb (hr.trans hrt) (fun t ht hW => ?_) (x_fl hS) hd hlocks))
    exact ⟨some (.inl n), h, hf, rfl, by rw [ht]; exact hR, hle, fun w hw => by cases hw; trivial, hS.F ht⟩
  · exact hf.elim
theorem snd_zret (hrt : M.rt = some .boolean) (hd : decode M.cd pc = .ok (.ireturn, 1)) : x_Snd xm M pc (pc + 1) x_zret := by
  rintro n0 oa D p l e R s m args below meth c Γ Z J q h0 ⟨ls, st, h⟩ C - hf - - H locs fl hR hle hL h1 h2 hS hc hs
  obtain ⟨hx, hb, hml, hown, hts, hr, hlocks, -⟩ := C
  unfold x_zret at hf
  dsimp only at hf hR hle hL h1 h2 hc hs ⊢
  split at hf
  · rename_i n
    refine W.widen hc hs (vx_ret (W.zret hx hb (hr.trans hrt) (by rcases hf.1 with rfl | rfl <;> rfl) (fun t ht hW => ?_) (x_fl hS) hd hlocks))
    exact ⟨some (.inl n), h, hf.2, rfl, by rw [ht]; exact hR, hle, fun w hw => by cases hw; trivial, hS.F ht⟩
  · exact hf.elim
theorem snd_aret {T : Nat} {rt : FieldType} (hrt : M.rt = some rt) (hrr : (∃ n, rt = .object n) ∨ ∃ t, rt = .array t) (hd : decode M.cd pc = .ok (.areturn, 1)) : x_Snd xm M pc (pc + 1) (x_aret T) := by
  rintro n0 oa D p l e R s m args below meth c Γ Z J q h0 ⟨ls, st, h⟩ C - hf - - H locs fl hR hle hL h1 h2 hS hc hs
  obtain ⟨hx, hb, hml, hown, hts, hr, hlocks, -⟩ := C
  unfold x_aret at hf
  dsimp only at hf hR hle hL h1 h2 hc hs ⊢
  split at hf
  · rename_i t j
    refine W.widen hc hs (vx_ret (W.aret hx hb (hr.trans hrt) hrr (x_cr_or n0 oa h t j) (fun t' ht hW => ?_) (x_fl hS) hd hlocks))
    exact ⟨some (.inr (.inr (t, j))), h, hf.2, rfl, by rw [ht]; exact hR, hle, fun w hw => by cases hw; exact h2 _ List.mem_cons_self, hS.F ht⟩
  · exact hf.elim
end XS4
end
section
/-! SOUND INSTRUCTIONS: throws and calls -/
theorem x_goodIn {l : List Cond} (h : ∀ w ∈ l, w ∈ x_big) : GoodIn x_big l := fun w hw => ⟨h w hw, good_of_word (List.mem_filter.mp (h w hw)).2⟩
theorem x_ws_in {M : xM} (h : Cond.code M.y M.cd M.mL M.rt ∈ x_big) : ∀ w ∈ x_ws M, w ∈ x_big := fun w hw => (List.mem_cons.mp hw).elim (fun e => e ▸ h) id
theorem x_Pc_blind {n0 : Nat} {oa : Nat → Nat → Nat} {D : (Nat → ClassId) × (Nat → Nat → Nat) × (Nat → ClassId)} {a : List xV} {h : xH} : FrameBlind (x_Pc n0 oa D a h) := by
  intro args U g mk ⟨q1, q2, q3, q4, q5⟩
  exact ⟨q1, q2, x_K.moved (u := U) (U := U.calling g mk args) (Vm.Alike.refl U.vm) q3, x_St.moved (u := U) (U := U.calling g mk args) (State.WarmedH.refl U) q4, q5⟩
section XS5
variable {xm : Nat → xM} {M : xM} {pc : Nat}
theorem snd_throw {E ik ic bc bs : Nat} (hbc : bc = M.mc) (hbs : bs = M.ms) (hfr : 6 ≤ M.fr) (hlo : 89 ≤ M.lo) (hcls : Bundle.fit (x_en E) = true) (hnames : ∀ n ∈ x_chain, Bundle.fit n = true)
    (hk : Cond.classLink M.own ik (x_en E) ∈ x_big) (hini : Cond.initialized (x_en E) ∈ x_big) (h1g : ∀ w ∈ (vx_at0 M.own ic (x_en E) x_chain).filter goodWord, w ∈ x_big) (h2g : ∀ w ∈ (vx_at0 M.own ic (x_en E) x_chain).filter (fun w => !goodWord w), w ∈ Cond.castable (x_en E) (x_en E) :: x_nw)
    (hgood : ∀ w ∈ Cond.classLink M.own ik (x_en E) :: Cond.initialized (x_en E) :: vx_at0 M.own ic (x_en E) x_chain, vx_ot w = true)
    (d0 : decode M.cd pc = .ok (.new ik, 3)) (d3 : decode M.cd (pc + 3) = .ok (.dup, 1)) (d4 : decode M.cd (pc + 4) = .ok (.invokespecial ic, 3)) (d7 : decode M.cd (pc + 7) = .ok (.athrow, 1)) {nx : Nat} : x_Snd xm M pc nx (x_throw E bc bs) := by
  rintro n0 oa D p l e R s m args below meth c Γ Z J q h0 ⟨ls, st, h⟩ C - hf - - H locs fl hR hle hL h1 h2 hS hc hs
  obtain ⟨hx, hb, hml, hown, hts, hr, hlocks, -, htab, hKn, hSt, hn0, hRm, hl⟩ := C
  unfold x_throw at hf
  dsimp only at hf hR hle hL h1 h2 hc hs ⊢
  obtain ⟨t1, t2, t3, hf⟩ := hf
  subst hbc; subst hbs; subst hRm
  have hcats := x_cats_eq (n0 := n0) (oa := oa) (h := h) st
  refine vx_throw0 (names := x_chain) (A := fun q => n0 ≤ q) hx hb hl hown hcls hnames (hts _ hk) (hts _ hini) (vx_hat (B := Cond.castable (x_en E) (x_en E) :: x_nw) (fun w hw => hts w (h1g w hw)) h2g (fun w hw => ?_)) hgood hSt.2.2.1 hSt.2.2.2.1 hS (by rw [hml]; exact hL.2.1) d0 d3 d4 d7 (by rw [htab]; exact fun x hx => nomatch hx) ?_ ?_ t2 t3 hlocks (fun t hal hz ho => ?_) (x_fl hS) t2 t3
  · rcases List.mem_cons.mp hw with rfl | hw
    · exact va_Nw.use rfl (hSt.2.2.2.2.2.2.2.1 E)
    · have h9 := hSt.2.2.2.2.2.2.1 w hw
      simp only [x_nw, List.mem_cons, List.not_mem_nil, or_false] at hw
      rcases hw with rfl | rfl | rfl <;> exact va_Nw.use rfl h9
  · show 2 + 3 < M.fr
    omega
  · show _ + (13 * (2 + 1) + 42) ≤ M.lo
    omega
  · refine ⟨E, x_exc h (t.heap.size - H.size), hf _, rfl, ?_, hle.tr x_le.exc, ?_⟩
    · obtain ⟨a1, a2, a3, a4, a5, a6, a7⟩ := hR
      refine ⟨?_, fun K j hK hj => ?_, fun K j hK hj => ?_, a4, a5, a6, a7⟩
      · show t.heap.size = n0 + (x_sz h + (t.heap.size - H.size))
        omega
      · have q9 := a2 K j hK hj
        exact ⟨Nat.lt_of_lt_of_le q9.1 (Nat.le_add_right _ _), q9.2.kept (ho _ (by have := q9.1; omega))⟩
      · have q9 := a3 K j hK hj
        exact ⟨Nat.lt_of_lt_of_le q9.1 (Nat.le_add_right _ _), (ho (n0 + x_ad h K j) (by have := q9.1; omega)).trans q9.2⟩
    · exact ⟨Nat.le_trans hS.1 hz, fun x a b => (ho x (Nat.lt_of_lt_of_le a hS.1)).trans (hS.2.1 x a b)⟩
/-- behind a call -/
theorem x_after {n0 : Nat} {oa : Nat → Nat → Nat} {D : (Nat → ClassId) × (Nat → Nat → Nat) × (Nat → ClassId)} {p : Program} {l : Launch} {e : Env} {R : Room} {s : State} {m : MethodId} {args : Array Value} {below : List Frame} {meth : Method} {c : Code} {h0 : xH} {Z Zc : xO → xH → Prop}
    (C : x_Cx n0 oa D M h0 p l R s m args meth c) {h : xH} {H : Heap} {locs : List Loc} {fl : Array Slot} {ls rest : List xV} {st0 : List Value} {mc ms : Nat}
    (hR : x_Rep n0 oa D h H) (hle : x_le h0 h) (hL : x_Loc (x_cv n0 oa h) fl M.mL ls) (h1 : ∀ v ∈ ls, x_lv h v) (h2 : ∀ v ∈ rest, x_lv h v) (hS : va_S (fun q => n0 ≤ q) s.heap H locs) (b1 : x_ce h + mc ≤ M.mc) (b2 : x_so h + ms ≤ M.ms)
    (hrun : vx_Run p l e R s m args below meth c H locs (x_ce h) (x_so h) mc ms (F0 m pc fl st0) (rest.map (x_cv n0 oa h)) (fun st o t => x_Qc n0 oa D (x_setc h 0 0) Zc #[] st o t) (x_XC n0 oa D (x_setc h 0 0) Zc) (fun q => n0 ≤ q))
    (kq : ∀ v h1, Zc (.inl v) h1 → x_At n0 oa D p l e R s m args below meth c M h0 (x_MQ n0 oa D s args below M h0 Z) (pc + 3) (ls, v.toList ++ rest, x_setc h1 (x_ce h + mc) (x_so h + ms)))
    (kx : ∀ k h1, Zc (.inr k) h1 → Z (.inr k) (x_setc h1 (x_ce h + mc) (x_so h + ms))) :
    W p l e R s m args below meth c H locs (x_ce h) (x_so h) (x_MQ n0 oa D s args below M h0 Z) (F0 m pc fl st0) := by
  obtain ⟨hx, hb, hml, hown, hts, hr, hlocks, -, htab, hKn, hSt, hn0, hRm, hl⟩ := C
  intro T hT X
  rcases hrun T hT X with ⟨v, st₀, t, T', L, e0, X', hL', e1, e2, ⟨v', h9, hz, ho, hR1, hle1, hlv, hF⟩, go⟩ | ⟨q, st₀, t, T', L, E, ce, e0, X', hL', e1, e2, ⟨k, h9, hz, hE, hR1, hle1, hF⟩, hce, hcv, hcl, go⟩
  · have hv : v = v'.map (x_cv n0 oa h9) := by cases ho; rfl
    subst hv
    have hl9 : x_le h h9 := x_le.tr x_le.setc hle1
    have hl8 : x_le h (x_setc h9 (x_ce h + mc) (x_so h + ms)) := hl9.tr x_le.setc
    obtain ⟨hz1, hk1⟩ := hF
    rw [e0] at hz1 hk1
    have hS1 : va_S (fun q => n0 ≤ q) s.heap T'.heap (locs ++ L) := ⟨Nat.le_trans hS.1 (by rw [e1]; exact hz1), fun x a b => by rw [e1, hk1 x (Nat.lt_of_lt_of_le a hS.1) b]; exact hS.2.1 x a b, fun x hx => (List.mem_append.mp hx).elim (hS.2.2 x) (hL' x)⟩
    have := kq v' h9 hz T'.heap (locs ++ L) fl (by rw [e1]; exact hR1) (hle.tr hl8) (hL.le hl8 h1) (x_lvs_le hl8 h1) (fun w hw => (List.mem_append.mp hw).elim (fun h => hlv w (Option.mem_toList.mp h)) (fun h => x_lvs_le hl8 h2 w h)) hS1 b1 b2 T' rfl X'
    obtain ⟨t2, c1, c2⟩ := this
    refine ⟨t2, go t2 ?_, c2⟩
    have e9 : (v'.toList ++ rest).map (x_cv n0 oa (x_setc h9 (x_ce h + mc) (x_so h + ms))) = (v'.map (x_cv n0 oa h9)).toList ++ rest.map (x_cv n0 oa h) := by
      rw [List.map_append, x_cvs_le hl8 h2]
      cases v' <;> rfl
    dsimp only at c1
    rw [e9] at c1
    exact c1
  · have hl9 : x_le h h9 := x_le.tr x_le.setc hle1
    obtain ⟨hz1, hk1⟩ := hF
    rw [e0] at hz1 hk1
    have hS1 : va_S (fun q => n0 ≤ q) s.heap T'.heap (locs ++ L) := ⟨Nat.le_trans hS.1 (by rw [e1]; exact hz1), fun x a b => by rw [e1, hk1 x (Nat.lt_of_lt_of_le a hS.1) b]; exact hS.2.1 x a b, fun x hx => (List.mem_append.mp hx).elim (hS.2.2 x) (hL' x)⟩
    have hout := vx_out (p := p) (l := l) (e := e) (R := R) (s := s) (m := m) (args := args) (below := below) (meth := meth) (c := c) (H := T'.heap) (locs := locs ++ L) (cells := x_ce h + mc) (slots := x_so h + ms) (ls := fl) (rest := rest.map (x_cv n0 oa h)) (Qc := x_Qc n0 oa D h0 Z) (XC := x_XC n0 oa D h0 Z) (free := fun q => n0 ≤ q) (pc := pc) (E := E) (ce := ce) (q := q) (mc := M.mc) (ms := M.ms)
      (by rw [htab]; exact fun x hx => nomatch hx) hlocks (by rw [e1]; exact hce) hcv hcl (fun t9 ht9 hal => ⟨k, x_setc h9 (x_ce h + mc) (x_so h + ms), kx k h9 hz, hE, by rw [ht9, e1]; exact hR1, hle.tr (hl9.tr x_le.setc), hS1.F ht9⟩) (x_fl hS1) b1 b2
    obtain ⟨t2, c1, c2⟩ := hout T' rfl X'
    exact ⟨t2, go.trans c1, c2⟩
theorem x_take_drop {st : List xV} {n : Nat} : st = ((st.take n).reverse).reverse ++ st.drop n := by rw [List.reverse_reverse, List.take_append_drop]
theorem snd_calls {y n mc ms bc bs idx : Nat} {M' : xM} (hy : xm y = M') (hmc : mc = M'.mc) (hms : ms = M'.ms) (hbc : bc = M.mc) (hbs : bs = M.ms) (w1 : Cond.code M'.y M'.cd M'.mL M'.rt ∈ x_big) (w2 : Cond.methodLink M.own idx M'.y ∈ x_big) (w3 : Cond.static M'.y ∈ x_big) (w4 : Cond.initialized M'.y.cls ∈ x_big)
    (hd0 : M'.y.cls ≠ "java/lang/invoke/MethodHandle" ∧ M'.y.cls ≠ "java/lang/invoke/VarHandle" ∧ (parseMethodDescriptor M'.y.desc).map (fun d => d.parameters.length) = some n) (hfr : M'.fr + 1 ≤ M.fr) (hlo : 8 + (M'.mL + 11) + M'.lo ≤ M.lo)
    (hd : decode M.cd pc = .ok (.invokestatic idx, 3)) : x_Snd xm M pc (pc + 3) (x_call y n mc ms bc bs) := by
  rintro n0 oa D p l e R s m args below meth c Γ Z J q h0 ⟨ls, st, h⟩ C hΓ hf hq - H locs fl hR hle hL h1 h2 hS hc hs
  unfold x_call at hf
  dsimp only at hf hR hle hL h1 h2 hc hs ⊢
  obtain ⟨t1, t2, t3, t4, hf⟩ := hf
  have hcon := hΓ _ _ _ _ hf
  rw [hy] at hcon
  subst hmc; subst hms; subst hbc; subst hbs
  obtain ⟨hx, hb, hml, hown, hts, hr, hlocks, hini, htab, hKn, hSt, hn0, hRm, hl⟩ := id C
  have hlv : ∀ v ∈ (st.take n).reverse, x_lv (x_setc h 0 0) v := fun v hv => h2 v (List.mem_of_mem_take (List.mem_reverse.mp hv))
  have hM := hcon l hl hlv
  refine x_after (Zc := fun o h9 => match o with
    | .inl v => q (ls, v.toList ++ st.drop n, x_setc h9 (x_ce h + M'.mc) (x_so h + M'.ms))
    | .inr k => Z (.inr k) (x_setc h9 (x_ce h + M'.mc) (x_so h + M'.ms))) C hR hle hL h1 (fun v hv => h2 v (List.mem_of_mem_drop hv)) hS t3 t4 ?_ (fun v h9 hz => hq _ hz) (fun k h9 hz => hz)
  refine vx_runS (n := n) (As := (st.take n).reverse.map (x_cv n0 oa h)) (Ts := x_big) (own := M.own) ⟨hx, hb, hml, hown, hts⟩ hM ⟨callB_of n hts (x_goodIn (x_ws_in w1)) rfl rfl rfl (hts _ w4) (hts _ w2) hd0 ⟨by rw [hRm]; exact hfr, by rw [hRm]; exact hlo⟩, hts _ w3⟩ ⟨x_Pc_blind, fun U hU hW => ?_⟩ rfl (by simp [t1]) hL.2.1 ?_ ?_ hd ⟨by rw [hRm]; exact t3, by rw [hRm]; exact t4⟩
  · refine ⟨rfl, by rw [hU]; exact hR, x_K.moved hW.alike hKn, ?_, by rw [hU]; exact Nat.le_trans hn0 hS.1⟩
    rw [hU]
    have e1 : x_ln (x_setc h 0 0) 10 1 = x_ln h0 10 1 := congrFun hle.2.2.2 1
    have e2 : x_vi (x_setc h 0 0) 10 1 = x_vi h0 10 1 := congrFun hle.2.2.1 1
    rw [e1, e2]
    exact x_St.moved hW (hSt.kept hn0 hS.2.1)
  · show st.map (x_cv n0 oa h) = _
    rw [← List.map_reverse, ← List.map_append, ← x_take_drop]
  · have := x_cats_eq (n0 := n0) (oa := oa) (h := h) (st.drop n)
    show 2 * 0 + _ ≤ 8
    omega
theorem x_head_drop {st : List xV} {n : Nat} (h1 : 1 ≤ n) (hn : n ≤ st.length) {v : xV} (hv : (st.drop (n - 1)).head? = some v) : (st.take n).reverse = v :: (st.take (n - 1)).reverse ∧ st = (st.take (n - 1)) ++ v :: st.drop n ∧ v ∈ st := by
  obtain ⟨k, rfl⟩ : ∃ k, n = k + 1 := ⟨n - 1, by omega⟩
  rw [Nat.add_sub_cancel] at hv ⊢
  have hlt : k < st.length := by omega
  rw [List.head?_drop, List.getElem?_eq_getElem hlt] at hv
  have hv := Option.some.inj hv
  refine ⟨?_, ?_, ?_⟩
  · rw [List.take_succ, List.getElem?_eq_getElem hlt, hv, List.reverse_append]
    rfl
  · rw [← hv, List.getElem_cons_drop, List.take_append_drop]
  · rw [← hv]; exact List.getElem_mem hlt
theorem snd_callv {K y n mc ms bc bs idx : Nat} {M' : xM} (hy : xm y = M') (hK : xk_o K) (hmc : mc = M'.mc) (hms : ms = M'.ms) (hbc : bc = M.mc) (hbs : bs = M.ms) (w1 : Cond.code M'.y M'.cd M'.mL M'.rt ∈ x_big) (w2 : Cond.methodLink M.own idx M'.y ∈ x_big) (w3 : Cond.instanceMethod M'.y ∈ x_big) (w4 : Cond.initialized M'.y.cls ∈ x_big) (w5 : Cond.selects (xk_C K) M'.y M'.y ∈ x_big)
    (hd0 : M'.y.cls ≠ "java/lang/invoke/MethodHandle" ∧ M'.y.cls ≠ "java/lang/invoke/VarHandle" ∧ (parseMethodDescriptor M'.y.desc).map (fun d => d.parameters.length) = some (n - 1)) (hfr : M'.fr + 1 ≤ M.fr) (hlo : 8 + (M'.mL + 11) + M'.lo ≤ M.lo)
    (hd : decode M.cd pc = .ok (.invokevirtual idx, 3)) : x_Snd xm M pc (pc + 3) (x_callv K y n mc ms bc bs) := by
  rintro n0 oa D p l e R s m args below meth c Γ Z J q h0 ⟨ls, st, h⟩ C hΓ hf hq - H locs fl hR hle hL h1 h2 hS hc hs
  unfold x_callv x_call at hf
  dsimp only at hf hR hle hL h1 h2 hc hs ⊢
  obtain ⟨hrecv, t1, t2, t3, t4, hf⟩ := hf
  have hcon := hΓ _ _ _ _ hf
  rw [hy] at hcon
  subst hmc; subst hms; subst hbc; subst hbs
  obtain ⟨hx, hb, hml, hown, hts, hr, hlocks, hini, htab, hKn, hSt, hn0, hRm, hl⟩ := id C
  split at hrecv
  · rename_i t j hhd
    obtain ⟨hn1, rfl, hj⟩ := hrecv
    obtain ⟨d1, d2, d3⟩ := x_head_drop hn1 t1 hhd
    have hlv : ∀ v ∈ (st.take n).reverse, x_lv (x_setc h 0 0) v := fun v hv => h2 v (List.mem_of_mem_take (List.mem_reverse.mp hv))
    have hM := hcon l hl hlv
    have e9 : x_cv n0 oa h (.inr (.inr (t, j))) = .ref (n0 + x_ad h t j) := x_cr_in (Or.inl hK) hj
    obtain ⟨-, cellB, p1, p2, p3, -⟩ := hR.2.1 t j hK hj
    refine x_after (Zc := fun o h9 => match o with
    | .inl v => q (ls, v.toList ++ st.drop n, x_setc h9 (x_ce h + M'.mc) (x_so h + M'.ms))
    | .inr k => Z (.inr k) (x_setc h9 (x_ce h + M'.mc) (x_so h + M'.ms))) C hR hle hL h1 (fun v hv => h2 v (List.mem_of_mem_drop hv)) hS t3 t4 ?_ (fun v h9 hz => hq _ hz) (fun k h9 hz => hz)
    refine vx_runV (n := n - 1) (As := (st.take (n - 1)).reverse.map (x_cv n0 oa h)) (b := n0 + x_ad h t j) (C := xk_C t) (Ts := x_big) (own := M.own) ⟨hx, hb, hml, hown, hts⟩ hM ⟨callB_of (n - 1) hts (x_goodIn (x_ws_in w1)) rfl rfl rfl (hts _ w4) (hts _ w2) hd0 ⟨by rw [hRm]; exact hfr, by rw [hRm]; exact hlo⟩, hts _ w3, hts _ w5⟩ ⟨x_Pc_blind, ⟨cellB, p1, by rw [p3]; rfl, by rw [p2]; exact (hKn.1 t hK).2.1⟩, fun U hU hW => ?_⟩ rfl (by simp; omega) hL.2.1 ?_ ?_ hd ⟨by rw [hRm]; exact t3, by rw [hRm]; exact t4⟩
    · refine ⟨?_, by rw [hU]; exact hR, x_K.moved hW.alike hKn, ?_, by rw [hU]; exact Nat.le_trans hn0 hS.1⟩
      · rw [d1, List.map_cons]
        show _ = (x_cv n0 oa h (.inr (.inr (t, j))) :: _).toArray
        rw [e9]
        rfl
      · rw [hU]
        have e1 : x_ln (x_setc h 0 0) 10 1 = x_ln h0 10 1 := congrFun hle.2.2.2 1
        have e2 : x_vi (x_setc h 0 0) 10 1 = x_vi h0 10 1 := congrFun hle.2.2.1 1
        rw [e1, e2]
        exact x_St.moved hW (hSt.kept hn0 hS.2.1)
    · show st.map (x_cv n0 oa h) = _
      rw [← List.map_reverse, List.reverse_reverse, ← e9, ← List.map_cons, ← List.map_append, ← d2]
    · have := x_cats_eq (n0 := n0) (oa := oa) (h := h) (st.drop n)
      show 2 * 0 + _ ≤ 8
      omega
  · exact hrecv.elim
theorem x_noThrow {l : Launch} {y : MethodName} {ws : List Cond} {rm : Room} {Pc : Array Value → State → Prop} {Qc : Array Value → State → Outcome → State → Prop} {XC : String → State → State → Prop} {mc ms : Nat} {free : Addr → Prop} (hX : ∀ E st t, ¬ XC E st t) (h : vx_Met l y ws rm Pc Qc XC mc ms free) : Met l y ws rm Pc Qc mc ms free := by
  intro p e a1 a2 a3 s m args below a4 a5 a6 a7
  obtain ⟨n, o, b1, b2, b3, b4⟩ := h p e a1 a2 a3 s m args below a4 a5 a6 a7
  refine ⟨n, o, b1, b2, b3, ?_⟩
  rcases b4 with b4 | ⟨q, -, E, ce, L, hx, -⟩
  · exact b4
  · exact (hX _ _ _ hx).elim
theorem snd_calli {y n mc ms bc bs idx : Nat} {M' : xM} (hy : xm y = M') (hmc : mc = M'.mc) (hms : ms = M'.ms) (hbc : bc = M.mc) (hbs : bs = M.ms) (hrt : M'.rt = none) (hnm : M'.y.name = "<init>") (w1 : Cond.code M'.y M'.cd M'.mL M'.rt ∈ x_big) (w2 : Cond.methodLink M.own idx M'.y ∈ x_big) (w3 : Cond.instanceMethod M'.y ∈ x_big) (w4 : Cond.initialized M'.y.cls ∈ x_big)
    (hd0 : M'.y.cls ≠ "java/lang/invoke/MethodHandle" ∧ M'.y.cls ≠ "java/lang/invoke/VarHandle" ∧ (parseMethodDescriptor M'.y.desc).map (fun d => d.parameters.length) = some (n - 1)) (hfr : M'.fr + 1 ≤ M.fr) (hlo : 8 + (M'.mL + 11) + M'.lo ≤ M.lo)
    (hd : decode M.cd pc = .ok (.invokespecial idx, 3)) : x_Snd xm M pc (pc + 3) (x_calli y n mc ms bc bs) := by
  rintro n0 oa D p l e R s m args below meth c Γ Z J q h0 ⟨ls, st, h⟩ C hΓ hf hq - H locs fl hR hle hL h1 h2 hS hc hs
  unfold x_calli at hf
  dsimp only at hf hR hle hL h1 h2 hc hs ⊢
  obtain ⟨t1, hn1, t2, t3, t4, hrecv, hf⟩ := hf
  have hcon := hΓ _ _ _ _ hf
  rw [hy] at hcon
  subst hmc; subst hms; subst hbc; subst hbs
  obtain ⟨hx, hb, hml, hown, hts, hr, hlocks, hini, htab, hKn, hSt, hn0, hRm, hl⟩ := id C
  split at hrecv
  · rename_i t j hhd
    obtain ⟨d1, d2, d3⟩ := x_head_drop hn1 t1 hhd
    have hlv : ∀ v ∈ (st.take n).reverse, x_lv (x_setc h 0 0) v := fun v hv => h2 v (List.mem_of_mem_take (List.mem_reverse.mp hv))
    have hM := x_noThrow (fun E st9 t9 hX => by obtain ⟨k, h9, hz, -⟩ := hX; exact hz) (hcon l hl hlv)
    have e9 : x_cv n0 oa h (.inr (.inr (t, j))) = .ref (x_addr n0 oa h t j) := by
      show x_cr n0 oa h t j = _
      unfold x_cr
      rw [if_neg (by omega)]
    refine x_after (Zc := fun o h9 => match o with
    | .inl v => q (ls, v.toList ++ st.drop n, x_setc h9 (x_ce h + M'.mc) (x_so h + M'.ms))
    | .inr _ => False) C hR hle hL h1 (fun v hv => h2 v (List.mem_of_mem_drop hv)) hS t3 t4 ?_ (fun v h9 hz => hq _ hz) (fun k h9 hz => hz.elim)
    rw [hrt] at w1
    have hws : x_ws M' = Cond.code M'.y M'.cd M'.mL none :: x_big := by unfold x_ws; rw [hrt]
    have hrun := va_runI (R := R) (n := n - 1) (As := (st.take (n - 1)).reverse.map (x_cv n0 oa h)) (rest := (st.drop n).map (x_cv n0 oa h)) (b := x_addr n0 oa h t j) (Ts := x_big) (own := M.own) (H := H) (locs := locs) (cells := x_ce h) (slots := x_so h) (e := e) (below := below) (meth := meth) (g := F0 m pc fl (st.map (x_cv n0 oa h))) ⟨hx, hb, hml, hown, hts⟩ hM ⟨callB_of (n - 1) hts (x_goodIn (x_ws_in (by rw [hrt]; exact w1))) hws rfl rfl (hts _ w4) (hts _ w2) hd0 ⟨by rw [hRm]; exact hfr, by rw [hRm]; exact hlo⟩, hnm, hts _ w3⟩ ⟨x_Pc_blind, fun U hU hW => ⟨by
        rw [d1, List.map_cons]
        show _ = (x_cv n0 oa h (.inr (.inr (t, j))) :: _).toArray
        rw [e9]
        rfl, by rw [hU]; exact hR, x_K.moved hW.alike hKn, by
        rw [hU]
        have e1 : x_ln (x_setc h 0 0) 10 1 = x_ln h0 10 1 := congrFun hle.2.2.2 1
        have e2 : x_vi (x_setc h 0 0) 10 1 = x_vi h0 10 1 := congrFun hle.2.2.1 1
        rw [e1, e2]
        exact x_St.moved hW (hSt.kept hn0 hS.2.1), by rw [hU]; exact Nat.le_trans hn0 hS.1⟩⟩ rfl (by simp; omega) hL.2.1 (by
        show st.map (x_cv n0 oa h) = _
        rw [← List.map_reverse, List.reverse_reverse, ← e9, ← List.map_cons, ← List.map_append, ← d2]) (by
        have := x_cats_eq (n0 := n0) (oa := oa) (h := h) (st.drop n)
        show 2 * 0 + _ ≤ 8
        omega) hd ⟨by rw [hRm]; exact t3, by rw [hRm]; exact t4⟩
    intro T hT X
    obtain ⟨v, st₀, t', T', L, e0, X', hL', e1, e2, hQ, go⟩ := hrun T hT X
    exact Or.inl ⟨v, st₀, t', T', L, e0, X', hL', e1, e2, hQ, go⟩
  · exact hrecv.elim
theorem snd_calln {y n mc ms bc bs idx : Nat} {M' : xM} {host : String} (hy : xm y = M') (hmc : mc = M'.mc) (hms : ms = M'.ms) (hbc : bc = M.mc) (hbs : bs = M.ms) (w1 : Cond.code M'.y M'.cd M'.mL M'.rt ∈ x_big) (w2 : (M.own, idx, M'.y, host) ∈ x_nl) (w3 : Cond.static M'.y ∈ x_big) (w4 : Cond.initialized M'.y.cls ∈ x_big)
    (hd0 : M'.y.cls ≠ "java/lang/invoke/MethodHandle" ∧ M'.y.cls ≠ "java/lang/invoke/VarHandle" ∧ (parseMethodDescriptor M'.y.desc).map (fun d => d.parameters.length) = some n) (hfr : M'.fr + 1 ≤ M.fr) (hlo : 8 + (M'.mL + 11) + M'.lo ≤ M.lo)
    (hd : decode M.cd pc = .ok (.invokestatic idx, 3)) : x_Snd xm M pc (pc + 3) (x_calln y n mc ms bc bs) := by
  rintro n0 oa D p l e R s m args below meth c Γ Z J q h0 ⟨ls, st, h⟩ C hΓ hf hq - H locs fl hR hle hL h1 h2 hS hc hs
  unfold x_calln at hf
  dsimp only at hf hR hle hL h1 h2 hc hs ⊢
  obtain ⟨t1, t2, t3, t4, hf⟩ := hf
  have hcon := hΓ _ _ _ _ hf
  rw [hy] at hcon
  subst hmc; subst hms; subst hbc; subst hbs
  obtain ⟨hx, hb, hml, hown, hts, hr, hlocks, hini, htab, hKn, hSt, hn0, hRm, hl⟩ := id C
  have hlv : ∀ v ∈ (st.take n).reverse, x_lv (x_setc h 0 0) v := fun v hv => h2 v (List.mem_of_mem_take (List.mem_reverse.mp hv))
  have hM := x_noThrow (fun E st9 t9 hX => by obtain ⟨k, h9, hz, -⟩ := hX; exact hz) (hcon l hl hlv)
  refine x_after (Zc := fun o h9 => match o with
    | .inl v => q (ls, v.toList ++ st.drop n, x_setc h9 (x_ce h + M'.mc) (x_so h + M'.ms))
    | .inr _ => False) C hR hle hL h1 (fun v hv => h2 v (List.mem_of_mem_drop hv)) hS t3 t4 ?_ (fun v h9 hz => hq _ hz) (fun k h9 hz => hz.elim)
  have hrun := va_runSN (R := R) (n := n) (As := (st.take n).reverse.map (x_cv n0 oa h)) (rest := (st.drop n).map (x_cv n0 oa h)) (Ts := x_big) (own := M.own) (host := host) (H := H) (locs := locs) (cells := x_ce h) (slots := x_so h) (e := e) (below := below) (meth := meth) (g := F0 m pc fl (st.map (x_cv n0 oa h))) ⟨hx, hb, hml, hown, hts⟩ hM ⟨va_cnB n hts (x_goodIn (x_ws_in w1)) rfl rfl rfl (hSt.2.2.2.2.2.2.2.2.1 _ w2) (hts _ w4) hd0 ⟨by rw [hRm]; exact hfr, by rw [hRm]; exact hlo⟩, hts _ w3, trivial⟩ ⟨x_Pc_blind, fun U hU hW => ⟨rfl, by rw [hU]; exact hR, x_K.moved hW.alike hKn, by
      rw [hU]
      have e1 : x_ln (x_setc h 0 0) 10 1 = x_ln h0 10 1 := congrFun hle.2.2.2 1
      have e2 : x_vi (x_setc h 0 0) 10 1 = x_vi h0 10 1 := congrFun hle.2.2.1 1
      rw [e1, e2]
      exact x_St.moved hW (hSt.kept hn0 hS.2.1), by rw [hU]; exact Nat.le_trans hn0 hS.1⟩⟩ rfl (by simp [t1]) hL.2.1 (by
      show st.map (x_cv n0 oa h) = _
      rw [← List.map_reverse, ← List.map_append, ← x_take_drop]) (by
      have := x_cats_eq (n0 := n0) (oa := oa) (h := h) (st.drop n)
      show 2 * 0 + _ ≤ 8
      omega) hd ⟨by rw [hRm]; exact t3, by rw [hRm]; exact t4⟩
  intro T hT X
  obtain ⟨v, st₀, t', T', L, e0, X', hL', e1, e2, hQ, go⟩ := hrun T hT X
  exact Or.inl ⟨v, st₀, t', T', L, e0, X', hL', e1, e2, hQ, go⟩
end XS5
end
section
/-! THE MACHINE IS SOUND -/
def x_argok (n : Nat) (a : List xV) : Bool := decide (a.length ≤ n) && a.all (fun v => x_cat v == 1)
def x_init (n : Nat) (a : List xV) : List xV := a ++ List.replicate (n - a.length) (.inr (.inr (0, 0)))
/-- the method μ from pc on comes to an end with Z, within n blocks -/
def x_wp (xm : Nat → xM) (cd : Nat → Nat → List (Nat × xI)) : Nat → Nat → Nat → xS → (xO → xH → Prop) → Prop
  | 0, _, _, _, _ => False
  | n + 1, μ, pc, S, Z => x_seq (cd μ pc) (fun μ' a h Z' => x_argok (xm μ').mL a = true ∧ x_ce h = 0 ∧ x_so h = 0 ∧ x_wp xm cd n μ' 0 (x_init (xm μ').mL a, [], h) Z') Z (fun pc' S' => x_wp xm cd n μ pc' S' Z) S
def x_okL (xm : Nat → xM) (M : xM) : Nat → List (Nat × xI) → Prop
  | _, [] => True
  | pc, f :: r => x_Snd xm M pc f.1 f.2 ∧ x_okL xm M f.1 r
/-- a method whose name and class are as they must be -/
def x_okM (M : xM) : Prop := plainName M.y.cls = true ∧ M.own = M.y.cls ∧ (M.ini = true → M.y.name = "<init>")
theorem x_seq_snd {xm : Nat → xM} {M : xM} {n0 : Nat} {oa : Nat → Nat → Nat} {D : (Nat → ClassId) × (Nat → Nat → Nat) × (Nat → ClassId)} {p : Program} {l : Launch} {e : Env} {R : Room} {s : State} {m : MethodId} {args : Array Value} {below : List Frame} {meth : Method} {c : Code} {Γ : xG} {Z : xO → xH → Prop} {J : Nat → xS → Prop} {h0 : xH}
    (C : x_Cx n0 oa D M h0 p l R s m args meth c) (hΓ : ∀ μ a h Z', Γ μ a h Z' → x_Con n0 oa D (xm μ) a h Z') (hJ : ∀ pc' S', J pc' S' → x_At n0 oa D p l e R s m args below meth c M h0 (x_MQ n0 oa D s args below M h0 Z) pc' S') :
    ∀ (L : List (Nat × xI)) (pc : Nat) (S : xS), x_okL xm M pc L → x_seq L Γ Z J S → x_At n0 oa D p l e R s m args below meth c M h0 (x_MQ n0 oa D s args below M h0 Z) pc S
  | [], _, _, _, h => h.elim
  | f :: r, pc, S, hok, h => hok.1 n0 oa D p l e R s m args below meth c Γ Z J _ h0 S C hΓ h (fun S' h' => x_seq_snd C hΓ hJ r f.1 S' hok.2 h') hJ
theorem x_args_at : ∀ (vs : List Value) (k i : Nat) (v : Value), (∀ w ∈ vs, w.category = 1) → vs[i]? = some v → (k + i, v) ∈ lv_args k vs
  | [], _, _, _, _, h => by simp at h
  | w :: r, k, i, v, hc, h => by
    have hw := hc w List.mem_cons_self
    unfold lv_args
    match i, h with
    | 0, h =>
      cases h
      exact List.mem_cons_self
    | i + 1, h =>
      refine List.mem_cons_of_mem _ ?_
      have := x_args_at r (k + 1) i v (fun w hw => hc w (List.mem_cons_of_mem _ hw)) (by simpa using h)
      rw [hw]
      rw [show k + (i + 1) = k + 1 + i by omega]
      exact this
theorem x_entry {n0 : Nat} {oa : Nat → Nat → Nat} {h : xH} {n : Nat} {a : List xV} (hok : x_argok n a = true) (m : MethodId) :
    ∃ fl : Array Slot, entryFrame m ((a.map (x_cv n0 oa h)).toArray) n = F0 m 0 fl [] ∧ x_Loc (x_cv n0 oa h) fl n (x_init n a) := by
  simp only [x_argok, Bool.and_eq_true, decide_eq_true_eq, List.all_eq_true, beq_iff_eq] at hok
  have hcat : ∀ w ∈ a.map (x_cv n0 oa h), w.category = 1 := by
    intro w hw
    obtain ⟨v, hv, rfl⟩ := List.mem_map.mp hw
    rw [x_cv_cat]
    exact hok.2 v hv
  have hsl : ∀ vs : List Value, (∀ w ∈ vs, w.category = 1) → (lg_sl vs).length = vs.length := by
    intro vs
    induction vs with
    | nil => intro _; rfl
    | cons v r ih =>
      intro hc
      have hv := hc v List.mem_cons_self
      have := ih (fun w hw => hc w (List.mem_cons_of_mem _ hw))
      simp only [lg_sl, List.flatMap_cons, hv] at this ⊢
      simp at this ⊢
      omega
  have hlen := hsl _ hcat
  rw [List.length_map] at hlen
  rw [lg_entry_eq]
  refine ⟨_, rfl, ?_, ?_⟩
  · unfold x_init
    rw [List.length_append, List.length_replicate]
    omega
  · have hl := lv_entry (a.map (x_cv n0 oa h)) (n := n) (by rw [hlen]; exact hok.1)
    refine ⟨hl.1, hl.2.1, ?_⟩
    rintro ⟨i, w⟩ hq
    obtain ⟨v, hv, hs, rfl⟩ := x_prs_mem.mp hq
    unfold x_init at hv
    by_cases hi : i < a.length
    · rw [List.getElem?_append_left hi] at hv
      refine hl.2.2 (i, x_cv n0 oa h v) ?_
      have := x_args_at (a.map (x_cv n0 oa h)) 0 i (x_cv n0 oa h v) hcat (by rw [List.getElem?_map, hv]; rfl)
      rw [Nat.zero_add] at this
      exact this
    · rw [List.getElem?_append_right (by omega)] at hv
      have := List.mem_of_getElem? hv
      rw [List.eq_of_mem_replicate this] at hs
      cases hs
theorem x_con_of {M : xM} {n0 : Nat} {oa : Nat → Nat → Nat} {D : (Nat → ClassId) × (Nat → Nat → Nat) × (Nat → ClassId)} {a : List xV} {h : xH} {Z : xO → xH → Prop} (hM : x_okM M) (hok : x_argok M.mL a = true) (hc0 : x_ce h = 0) (hs0 : x_so h = 0)
    (body : ∀ (p : Program) (l : Launch) (e : Env) (R : Room) (s : State) (m : MethodId) (args : Array Value) (below : List Frame) (meth : Method) (c : Code), x_Cx n0 oa D M h p l R s m args meth c → x_At n0 oa D p l e R s m args below meth c M h (x_MQ n0 oa D s args below M h Z) 0 (x_init M.mL a, [], h)) : x_Con n0 oa D M a h Z := by
  intro l hl hlv
  refine vx_ofW (cc := M.cd) (maxL := M.mL) (ret := M.rt) hM.1 rfl ?_
  intro p e s m args below meth c s₁ B hml htab hPc
  obtain ⟨rfl, hR, hK, hSt, hn0⟩ := hPc
  have hts : ∀ w ∈ x_ws M, w.before _ s = true := atoms_spec (ws := x_ws M) B.pre
  have hown : s.vm.findClass M.y.cls = some m.cls := findClass_of_methodNamed B.named
  have hnm : meth.name = M.y.name := (name_of_methodNamed B.named B.method).1
  have C : x_Cx n0 oa D M h p l (headSpec (x_ws M) (x_rm M)).room s m ((a.map (x_cv n0 oa h)).toArray) meth c :=
    ⟨B.exec, B.bytes, hml, by rw [hM.2.1]; exact hown, fun w hw => hts w (List.mem_cons_of_mem _ hw), B.returns, B.notSynchronized, fun q => hnm.trans (hM.2.2 q), List.eq_nil_iff_forall_not_mem.mpr htab, hK, hSt, hn0, rfl, hl⟩
  obtain ⟨fl, e1, hL⟩ := x_entry (n0 := n0) (oa := oa) (h := h) hok m
  rw [e1]
  have := body p l e _ s m _ below meth c C s.heap [] fl hR x_le.rf hL (fun v hv => ?_) (fun v hv => by cases hv) va_S.rf (by show x_ce h ≤ _; omega) (by show x_so h ≤ _; omega)
  · dsimp only at this
    rw [hc0, hs0] at this
    exact this
  · rcases List.mem_append.mp hv with hv | hv
    · exact hlv v hv
    · rw [List.eq_of_mem_replicate hv]
      exact Nat.zero_le _
theorem x_main {xm : Nat → xM} {cd : Nat → Nat → List (Nat × xI)} (hM : ∀ μ, x_okM (xm μ)) (hcd : ∀ μ pc, x_okL xm (xm μ) pc (cd μ pc)) :
    ∀ (n μ pc : Nat) (S : xS) (Z : xO → xH → Prop), x_wp xm cd n μ pc S Z → ∀ (n0 : Nat) (oa : Nat → Nat → Nat) (D : (Nat → ClassId) × (Nat → Nat → Nat) × (Nat → ClassId)) (p : Program) (l : Launch) (e : Env) (R : Room) (s : State) (m : MethodId) (args : Array Value) (below : List Frame) (meth : Method) (c : Code) (h0 : xH),
      x_Cx n0 oa D (xm μ) h0 p l R s m args meth c → x_At n0 oa D p l e R s m args below meth c (xm μ) h0 (x_MQ n0 oa D s args below (xm μ) h0 Z) pc S
  | 0, _, _, _, _, h => h.elim
  | n + 1, μ, pc, S, Z, h => fun n0 oa D p l e R s m args below meth c h0 C =>
    x_seq_snd C (fun μ' a h' Z' hΓ => x_con_of (hM μ') hΓ.1 hΓ.2.1 hΓ.2.2.1 (fun p l e R s m args below meth c C' => x_main hM hcd n μ' 0 _ Z' hΓ.2.2.2 n0 oa D p l e R s m args below meth c h' C')) (fun pc' S' hJ => x_main hM hcd n μ pc' S' Z hJ n0 oa D p l e R s m args below meth c h0 C) (cd μ pc) pc S (hcd μ pc) h
end
section
/-! SOUND INSTRUCTIONS: new int[n][k] -/
theorem x_newa_ad {h : xH} {K n : Nat} : x_ad (x_newa h K n) K (x_cn h K + 1) = x_sz h := by
  show x_u2 (x_ad h) K (x_cn h K + 1) (x_sz h) K (x_cn h K + 1) = _
  unfold x_u2
  rw [if_pos ⟨rfl, rfl⟩]
theorem x_fill_cn {h : xH} {K K' j c k : Nat} (hne : K ≠ K') : ∀ i, x_cn (x_fill h K K' j c k i) K' = x_cn h K' + i ∧ (∀ T, T ≠ K' → x_cn (x_fill h K K' j c k i) T = x_cn h T)
  | 0 => ⟨rfl, fun _ _ => rfl⟩
  | i + 1 => by
    obtain ⟨a, b⟩ := x_fill_cn (h := h) (j := j) (c := c) (k := k) hne i
    refine ⟨?_, fun T hT => ?_⟩
    · show (if K' = K' then x_cn (x_fill h K K' j c k i) K' + 1 else _) = _
      rw [if_pos rfl, a]; omega
    · show (if T = K' then x_cn (x_fill h K K' j c k i) K' + 1 else x_cn (x_fill h K K' j c k i) T) = _
      rw [if_neg hT, b T hT]
theorem x_fill_ad {h : xH} {K K' j c k : Nat} (hne : K ≠ K') : ∀ i, x_ad (x_fill h K K' j c k i) K = x_ad h K ∧ x_sz (x_fill h K K' j c k i) = x_sz h + i ∧ x_ln (x_fill h K K' j c k i) K = x_ln h K ∧ x_ce (x_fill h K K' j c k i) = x_ce h + i ∧ x_so (x_fill h K K' j c k i) = x_so h + i * k
  | 0 => ⟨rfl, rfl, rfl, rfl, by show x_so h = _; omega⟩
  | i + 1 => by
    obtain ⟨a, b, d, e, f⟩ := x_fill_ad (h := h) (j := j) (c := c) (k := k) hne i
    refine ⟨?_, ?_, ?_, ?_, ?_⟩
    · funext q
      show (if K = K' ∧ q = _ then _ else x_ad (x_fill h K K' j c k i) K q) = _
      rw [if_neg (fun z => hne z.1), a]
    · show x_sz (x_fill h K K' j c k i) + 1 = _
      omega
    · funext q
      show (if K = K' ∧ q = _ then _ else x_ln (x_fill h K K' j c k i) K q) = _
      rw [if_neg (fun z => hne z.1), d]
    · show x_ce (x_fill h K K' j c k i) + 1 = _
      omega
    · show x_so (x_fill h K K' j c k i) + k = _
      rw [f, Nat.succ_mul]; omega
theorem x_fill_le {h : xH} {K K' j c k : Nat} (h10 : K' ≠ 10) : ∀ i, x_le h (x_fill h K K' j c k i)
  | 0 => x_le.rf
  | i + 1 => ((x_fill_le h10 i).tr (x_le.newa h10)).tr x_le.putr
theorem x_fill_rep {n0 : Nat} {oa : Nat → Nat → Nat} {D : (Nat → ClassId) × (Nat → Nat → Nat) × (Nat → ClassId)} {h : xH} {T : State} {K K' N k : Nat} (hK : xk_a K) (hK' : xk_a K') (hne : K ≠ K') (h21 : K ≠ 21) (h21' : K' ≠ 21) (he : x_et K = K') (he' : x_et K' = 0) (hR : x_Rep n0 oa D h T.heap) :
    ∀ i : Nat, i ≤ N → x_Rep n0 oa D (x_fill (x_newa h K N) K K' (x_cn h K + 1) (x_cn h K') k i) (Jvm.Free.Multi.fill T (D.2.2 K) (D.2.2 K') N k (.int 0) i).heap
  | 0, _ => by
    refine (x_newa_done hR hK h21 (v := .null) (Or.inr ⟨?_, rfl⟩) ?_ ?_ ?_).1
    · rw [he]; simp only [xk_a] at hK'; omega
    · show (T.pushCell _).heap[T.heap.size]? = _
      rw [State.heap_pushCell_size, ← arrV_new]
      rfl
    · exact size_pushCell _ _
    · intro q hq
      exact State.heap_pushCell_of_lt _ _ hq
  | i + 1, hi => by
    have ih := x_fill_rep (N := N) (k := k) hK hK' hne h21 h21' he he' hR i (by omega)
    obtain ⟨f1, f2, -, -⟩ := Jvm.Free.Multi.fill_facts T (D.2.2 K) (D.2.2 K') N k (.int 0) i
    generalize hF : Jvm.Free.Multi.fill T (D.2.2 K) (D.2.2 K') N k (.int 0) i = F at ih f1 f2
    generalize hg : x_fill (x_newa h K N) K K' (x_cn h K + 1) (x_cn h K') k i = g at ih
    have hcn := x_fill_cn (h := x_newa h K N) (j := x_cn h K + 1) (c := x_cn h K') (k := k) hne i
    have had := x_fill_ad (h := x_newa h K N) (j := x_cn h K + 1) (c := x_cn h K') (k := k) hne i
    rw [hg] at hcn had
    have c1 : x_cn g K' = x_cn h K' + i := by rw [hcn.1]; show (if K' = K then _ else x_cn h K') + i = _; rw [if_neg (fun z => hne z.symm)]
    have c2 : x_cn g K = x_cn h K + 1 := by rw [hcn.2 K hne]; show (if K = K then x_cn h K + 1 else _) = _; rw [if_pos rfl]
    have c3 : x_ad g K (x_cn h K + 1) = x_sz h := by rw [had.1]; show (if K = K ∧ x_cn h K + 1 = x_cn h K + 1 then x_sz h else _) = _; rw [if_pos ⟨rfl, rfl⟩]
    have z0 : T.heap.size = n0 + x_sz h := hR.1
    have z1 : (F.pushCell (Jvm.Free.Multi.innerC (D.2.2 K') k (.int 0))).heap.size = F.heap.size + 1 := size_pushCell _ _
    have o1 : ∀ q, q < F.heap.size → (F.pushCell (Jvm.Free.Multi.innerC (D.2.2 K') k (.int 0))).heap[q]? = F.heap[q]? := fun q hq => State.heap_pushCell_of_lt _ _ hq
    obtain ⟨hR1, hlv, e9⟩ := x_newa_done (K := K') (n := k) ih hK' h21' (v := .int 0) (Or.inl ⟨he', rfl⟩) (by rw [State.heap_pushCell_size, ← arrV_new]; try rfl) z1 o1
    have hlK : x_live (x_newa g K' k) K (x_cn h K + 1) := by
      refine ⟨by omega, ?_⟩
      show x_cn h K + 1 ≤ (if K = K' then _ else x_cn g K)
      rw [if_neg hne, c2]
      exact Nat.le_refl _
    have a3 : x_ad (x_newa g K' k) K (x_cn h K + 1) = x_sz h := by
      show (if K = K' ∧ x_cn h K + 1 = x_cn g K' + 1 then _ else x_ad g K (x_cn h K + 1)) = _
      rw [if_neg (fun z => hne z.1), c3]
    have hcell := (hR1.2.2.1 K (x_cn h K + 1) hK hlK).2
    rw [a3, ← z0, o1 _ (by omega), f2] at hcell
    have hout := Option.some.inj hcell
    show x_Rep n0 oa D (x_putr (x_newa (x_fill (x_newa h K N) K K' (x_cn h K + 1) (x_cn h K') k i) K' k) K (x_cn h K + 1) i (x_cn h K' + i + 1)) (((Jvm.Free.Multi.fill T (D.2.2 K) (D.2.2 K') N k (.int 0) i).pushCell (Jvm.Free.Multi.innerC (D.2.2 K') k (.int 0))).setCell T.heap.size ((Jvm.Free.Multi.outerC (D.2.2 K) N T.heap.size i).setSlot i (.ref (T.heap.size + 1 + i)))).heap
    rw [hF, hg]
    have hT0 : x_et K ≠ 0 := by rw [he]; simp only [xk_a] at hK'; omega
    refine x_stored (v := .ref (T.heap.size + 1 + i)) (i := i) hR1 hK hlK rfl rfl rfl rfl (fun K9 k9 j9 ho => x_cf_putr (fun z => x_o_ne_a ho hK z.1.symm)) (fun K9 j9 i9 _ _ z => x_ae_putr z) ?_ ?_ ?_ ?_ ?_ ?_
    · unfold x_ae
      rw [if_neg h21, if_neg hT0, he]
      show x_cr n0 oa (x_newa g K' k) K' (x_u3 (x_vr (x_newa g K' k)) K (x_cn h K + 1) i (x_cn h K' + i + 1) K (x_cn h K + 1) i) = _
      unfold x_u3
      rw [if_pos ⟨rfl, rfl, rfl⟩, ← c1, e9, f1]
    · intro K9 j9 k9 a9 b9
      show x_u3 _ K _ i _ K9 k9 j9 ≤ _
      unfold x_u3
      rw [if_neg (fun z => x_o_ne_a a9 hK z.1.symm)]
      exact hR1.2.2.2.2.1 K9 j9 k9 a9 b9
    · intro K9 j9 i9 a9 b9
      show x_u3 _ K _ i _ K9 j9 i9 ≤ _
      unfold x_u3
      by_cases z : K9 = K ∧ j9 = x_cn h K + 1 ∧ i9 = i
      · rw [if_pos z, z.1, he, ← c1]; exact hlv.2
      · rw [if_neg z]; exact hR1.2.2.2.2.2.1 K9 j9 i9 a9 b9
    · rw [a3, ← z0, ← hout]
      have hlt9 : T.heap.size < (F.pushCell (Jvm.Free.Multi.innerC (D.2.2 K') k (.int 0))).heap.size := by rw [z1, f1]; omega
      exact heapAt_setCell_self _ hlt9
    · exact size_setCell _ _ _
    · intro q hq
      rw [a3, ← z0] at hq
      exact heapAt_setCell_ne _ (Ne.symm hq)
section XS6
variable {xm : Nat → xM} {M : xM} {pc : Nat}
theorem snd_newm {idx bc bs : Nat} (hbc : bc = M.mc) (hbs : bs = M.ms) (hc1 : Cond.classLink M.own idx "[[I" ∈ x_big) (hc3 : Cond.arrayClass .int ∈ x_big) (hd : decode M.cd pc = .ok (.multianewarray idx 2, 4)) : x_Snd xm M pc (pc + 4) (x_newm 14 15 bc bs) := by
  rintro n0 oa D p l e R s m args below meth c Γ Z J q h0 ⟨ls, st, h⟩ C - hf hq - H locs fl hR hle hL h1 h2 hS hc hs
  obtain ⟨hx, hb, -, hown, hts, -, -, -, -, hKn, hSt, -, hRm, -⟩ := C
  unfold x_newm at hf
  dsimp only at hf hR hle hL h1 h2 hc hs ⊢
  split at hf
  · rename_i k n st
    obtain ⟨n1, n2, k1, k2, b1, b2, hf⟩ := hf
    subst hbc; subst hbs; subst hRm
    have hn := x_clamp n1
    have hk := x_clamp k1
    have h14 : xk_a 14 := ⟨by decide, by decide⟩
    have h15 : xk_a 15 := ⟨by decide, by decide⟩
    intro T hT X
    obtain ⟨vm₁, cA, comp, hW, fA, fC, hO, hI, X', step⟩ := X.multianewarray2F hx (ty := .int) hown (hts _ hc1) hSt.2.2.2.2.2.2.2.2.2.2 (hts _ hc3) (g := F0 m pc fl (.int k :: .int n :: st.map (x_cv n0 oa h))) rfl (by rw [hb]; exact hd) rfl (x_nn n1) (x_nn k1) (by omega) (by show _ * 4 ≤ _; omega) (by omega) rfl rfl (by show _ ≤ M.mc; omega) (by show _ ≤ M.ms; omega)
    have eA : cA = D.2.2 14 := Option.some.inj (fA.symm.trans (hKn.2 14 h14).2)
    have eC : comp = D.2.2 15 := Option.some.inj (fC.symm.trans (hKn.2 15 h15).2)
    subst eA; subst eC
    have hRT : x_Rep n0 oa D h (T.setVm vm₁).heap := by show x_Rep n0 oa D h T.heap; rw [hT]; exact hR
    have hR1 := x_fill_rep (T := T.setVm vm₁) (N := n.toNatClampNeg) (k := k.toNatClampNeg) h14 h15 (by decide) (by decide) (by decide) rfl rfl hRT n.toNatClampNeg (Nat.le_refl _)
    have hl0 := x_le.newa (h := h) (K := 14) (n := n.toNatClampNeg) (by decide)
    have hl := hl0.tr (x_fill_le (h := x_newa h 14 n.toNatClampNeg) (K := 14) (K' := 15) (j := x_cn h 14 + 1) (c := x_cn h 15) (k := k.toNatClampNeg) (by decide) n.toNatClampNeg)
    obtain ⟨f1, -, -, -⟩ := Jvm.Free.Multi.fill_facts (T.setVm vm₁) (D.2.2 14) (D.2.2 15) n.toNatClampNeg k.toNatClampNeg (.int 0) n.toNatClampNeg
    have hold : ∀ x : Nat, x < H.size → (Jvm.Free.Multi.fill (T.setVm vm₁) (D.2.2 14) (D.2.2 15) n.toNatClampNeg k.toNatClampNeg (.int 0) n.toNatClampNeg).heap[x]? = H[x]? := fun x hx => by
      have := Jvm.Free.Multi.fill_old (T.setVm vm₁) (D.2.2 14) (D.2.2 15) n.toNatClampNeg k.toNatClampNeg (.int 0) (a := x) (by show x < T.heap.size; rw [hT]; exact hx) n.toNatClampNeg
      rw [this]
      show T.heap[x]? = _
      rw [hT]
    have hcn := x_fill_cn (h := x_newa h 14 n.toNatClampNeg) (K := 14) (K' := 15) (j := x_cn h 14 + 1) (c := x_cn h 15) (k := k.toNatClampNeg) (by decide) n.toNatClampNeg
    have had := x_fill_ad (h := x_newa h 14 n.toNatClampNeg) (K := 14) (K' := 15) (j := x_cn h 14 + 1) (c := x_cn h 15) (k := k.toNatClampNeg) (by decide) n.toNatClampNeg
    have hlv : x_live (x_fill (x_newa h 14 n.toNatClampNeg) 14 15 (x_cn h 14 + 1) (x_cn h 15) k.toNatClampNeg n.toNatClampNeg) 14 (x_cn h 14 + 1) := by
      refine ⟨by omega, ?_⟩
      rw [hcn.2 14 (by decide)]
      rw [x_newa_cn, if_pos rfl]
      exact Nat.le_refl _
    have hz : T.heap.size = n0 + x_sz h := by rw [hT]; exact hR.1
    have e9 : x_cr n0 oa (x_fill (x_newa h 14 n.toNatClampNeg) 14 15 (x_cn h 14 + 1) (x_cn h 15) k.toNatClampNeg n.toNatClampNeg) 14 (x_cn h 14 + 1) = .ref T.heap.size := by
      rw [x_cr_in (Or.inr h14) hlv, had.1, x_newa_ad, hz]
    have q1 : x_ce (x_fill (x_newa h 14 n.toNatClampNeg) 14 15 (x_cn h 14 + 1) (x_cn h 15) k.toNatClampNeg n.toNatClampNeg) = x_ce h + 1 + n.toNatClampNeg := had.2.2.2.1
    have q2 : x_so (x_fill (x_newa h 14 n.toNatClampNeg) 14 15 (x_cn h 14 + 1) (x_cn h 15) k.toNatClampNeg n.toNatClampNeg) = x_so h + n.toNatClampNeg + n.toNatClampNeg * k.toNatClampNeg := had.2.2.2.2
    have fsz : H.size ≤ (Jvm.Free.Multi.fill (T.setVm vm₁) (D.2.2 14) (D.2.2 15) n.toNatClampNeg k.toNatClampNeg (.int 0) n.toNatClampNeg).heap.size := by rw [f1, ← hT]; show T.heap.size ≤ T.heap.size + 1 + _; omega
    have := hq _ hf _ locs fl hR1 (hle.tr hl) (hL.le hl h1) (x_lvs_le hl h1) (x_lvs_cons hlv.2 (x_lvs_le hl (x_tl (x_tl h2)))) (x_S_grow hS fsz hold) (by rw [q1]; exact b1) (by rw [q2]; exact b2)
    dsimp only at this
    rw [List.map_cons, show x_cv n0 oa _ (.inr (.inr (14, x_cn h 14 + 1))) = _ from e9, x_cvs_le hl (x_tl (x_tl h2)), q1, q2] at this
    obtain ⟨t2, c1, c2⟩ := this _ rfl X'
    exact ⟨t2, step t2 c1, c2⟩
  · exact hf.elim
end XS6
end
section
/-! THE PROGRAM: methods, blocks of instructions (printed by gen_code.py out of the decoded listing) -/
theorem ko_1 : xk_o 1 := ⟨by decide, by decide⟩
theorem ko_2 : xk_o 2 := ⟨by decide, by decide⟩
theorem ko_3 : xk_o 3 := ⟨by decide, by decide⟩
theorem ko_4 : xk_o 4 := ⟨by decide, by decide⟩
theorem ko_5 : xk_o 5 := ⟨by decide, by decide⟩
theorem ko_6 : xk_o 6 := ⟨by decide, by decide⟩
theorem ko_7 : xk_o 7 := ⟨by decide, by decide⟩
theorem ko_8 : xk_o 8 := ⟨by decide, by decide⟩
theorem ka_11 : xk_a 11 := ⟨by decide, by decide⟩
theorem ka_12 : xk_a 12 := ⟨by decide, by decide⟩
theorem ka_13 : xk_a 13 := ⟨by decide, by decide⟩
theorem ka_14 : xk_a 14 := ⟨by decide, by decide⟩
theorem ka_15 : xk_a 15 := ⟨by decide, by decide⟩
theorem ka_16 : xk_a 16 := ⟨by decide, by decide⟩
theorem ka_17 : xk_a 17 := ⟨by decide, by decide⟩
theorem ka_18 : xk_a 18 := ⟨by decide, by decide⟩
theorem ka_19 : xk_a 19 := ⟨by decide, by decide⟩
theorem ka_20 : xk_a 20 := ⟨by decide, by decide⟩
theorem ka_21 : xk_a 21 := ⟨by decide, by decide⟩
theorem ka_22 : xk_a 22 := ⟨by decide, by decide⟩
theorem ka_23 : xk_a 23 := ⟨by decide, by decide⟩
theorem ka_24 : xk_a 24 := ⟨by decide, by decide⟩
theorem ka_25 : xk_a 25 := ⟨by decide, by decide⟩
theorem ka_26 : xk_a 26 := ⟨by decide, by decide⟩
theorem ka_27 : xk_a 27 := ⟨by decide, by decide⟩
theorem ka_28 : xk_a 28 := ⟨by decide, by decide⟩
theorem ka_29 : xk_a 29 := ⟨by decide, by decide⟩
theorem ka_30 : xk_a 30 := ⟨by decide, by decide⟩
theorem ka_31 : xk_a 31 := ⟨by decide, by decide⟩
theorem ka_32 : xk_a 32 := ⟨by decide, by decide⟩
theorem ka_33 : xk_a 33 := ⟨by decide, by decide⟩
theorem ka_34 : xk_a 34 := ⟨by decide, by decide⟩
theorem ka_35 : xk_a 35 := ⟨by decide, by decide⟩
theorem ka_36 : xk_a 36 := ⟨by decide, by decide⟩
theorem ka_37 : xk_a 37 := ⟨by decide, by decide⟩
theorem ka_38 : xk_a 38 := ⟨by decide, by decide⟩
theorem ka_39 : xk_a 39 := ⟨by decide, by decide⟩
theorem ka_40 : xk_a 40 := ⟨by decide, by decide⟩
theorem ka_41 : xk_a 41 := ⟨by decide, by decide⟩
theorem ka_42 : xk_a 42 := ⟨by decide, by decide⟩
theorem ka_43 : xk_a 43 := ⟨by decide, by decide⟩
theorem ka_44 : xk_a 44 := ⟨by decide, by decide⟩
theorem ka_45 : xk_a 45 := ⟨by decide, by decide⟩
theorem ka_46 : xk_a 46 := ⟨by decide, by decide⟩
theorem ka_47 : xk_a 47 := ⟨by decide, by decide⟩
theorem ka_48 : xk_a 48 := ⟨by decide, by decide⟩
theorem ka_49 : xk_a 49 := ⟨by decide, by decide⟩
theorem ka_50 : xk_a 50 := ⟨by decide, by decide⟩
theorem ka_51 : xk_a 51 := ⟨by decide, by decide⟩
theorem ka_52 : xk_a 52 := ⟨by decide, by decide⟩
theorem ka_53 : xk_a 53 := ⟨by decide, by decide⟩
theorem ka_54 : xk_a 54 := ⟨by decide, by decide⟩
theorem ka_55 : xk_a 55 := ⟨by decide, by decide⟩
theorem ka_56 : xk_a 56 := ⟨by decide, by decide⟩
theorem ka_57 : xk_a 57 := ⟨by decide, by decide⟩
theorem ka_58 : xk_a 58 := ⟨by decide, by decide⟩
theorem ka_59 : xk_a 59 := ⟨by decide, by decide⟩
theorem ka_60 : xk_a 60 := ⟨by decide, by decide⟩
theorem ka_61 : xk_a 61 := ⟨by decide, by decide⟩
theorem ka_62 : xk_a 62 := ⟨by decide, by decide⟩
theorem ka_63 : xk_a 63 := ⟨by decide, by decide⟩
theorem ka_64 : xk_a 64 := ⟨by decide, by decide⟩
def xm_0 : xM := (yX4_init, cX4_init, 2, none, RX4, 1, 20, 1, 24, true)
def xm_1 : xM := (yX0_init, cX0_init, 2, none, RX0, 2, 41, 2, 26, true)
def xm_2 : xM := (yX0_goTo, cX0_goTo, 2, none, RX0, 0, 0, 0, 0, false)
def xm_3 : xM := (yX0_startAnew, cX0_startAnew, 2, none, RX0, 1, 21, 0, 0, false)
def xm_4 : xM := (yX0_hasBeenAt, cX0_hasBeenAt, 2, (some .boolean), RX0, 0, 0, 0, 0, false)
def xm_5 : xM := (yX0_calledIsLifted, cX0_calledIsLifted, 1, (some .boolean), RX0, 0, 0, 0, 0, false)
def xm_6 : xM := (yX0_units, cX0_units, 1, (some .int), RX0, 0, 0, 0, 0, false)
def xm_7 : xM := (yX0_period, cX0_period, 1, (some .int), RX0, 0, 0, 0, 0, false)
def xm_8 : xM := (yX1_init, cX1_init, 3, none, RX1, 1, 20, 0, 0, true)
def xm_9 : xM := (yX1_name, cX1_name, 1, (some .int), RX1, 0, 0, 0, 0, false)
def xm_10 : xM := (yX1_firstLink, cX1_firstLink, 1, (some .int), RX1, 0, 0, 0, 0, false)
def xm_11 : xM := (yX1_isFree, cX1_isFree, 1, (some .boolean), RX1, 0, 0, 0, 0, false)
def xm_12 : xM := (yX1_leaveCall, cX1_leaveCall, 2, none, RX1, 0, 0, 0, 0, false)
def xm_13 : xM := (yX2_init, cX2_init, 3, none, RX2, 2, 42, 40, 373, true)
def xm_14 : xM := (yX2_code, cX2_code, 2, (some .int), RX2, 0, 0, 0, 0, false)
def xm_15 : xM := (yX2_routeNamed, cX2_routeNamed, 3, (some (.object "CrossbarNet$Route")), RX2, 0, 0, 0, 0, false)
def xm_16 : xM := (yX7_beginsWith, cX7_beginsWith, 3, (some .boolean), RX7, 0, 0, 0, 0, false)
def xm_17 : xM := (yX2_routeOf, cX2_routeOf, 3, (some (.object "CrossbarNet$Route")), RX2, 1, 22, 0, 0, false)
def xm_18 : xM := (yX2_canBecomePrefix, cX2_canBecomePrefix, 3, (some .boolean), RX2, 1, 22, 0, 0, false)
def xm_19 : xM := (yX2_hasRoomFor, cX2_hasRoomFor, 2, (some .boolean), RX2, 2, 44, 0, 0, false)
def xm_20 : xM := (yX2_addRoute, cX2_addRoute, 2, none, RX2, 0, 0, 0, 0, false)
def xm_21 : xM := (yX4_has, cX4_has, 3, (some .boolean), RX4, 0, 0, 0, 0, false)
def xm_22 : xM := (yX2_isInAHunt, cX2_isInAHunt, 3, (some .boolean), RX2, 1, 22, 0, 0, false)
def xm_23 : xM := (yX4_at, cX4_at, 2, (some .int), RX4, 0, 0, 0, 0, false)
def xm_24 : xM := (yX4_size, cX4_size, 1, (some .int), RX4, 0, 0, 0, 0, false)
def xm_25 : xM := (yX7_isWithin, cX7_isWithin, 3, (some .boolean), RX7, 0, 0, 0, 0, false)
def xm_26 : xM := (yX7_isLine, cX7_isLine, 1, (some .boolean), RX7, 1, 22, 0, 0, false)
def xm_27 : xM := (yX2_firstFree, cX2_firstFree, 5, (some .int), RX2, 2, 42, 0, 0, false)
def xm_28 : xM := (yX2_huntFrom, cX2_huntFrom, 3, (some .int), RX2, 3, 66, 0, 0, false)
def xm_29 : xM := (yX2_firstIdle, cX2_firstIdle, 4, (some .int), RX2, 0, 0, 0, 0, false)
def xm_30 : xM := (yX2_countIdle, cX2_countIdle, 5, (some .int), RX2, 0, 0, 0, 0, false)
def xm_31 : xM := (yX2_idleLink, cX2_idleLink, 6, (some .int), RX2, 1, 20, 0, 0, false)
def xm_32 : xM := (yX3_init, cX3_init, 3, none, RX3, 2, 41, 2, 26, true)
def xm_33 : xM := (yX3_canHave, cX3_canHave, 2, (some .boolean), RX3, 1, 22, 0, 0, false)
def xm_34 : xM := (yX7_countDigits, cX7_countDigits, 3, (some .int), RX7, 0, 0, 0, 0, false)
def xm_35 : xM := (yX3_digitsBehind, cX3_digitsBehind, 2, (some .int), RX3, 1, 22, 0, 0, false)
def xm_36 : xM := (yX3_lineBehind, cX3_lineBehind, 4, (some .int), RX3, 2, 43, 0, 0, false)
def xm_37 : xM := (yX4_add, cX4_add, 2, none, RX4, 0, 0, 0, 0, false)
def xm_38 : xM := (yX4_remove, cX4_remove, 4, none, RX4, 0, 0, 0, 0, false)
def xm_39 : xM := (yX4_clear, cX4_clear, 1, none, RX4, 0, 0, 0, 0, false)
def xm_40 : xM := (yX6_init, cX6_init, 3, none, RX6, 1, 20, 0, 0, true)
def xm_41 : xM := (yX6_isReady, cX6_isReady, 1, (some .boolean), RX6, 0, 0, 0, 0, false)
def xm_42 : xM := (yX6_endsAt, cX6_endsAt, 2, (some .boolean), RX6, 0, 0, 0, 0, false)
def xm_43 : xM := (yX7_init, cX7_init, 3, none, RX7, 3, 64, 1000, 6000, true)
def xm_44 : xM := (yX7_isOffice, cX7_isOffice, 1, (some .boolean), RX7, 1, 22, 0, 0, false)
def xm_45 : xM := (yX7_need, cX7_need, 1, none, RX7, 6, 89, 1, 6, false)
def xm_46 : xM := (yX7_allow, cX7_allow, 1, none, RX7, 6, 89, 1, 6, false)
def xm_47 : xM := (yX7_trunk, cX7_trunk, 3, (some .int), RX7, 7, 109, 3, 16, false)
def xm_48 : xM := (yX7_isPrefix, cX7_isPrefix, 1, (some .boolean), RX7, 1, 22, 0, 0, false)
def xm_49 : xM := (yX7_route, cX7_route, 8, (some .int), RX7, 7, 109, 7, 55, false)
def xm_50 : xM := (yX7_hunt, cX7_hunt, 5, (some .int), RX7, 7, 109, 2, 12, false)
def xm_51 : xM := (yX7_lineOf, cX7_lineOf, 3, (some (.object "CrossbarNet$Line")), RX7, 7, 109, 1, 6, false)
def xm_52 : xM := (yX7_setHolder, cX7_setHolder, 5, none, RX7, 0, 0, 0, 0, false)
def xm_53 : xM := (yX7_seize, cX7_seize, 3, none, RX7, 1, 24, 0, 0, false)
def xm_54 : xM := (yX7_beginCall, cX7_beginCall, 5, none, RX7, 2, 46, 0, 0, false)
def xm_55 : xM := (yX7_askForRegister, cX7_askForRegister, 4, none, RX7, 3, 70, 0, 0, false)
def xm_56 : xM := (yX7_charge, cX7_charge, 2, none, RX7, 1, 20, 0, 0, false)
def xm_57 : xM := (yX7_answer, cX7_answer, 2, none, RX7, 2, 41, 0, 0, false)
def xm_58 : xM := (yX7_lift, cX7_lift, 5, none, RX7, 8, 131, 2, 12, false)
def xm_59 : xM := (yX7_end, cX7_end, 4, none, RX7, 1, 24, 0, 0, false)
def xm_60 : xM := (yX7_hang, cX7_hang, 5, none, RX7, 8, 131, 2, 12, false)
def xm_61 : xM := (yX7_makeJob, cX7_makeJob, 3, none, RX7, 1, 21, 0, 0, false)
def xm_62 : xM := (yX7_takeDigit, cX7_takeDigit, 5, none, RX7, 2, 47, 0, 0, false)
def xm_63 : xM := (yX7_dial, cX7_dial, 6, (some .boolean), RX7, 8, 131, 3, 18, false)
def xm_64 : xM := (yX7_seizeLink, cX7_seizeLink, 4, (some .boolean), RX7, 2, 46, 0, 0, false)
def xm_65 : xM := (yX7_seizeWayWithin, cX7_seizeWayWithin, 8, (some .boolean), RX7, 3, 69, 0, 0, false)
def xm_66 : xM := (yX7_release, cX7_release, 3, none, RX7, 1, 24, 0, 0, false)
def xm_67 : xM := (yX7_callLine, cX7_callLine, 6, none, RX7, 4, 96, 0, 0, false)
def xm_68 : xM := (yX7_firstIdleTrunk, cX7_firstIdleTrunk, 4, (some .int), RX7, 1, 21, 0, 0, false)
def xm_69 : xM := (yX7_seizeOnward, cX7_seizeOnward, 6, (some .boolean), RX7, 3, 69, 0, 0, false)
def xm_70 : xM := (yX7_sendOnward, cX7_sendOnward, 6, none, RX7, 4, 94, 0, 0, false)
def xm_71 : xM := (yX7_doOldestJob, cX7_doOldestJob, 5, none, RX7, 5, 121, 0, 0, false)
def xm_72 : xM := (yX7_sendDigit, cX7_sendDigit, 2, none, RX7, 2, 46, 0, 0, false)
def xm_73 : xM := (yX7_sendDigits, cX7_sendDigits, 4, none, RX7, 3, 67, 0, 0, false)
def xm_74 : xM := (yX7_waitForDigit, cX7_waitForDigit, 2, none, RX7, 2, 47, 0, 0, false)
def xm_75 : xM := (yX7_spendTalkTick, cX7_spendTalkTick, 3, none, RX7, 2, 47, 0, 0, false)
def xm_76 : xM := (yX7_letTimePass, cX7_letTimePass, 3, none, RX7, 3, 69, 0, 0, false)
def xm_77 : xM := (yX7_giveRegisters, cX7_giveRegisters, 5, none, RX7, 3, 70, 0, 0, false)
def xm_78 : xM := (yX7_tick, cX7_tick, 4, none, RX7, 7, 145, 1, 6, false)
def xm_79 : xM := (yX7_out, cX7_out, 5, (some .boolean), RX7, 7, 109, 1, 6, false)
def xm_80 : xM := (yX7_hold, cX7_hold, 6, (some .boolean), RX7, 8, 131, 1, 6, false)
def xm_81 : xM := (yX7_tone, cX7_tone, 3, (some .int), RX7, 8, 131, 1, 6, false)
def xm_82 : xM := (yX7_rings, cX7_rings, 5, (some .boolean), RX7, 8, 131, 1, 6, false)
def xm_83 : xM := (yX7_talks, cX7_talks, 5, (some .int), RX7, 8, 131, 1, 6, false)
def xm_84 : xM := (yX7_meter, cX7_meter, 3, (some .int), RX7, 8, 131, 1, 6, false)
def xm_85 : xM := (yX7_seized, cX7_seized, 6, (some .int), RX7, 8, 131, 2, 12, false)
def xm_86 : xM := (yX7_countIdleTrunks, cX7_countIdleTrunks, 4, (some .int), RX7, 1, 21, 0, 0, false)
def xm_87 : xM := (yX7_idle, cX7_idle, 4, (some .int), RX7, 7, 109, 2, 12, false)
def xm_88 : xM := (yX7_overflow, cX7_overflow, 3, (some .int), RX7, 7, 109, 1, 6, false)
def xm_89 : xM := (yX8_init, cX8_init, 2, none, RX8, 1, 20, 43, 3970, true)
def xm_90 : xM := (yX8_thrown, cX8_thrown, 1, (some .int), RX8, 0, 0, 0, 0, false)
def xm_91 : xM := (yX8_refused, cX8_refused, 2, (some .boolean), RX8, 0, 0, 0, 0, false)
def xm_92 : xM := (yX8_isIn, cX8_isIn, 3, (some .boolean), RX8, 0, 0, 0, 0, false)
def xm_93 : xM := (yX8_isLine, cX8_isLine, 2, (some .boolean), RX8, 1, 22, 0, 0, false)
def xm_94 : xM := (yX8_trunk, cX8_trunk, 3, (some .int), RX8, 1, 22, 0, 0, false)
def xm_95 : xM := (yX8_sizeOf, cX8_sizeOf, 1, (some .int), RX8, 0, 0, 0, 0, false)
def xm_96 : xM := (yX8_overlap, cX8_overlap, 4, (some .boolean), RX8, 1, 20, 0, 0, false)
def xm_97 : xM := (yX8_route, cX8_route, 12, (some .int), RX8, 2, 43, 0, 0, false)
def xm_98 : xM := (yX8_hunt, cX8_hunt, 7, (some .int), RX8, 2, 43, 0, 0, false)
def xm_99 : xM := (yX8_give, cX8_give, 5, none, RX8, 0, 0, 0, 0, false)
def xm_100 : xM := (yX8_seize, cX8_seize, 3, none, RX8, 1, 24, 0, 0, false)
def xm_101 : xM := (yX8_release, cX8_release, 5, none, RX8, 1, 24, 0, 0, false)
def xm_102 : xM := (yX8_dropJob, cX8_dropJob, 5, none, RX8, 0, 0, 0, 0, false)
def xm_103 : xM := (yX8_addJob, cX8_addJob, 3, none, RX8, 0, 0, 0, 0, false)
def xm_104 : xM := (yX8_end, cX8_end, 2, none, RX8, 2, 48, 0, 0, false)
def xm_105 : xM := (yX8_fail, cX8_fail, 3, none, RX8, 3, 69, 0, 0, false)
def xm_106 : xM := (yX8_over, cX8_over, 4, none, RX8, 3, 69, 0, 0, false)
def xm_107 : xM := (yX8_idleRegister, cX8_idleRegister, 4, (some .int), RX8, 0, 0, 0, 0, false)
def xm_108 : xM := (yX8_doesWait, cX8_doesWait, 4, (some .boolean), RX8, 0, 0, 0, 0, false)
def xm_109 : xM := (yX8_begin, cX8_begin, 4, none, RX8, 2, 46, 0, 0, false)
def xm_110 : xM := (yX8_lift, cX8_lift, 5, none, RX8, 3, 69, 0, 0, false)
def xm_111 : xM := (yX8_hang, cX8_hang, 4, none, RX8, 4, 92, 0, 0, false)
def xm_112 : xM := (yX8_fits, cX8_fits, 7, (some .boolean), RX8, 1, 20, 0, 0, false)
def xm_113 : xM := (yX8_mayBecome, cX8_mayBecome, 4, (some .boolean), RX8, 2, 46, 0, 0, false)
def xm_114 : xM := (yX8_prefixFor, cX8_prefixFor, 5, (some .int), RX8, 2, 46, 0, 0, false)
def xm_115 : xM := (yX8_dial, cX8_dial, 9, (some .boolean), RX8, 4, 91, 0, 0, false)
def xm_116 : xM := (yX8_isFree, cX8_isFree, 2, (some .boolean), RX8, 0, 0, 0, 0, false)
def xm_117 : xM := (yX8_hunted, cX8_hunted, 5, (some .int), RX8, 1, 21, 0, 0, false)
def xm_118 : xM := (yX8_link, cX8_link, 3, (some .int), RX8, 0, 0, 0, 0, false)
def xm_119 : xM := (yX8_findWay, cX8_findWay, 10, (some .boolean), RX8, 1, 22, 0, 0, false)
def xm_120 : xM := (yX8_idleJunctor, cX8_idleJunctor, 4, (some .int), RX8, 0, 0, 0, 0, false)
def xm_121 : xM := (yX8_complete, cX8_complete, 7, none, RX8, 4, 91, 0, 0, false)
def xm_122 : xM := (yX8_idleTrunk, cX8_idleTrunk, 6, (some .int), RX8, 0, 0, 0, 0, false)
def xm_123 : xM := (yX8_forward, cX8_forward, 9, none, RX8, 4, 91, 0, 0, false)
def xm_124 : xM := (yX8_doJob, cX8_doJob, 5, none, RX8, 5, 119, 0, 0, false)
def xm_125 : xM := (yX8_send, cX8_send, 4, none, RX8, 2, 48, 0, 0, false)
def xm_126 : xM := (yX8_pass, cX8_pass, 3, none, RX8, 4, 92, 0, 0, false)
def xm_127 : xM := (yX8_hand, cX8_hand, 4, none, RX8, 3, 69, 0, 0, false)
def xm_128 : xM := (yX8_one, cX8_one, 2, none, RX8, 6, 143, 0, 0, false)
def xm_129 : xM := (yX8_tick, cX8_tick, 3, none, RX8, 7, 164, 0, 0, false)
def xm_130 : xM := (yX8_out, cX8_out, 4, (some .boolean), RX8, 4, 92, 0, 0, false)
def xm_131 : xM := (yX8_hold, cX8_hold, 5, (some .boolean), RX8, 4, 92, 0, 0, false)
def xm_132 : xM := (yX8_tone, cX8_tone, 4, (some .int), RX8, 2, 43, 0, 0, false)
def xm_133 : xM := (yX8_rings, cX8_rings, 4, (some .boolean), RX8, 2, 43, 0, 0, false)
def xm_134 : xM := (yX8_talks, cX8_talks, 6, (some .int), RX8, 2, 43, 0, 0, false)
def xm_135 : xM := (yX8_meter, cX8_meter, 3, (some .int), RX8, 2, 43, 0, 0, false)
def xm_136 : xM := (yX8_seized, cX8_seized, 5, (some .int), RX8, 2, 43, 0, 0, false)
def xm_137 : xM := (yX8_idle, cX8_idle, 5, (some .int), RX8, 1, 22, 0, 0, false)
def xm_138 : xM := (yX8_overflow, cX8_overflow, 3, (some .int), RX8, 1, 22, 0, 0, false)
def x_ml : List xM := [xm_0, xm_1, xm_2, xm_3, xm_4, xm_5, xm_6, xm_7, xm_8, xm_9, xm_10, xm_11, xm_12, xm_13, xm_14, xm_15, xm_16, xm_17, xm_18, xm_19, xm_20, xm_21, xm_22, xm_23, xm_24, xm_25, xm_26, xm_27, xm_28, xm_29, xm_30, xm_31, xm_32, xm_33, xm_34, xm_35, xm_36, xm_37, xm_38, xm_39, xm_40, xm_41, xm_42, xm_43, xm_44, xm_45, xm_46, xm_47, xm_48, xm_49, xm_50, xm_51, xm_52, xm_53, xm_54, xm_55, xm_56, xm_57, xm_58, xm_59, xm_60, xm_61, xm_62, xm_63, xm_64, xm_65, xm_66, xm_67, xm_68, xm_69, xm_70, xm_71, xm_72, xm_73, xm_74, xm_75, xm_76, xm_77, xm_78, xm_79, xm_80, xm_81, xm_82, xm_83, xm_84, xm_85, xm_86, xm_87, xm_88, xm_89, xm_90, xm_91, xm_92, xm_93, xm_94, xm_95, xm_96, xm_97, xm_98, xm_99, xm_100, xm_101, xm_102, xm_103, xm_104, xm_105, xm_106, xm_107, xm_108, xm_109, xm_110, xm_111, xm_112, xm_113, xm_114, xm_115, xm_116, xm_117, xm_118, xm_119, xm_120, xm_121, xm_122, xm_123, xm_124, xm_125, xm_126, xm_127, xm_128, xm_129, xm_130, xm_131, xm_132, xm_133, xm_134, xm_135, xm_136, xm_137, xm_138]
def x_xm (μ : Nat) : xM := (x_ml[μ]?).getD xm_0
def b0_0 : List (Nat × xI) := [(1, x_aload 0), (4, x_objinit), (5, x_aload 0), (6, x_iload 1), (8, x_newr 20 1 24), (11, x_pfr 5 0 20), (12, x_ret)]
def t0 : List (Nat × List (Nat × xI)) := [(0, b0_0)]
def b1_0 : List (Nat × xI) := [(1, x_aload 0), (4, x_objinit), (5, x_aload 0), (8, x_newo 5 2 2 26), (9, x_dup), (11, x_iconst 8), (14, x_calli 0 2 1 24 2 26), (17, x_pfr 1 1 5), (18, x_aload 0), (21, x_stage 1), (24, x_pfr 1 2 9), (25, x_aload 0), (26, x_aload 1), (29, x_pfr 1 0 2), (30, x_ret)]
def t1 : List (Nat × List (Nat × xI)) := [(0, b1_0)]
def b2_0 : List (Nat × xI) := [(1, x_aload 0), (2, x_iload 1), (5, x_pfi 1 7), (6, x_aload 0), (7, x_dup), (10, x_gfi 1 8), (11, x_iconst 1), (12, x_iload 1), (13, x_bin (fun x y => x <<< (y &&& 31))), (14, x_bin (fun x y => x ||| y)), (17, x_pfi 1 8), (18, x_ret)]
def t2 : List (Nat × List (Nat × xI)) := [(0, b2_0)]
def b3_0 : List (Nat × xI) := [(1, x_aload 0), (4, x_stage 2), (7, x_pfr 1 2 9), (8, x_aload 0), (9, x_null 4), (12, x_pfr 1 4 4), (13, x_aload 0), (14, x_iconst 1), (17, x_pfi 1 6), (18, x_aload 0), (19, x_iconst 0), (22, x_pfi 1 8), (23, x_aload 0), (24, x_aload 0), (27, x_gfr 1 0 2), (30, x_gfi 2 0), (33, x_callv 1 2 2 0 0 0 0), (34, x_aload 0), (35, x_iload 1), (38, x_pfi 1 9), (39, x_aload 0), (40, x_iconst 0), (43, x_pfi 1 12), (44, x_ret)]
def t3 : List (Nat × List (Nat × xI)) := [(0, b3_0)]
def b4_0 : List (Nat × xI) := [(1, x_aload 0), (4, x_gfi 1 8), (5, x_iload 1), (6, x_bin (fun x y => x >>> (y &&& 31))), (7, x_iconst 1), (8, x_bin (fun x y => x &&& y)), (11, x_if (fun x => x = 0) 15), (12, x_iconst 1), (15, x_goto 16)]
def b4_15 : List (Nat × xI) := [(16, x_iconst 0), (16, x_goto 16)]
def b4_16 : List (Nat × xI) := [(17, x_zret)]
def t4 : List (Nat × List (Nat × xI)) := [(0, b4_0), (15, b4_15), (16, b4_16)]
def b5_0 : List (Nat × xI) := [(1, x_aload 0), (4, x_gfr 1 3 2), (7, x_ifnull 21), (8, x_aload 0), (11, x_gfr 1 3 2), (14, x_gfi 2 2), (17, x_if (fun x => x = 0) 21), (18, x_iconst 1), (21, x_goto 22)]
def b5_21 : List (Nat × xI) := [(22, x_iconst 0), (22, x_goto 22)]
def b5_22 : List (Nat × xI) := [(23, x_zret)]
def t5 : List (Nat × List (Nat × xI)) := [(0, b5_0), (21, b5_21), (22, b5_22)]
def b6_0 : List (Nat × xI) := [(1, x_aload 0), (4, x_gfr 1 4 4), (7, x_ifnonnull 11), (8, x_iconst 0), (11, x_goto 18)]
def b6_11 : List (Nat × xI) := [(12, x_aload 0), (15, x_gfr 1 4 4), (18, x_gfi 4 3), (18, x_goto 18)]
def b6_18 : List (Nat × xI) := [(19, x_iret)]
def t6 : List (Nat × List (Nat × xI)) := [(0, b6_0), (11, b6_11), (18, b6_18)]
def b7_0 : List (Nat × xI) := [(1, x_aload 0), (4, x_gfr 1 4 4), (7, x_ifnonnull 11), (8, x_iconst 0), (11, x_goto 18)]
def b7_11 : List (Nat × xI) := [(12, x_aload 0), (15, x_gfr 1 4 4), (18, x_gfi 4 4), (18, x_goto 18)]
def b7_18 : List (Nat × xI) := [(19, x_iret)]
def t7 : List (Nat × List (Nat × xI)) := [(0, b7_0), (11, b7_11), (18, b7_18)]
def b8_0 : List (Nat × xI) := [(1, x_aload 0), (4, x_objinit), (5, x_aload 0), (6, x_iconst 0), (9, x_pfi 2 3), (10, x_aload 0), (11, x_iload 1), (14, x_pfi 2 0), (15, x_aload 0), (16, x_iload 2), (19, x_pfi 2 1), (20, x_ret)]
def t8 : List (Nat × List (Nat × xI)) := [(0, b8_0)]
def b9_0 : List (Nat × xI) := [(1, x_aload 0), (4, x_gfi 2 0), (6, x_iconst 24), (7, x_bin (fun x y => x * y)), (8, x_aload 0), (11, x_gfi 2 1), (12, x_bin (fun x y => x + y)), (13, x_iret)]
def t9 : List (Nat × List (Nat × xI)) := [(0, b9_0)]
def b10_0 : List (Nat × xI) := [(1, x_aload 0), (4, x_gfi 2 1), (6, x_iconst 8), (7, x_idiv), (8, x_iconst 4), (9, x_bin (fun x y => x * y)), (10, x_iret)]
def t10 : List (Nat × List (Nat × xI)) := [(0, b10_0)]
def b11_0 : List (Nat × xI) := [(1, x_aload 0), (4, x_gfi 2 2), (7, x_if (fun x => ¬ x = 0) 18), (8, x_aload 0), (11, x_gfr 2 5 1), (14, x_ifnonnull 18), (15, x_iconst 1), (18, x_goto 19)]
def b11_18 : List (Nat × xI) := [(19, x_iconst 0), (19, x_goto 19)]
def b11_19 : List (Nat × xI) := [(20, x_zret)]
def t11 : List (Nat × List (Nat × xI)) := [(0, b11_0), (18, b11_18), (19, b11_19)]
def b12_0 : List (Nat × xI) := [(1, x_aload 0), (2, x_null 1), (5, x_pfr 2 5 1), (6, x_aload 0), (7, x_aload 0), (10, x_gfi 2 2), (13, x_if (fun x => x = 0) 17), (14, x_iload 1), (17, x_goto 18)]
def b12_17 : List (Nat × xI) := [(18, x_iconst 0), (18, x_goto 18)]
def b12_18 : List (Nat × xI) := [(21, x_pfi 2 3), (22, x_ret)]
def t12 : List (Nat × List (Nat × xI)) := [(0, b12_0), (17, b12_17), (18, b12_18)]
def b13_0 : List (Nat × xI) := [(1, x_aload 0), (4, x_objinit), (5, x_aload 0), (7, x_iconst 24), (10, x_newr 16 40 373), (13, x_pfr 3 1 16), (14, x_aload 0), (16, x_iconst 33), (19, x_newr 17 40 373), (22, x_pfr 3 2 17), (23, x_aload 0), (25, x_iconst 12), (28, x_newr 18 40 373), (31, x_pfr 3 3 18), (32, x_aload 0), (33, x_iconst 4), (36, x_newr 19 40 373), (39, x_pfr 3 4 19), (40, x_aload 0), (43, x_newo 5 2 40 373), (44, x_dup), (46, x_iconst 24), (49, x_calli 0 2 1 24 40 373), (52, x_pfr 3 5 5), (53, x_aload 0), (56, x_newo 5 2 40 373), (57, x_dup), (58, x_iconst 3), (61, x_calli 0 2 1 24 40 373), (64, x_pfr 3 6 5), (65, x_aload 0), (66, x_iload 1), (69, x_pfi 3 0), (70, x_iconst 0), (71, x_istore 2), (71, x_goto 71)]
def b13_71 : List (Nat × xI) := [(72, x_iload 2), (74, x_iconst 24), (77, x_icmp (fun x y => y ≤ x) 98), (78, x_aload 0), (81, x_gfr 3 1 16), (82, x_iload 2), (85, x_newo 2 6 40 373), (86, x_dup), (87, x_iload 1), (88, x_iload 2), (91, x_calli 8 3 0 0 40 373), (92, x_aast 16 2), (95, x_iinc 2 1), (98, x_goto 71)]
def b13_98 : List (Nat × xI) := [(99, x_iconst 0), (100, x_istore 2), (100, x_goto 100)]
def b13_100 : List (Nat × xI) := [(101, x_iload 2), (102, x_iconst 4), (105, x_icmp (fun x y => y ≤ x) 126), (106, x_aload 0), (109, x_gfr 3 4 19), (110, x_iload 2), (113, x_newo 5 2 40 373), (114, x_dup), (116, x_iconst 6), (119, x_calli 0 2 1 24 40 373), (120, x_aast 19 5), (123, x_iinc 2 1), (126, x_goto 100)]
def b13_126 : List (Nat × xI) := [(127, x_ret)]
def t13 : List (Nat × List (Nat × xI)) := [(0, b13_0), (71, b13_71), (98, b13_98), (100, b13_100), (126, b13_126)]
def b14_0 : List (Nat × xI) := [(3, x_iconst 1000), (4, x_aload 0), (7, x_gfi 3 0), (8, x_bin (fun x y => x * y)), (9, x_iload 1), (10, x_bin (fun x y => x + y)), (11, x_iret)]
def t14 : List (Nat × List (Nat × xI)) := [(0, b14_0)]
def b15_0 : List (Nat × xI) := [(1, x_iconst 0), (2, x_istore 2), (2, x_goto 2)]
def b15_2 : List (Nat × xI) := [(3, x_iload 2), (4, x_aload 0), (7, x_gfi 3 7), (10, x_icmp (fun x y => y ≤ x) 36), (11, x_aload 0), (14, x_gfr 3 3 18), (15, x_iload 2), (16, x_aald 18 4), (19, x_gfi 4 0), (20, x_iload 1), (23, x_icmp (fun x y => ¬ x = y) 30), (24, x_aload 0), (27, x_gfr 3 3 18), (28, x_iload 2), (29, x_aald 18 4), (30, x_aret 4)]
def b15_30 : List (Nat × xI) := [(33, x_iinc 2 1), (36, x_goto 2)]
def b15_36 : List (Nat × xI) := [(37, x_null 4), (38, x_aret 4)]
def t15 : List (Nat × List (Nat × xI)) := [(0, b15_0), (2, b15_2), (30, b15_30), (36, b15_36)]
def b16_0 : List (Nat × xI) := [(1, x_iload 0), (2, x_istore 2), (2, x_goto 2)]
def b16_2 : List (Nat × xI) := [(3, x_iload 2), (4, x_iload 1), (7, x_icmp (fun x y => x < y) 26), (8, x_iload 2), (11, x_if (fun x => x ≤ 0) 26), (12, x_iload 2), (13, x_iload 1), (16, x_icmp (fun x y => ¬ x = y) 18), (17, x_iconst 1), (18, x_zret)]
def b16_18 : List (Nat × xI) := [(19, x_iload 2), (21, x_iconst 10), (22, x_idiv), (23, x_istore 2), (26, x_goto 2)]
def b16_26 : List (Nat × xI) := [(27, x_iconst 0), (28, x_zret)]
def t16 : List (Nat × List (Nat × xI)) := [(0, b16_0), (2, b16_2), (18, b16_18), (26, b16_26)]
def b17_0 : List (Nat × xI) := [(1, x_iconst 0), (2, x_istore 2), (2, x_goto 2)]
def b17_2 : List (Nat × xI) := [(3, x_iload 2), (4, x_aload 0), (7, x_gfi 3 7), (10, x_icmp (fun x y => y ≤ x) 39), (11, x_iload 1), (12, x_aload 0), (15, x_gfr 3 3 18), (16, x_iload 2), (17, x_aald 18 4), (20, x_gfi 4 0), (23, x_calln 16 2 0 0 0 0), (26, x_if (fun x => x = 0) 33), (27, x_aload 0), (30, x_gfr 3 3 18), (31, x_iload 2), (32, x_aald 18 4), (33, x_aret 4)]
def b17_33 : List (Nat × xI) := [(36, x_iinc 2 1), (39, x_goto 2)]
def b17_39 : List (Nat × xI) := [(40, x_null 4), (41, x_aret 4)]
def t17 : List (Nat × List (Nat × xI)) := [(0, b17_0), (2, b17_2), (33, b17_33), (39, b17_39)]
def b18_0 : List (Nat × xI) := [(1, x_iconst 0), (2, x_istore 2), (2, x_goto 2)]
def b18_2 : List (Nat × xI) := [(3, x_iload 2), (4, x_aload 0), (7, x_gfi 3 7), (10, x_icmp (fun x y => y ≤ x) 34), (11, x_aload 0), (14, x_gfr 3 3 18), (15, x_iload 2), (16, x_aald 18 4), (19, x_gfi 4 0), (20, x_iload 1), (23, x_calln 16 2 0 0 0 0), (26, x_if (fun x => x = 0) 28), (27, x_iconst 1), (28, x_zret)]
def b18_28 : List (Nat × xI) := [(31, x_iinc 2 1), (34, x_goto 2)]
def b18_34 : List (Nat × xI) := [(35, x_iconst 0), (36, x_zret)]
def t18 : List (Nat × List (Nat × xI)) := [(0, b18_0), (2, b18_2), (28, b18_28), (34, b18_34)]
def b19_0 : List (Nat × xI) := [(1, x_aload 0), (4, x_gfi 3 7), (6, x_iconst 12), (9, x_icmp (fun x y => y ≤ x) 29), (10, x_aload 0), (11, x_iload 1), (14, x_callv 3 17 2 0 0 0 0), (17, x_ifnonnull 29), (18, x_aload 0), (19, x_iload 1), (22, x_callv 3 18 2 0 0 0 0), (25, x_if (fun x => ¬ x = 0) 29), (26, x_iconst 1), (29, x_goto 30)]
def b19_29 : List (Nat × xI) := [(30, x_iconst 0), (30, x_goto 30)]
def b19_30 : List (Nat × xI) := [(31, x_zret)]
def t19 : List (Nat × List (Nat × xI)) := [(0, b19_0), (29, b19_29), (30, b19_30)]
def b20_0 : List (Nat × xI) := [(1, x_aload 0), (4, x_gfi 3 7), (6, x_iconst 12), (9, x_icmp (fun x y => y ≤ x) 29), (10, x_aload 0), (13, x_gfr 3 3 18), (14, x_aload 0), (17, x_gfi 3 7), (18, x_aload 1), (19, x_aast 18 4), (20, x_aload 0), (21, x_dup), (24, x_gfi 3 7), (25, x_iconst 1), (26, x_bin (fun x y => x + y)), (29, x_pfi 3 7), (29, x_goto 29)]
def b20_29 : List (Nat × xI) := [(30, x_ret)]
def t20 : List (Nat × List (Nat × xI)) := [(0, b20_0), (29, b20_29)]
def b21_0 : List (Nat × xI) := [(1, x_iconst 0), (2, x_istore 2), (2, x_goto 2)]
def b21_2 : List (Nat × xI) := [(3, x_iload 2), (4, x_aload 0), (7, x_gfi 5 1), (10, x_icmp (fun x y => y ≤ x) 28), (11, x_aload 0), (14, x_gfr 5 0 20), (15, x_iload 2), (16, x_ald 20), (17, x_iload 1), (20, x_icmp (fun x y => ¬ x = y) 22), (21, x_iconst 1), (22, x_zret)]
def b21_22 : List (Nat × xI) := [(25, x_iinc 2 1), (28, x_goto 2)]
def b21_28 : List (Nat × xI) := [(29, x_iconst 0), (30, x_zret)]
def t21 : List (Nat × List (Nat × xI)) := [(0, b21_0), (2, b21_2), (22, b21_22), (28, b21_28)]
def b22_0 : List (Nat × xI) := [(1, x_iconst 0), (2, x_istore 2), (2, x_goto 2)]
def b22_2 : List (Nat × xI) := [(3, x_iload 2), (4, x_iconst 4), (7, x_icmp (fun x y => y ≤ x) 28), (8, x_aload 0), (11, x_gfr 3 4 19), (12, x_iload 2), (13, x_aald 19 5), (14, x_iload 1), (17, x_callv 5 21 2 0 0 0 0), (20, x_if (fun x => x = 0) 22), (21, x_iconst 1), (22, x_zret)]
def b22_22 : List (Nat × xI) := [(25, x_iinc 2 1), (28, x_goto 2)]
def b22_28 : List (Nat × xI) := [(29, x_iconst 0), (30, x_zret)]
def t22 : List (Nat × List (Nat × xI)) := [(0, b22_0), (2, b22_2), (22, b22_22), (28, b22_28)]
def b23_0 : List (Nat × xI) := [(1, x_iload 1), (4, x_if (fun x => x < 0) 21), (5, x_iload 1), (6, x_aload 0), (9, x_gfi 5 1), (12, x_icmp (fun x y => y ≤ x) 21), (13, x_aload 0), (16, x_gfr 5 0 20), (17, x_iload 1), (18, x_ald 20), (21, x_goto 22)]
def b23_21 : List (Nat × xI) := [(22, x_iconst (-1)), (22, x_goto 22)]
def b23_22 : List (Nat × xI) := [(23, x_iret)]
def t23 : List (Nat × List (Nat × xI)) := [(0, b23_0), (21, b23_21), (22, b23_22)]
def b24_0 : List (Nat × xI) := [(1, x_aload 0), (4, x_gfi 5 1), (5, x_iret)]
def t24 : List (Nat × List (Nat × xI)) := [(0, b24_0)]
def b25_0 : List (Nat × xI) := [(1, x_iload 0), (2, x_iload 1), (5, x_icmp (fun x y => x < y) 14), (6, x_iload 0), (7, x_iload 2), (10, x_icmp (fun x y => y < x) 14), (11, x_iconst 1), (14, x_goto 15)]
def b25_14 : List (Nat × xI) := [(15, x_iconst 0), (15, x_goto 15)]
def b25_15 : List (Nat × xI) := [(16, x_zret)]
def t25 : List (Nat × List (Nat × xI)) := [(0, b25_0), (14, b25_14), (15, b25_15)]
def b26_0 : List (Nat × xI) := [(1, x_iload 0), (2, x_iconst 0), (4, x_iconst 23), (7, x_call 25 3 0 0 0 0), (8, x_zret)]
def t26 : List (Nat × List (Nat × xI)) := [(0, b26_0)]
def b27_0 : List (Nat × xI) := [(1, x_iconst 0), (2, x_istore 3), (2, x_goto 2)]
def b27_2 : List (Nat × xI) := [(3, x_iload 3), (4, x_aload 1), (7, x_callv 5 24 1 0 0 0 0), (10, x_icmp (fun x y => y ≤ x) 47), (11, x_aload 1), (12, x_iload 3), (15, x_callv 5 23 2 0 0 0 0), (17, x_istore 4), (19, x_iload 4), (22, x_calln 26 1 0 0 0 0), (25, x_if (fun x => x = 0) 41), (26, x_aload 0), (29, x_gfr 3 1 16), (31, x_iload 4), (32, x_aald 16 2), (35, x_callv 2 11 1 0 0 0 0), (38, x_if (fun x => x = 0) 41), (40, x_iload 4), (41, x_iret)]
def b27_41 : List (Nat × xI) := [(44, x_iinc 3 1), (47, x_goto 2)]
def b27_47 : List (Nat × xI) := [(48, x_iload 2), (49, x_iret)]
def t27 : List (Nat × List (Nat × xI)) := [(0, b27_0), (2, b27_2), (41, b27_41), (47, b27_47)]
def b28_0 : List (Nat × xI) := [(1, x_iconst 0), (2, x_istore 2), (2, x_goto 2)]
def b28_2 : List (Nat × xI) := [(3, x_iload 2), (4, x_iconst 4), (7, x_icmp (fun x y => y ≤ x) 39), (8, x_aload 0), (11, x_gfr 3 4 19), (12, x_iload 2), (13, x_aald 19 5), (14, x_iconst 0), (17, x_callv 5 23 2 0 0 0 0), (18, x_iload 1), (21, x_icmp (fun x y => ¬ x = y) 33), (22, x_aload 0), (23, x_aload 0), (26, x_gfr 3 4 19), (27, x_iload 2), (28, x_aald 19 5), (29, x_iload 1), (32, x_callv 3 27 3 0 0 0 0), (33, x_iret)]
def b28_33 : List (Nat × xI) := [(36, x_iinc 2 1), (39, x_goto 2)]
def b28_39 : List (Nat × xI) := [(40, x_iload 1), (41, x_iret)]
def t28 : List (Nat × List (Nat × xI)) := [(0, b28_0), (2, b28_2), (33, b28_33), (39, b28_39)]
def b29_0 : List (Nat × xI) := [(1, x_iload 1), (2, x_istore 3), (2, x_goto 2)]
def b29_2 : List (Nat × xI) := [(3, x_iload 3), (4, x_iload 2), (7, x_icmp (fun x y => y ≤ x) 24), (8, x_aload 0), (11, x_gfr 3 2 17), (12, x_iload 3), (13, x_aald 17 1), (16, x_ifnonnull 18), (17, x_iload 3), (18, x_iret)]
def b29_18 : List (Nat × xI) := [(21, x_iinc 3 1), (24, x_goto 2)]
def b29_24 : List (Nat × xI) := [(25, x_iconst (-1)), (26, x_iret)]
def t29 : List (Nat × List (Nat × xI)) := [(0, b29_0), (2, b29_2), (18, b29_18), (24, b29_24)]
def b30_0 : List (Nat × xI) := [(1, x_iconst 0), (2, x_istore 3), (3, x_iload 1), (5, x_istore 4), (5, x_goto 5)]
def b30_5 : List (Nat × xI) := [(7, x_iload 4), (8, x_iload 2), (11, x_icmp (fun x y => y ≤ x) 30), (12, x_aload 0), (15, x_gfr 3 2 17), (17, x_iload 4), (18, x_aald 17 1), (21, x_ifnonnull 24), (24, x_iinc 3 1), (24, x_goto 24)]
def b30_24 : List (Nat × xI) := [(27, x_iinc 4 1), (30, x_goto 5)]
def b30_30 : List (Nat × xI) := [(31, x_iload 3), (32, x_iret)]
def t30 : List (Nat × List (Nat × xI)) := [(0, b30_0), (5, b30_5), (24, b30_24), (30, b30_30)]
def b31_0 : List (Nat × xI) := [(1, x_iload 2), (3, x_istore 4), (3, x_goto 3)]
def b31_3 : List (Nat × xI) := [(5, x_iload 4), (6, x_iconst 4), (9, x_icmp (fun x y => y ≤ x) 50), (10, x_aload 1), (13, x_callv 2 10 1 0 0 0 0), (14, x_aload 0), (17, x_gfi 3 8), (19, x_iload 4), (20, x_bin (fun x y => x + y)), (21, x_iconst 4), (22, x_irem), (23, x_bin (fun x y => x + y)), (25, x_istore 5), (27, x_iload 5), (28, x_iload 3), (31, x_icmp (fun x y => x = y) 44), (32, x_aload 0), (35, x_gfr 3 2 17), (37, x_iload 5), (38, x_aald 17 1), (41, x_ifnonnull 44), (43, x_iload 5), (44, x_iret)]
def b31_44 : List (Nat × xI) := [(47, x_iinc 4 1), (50, x_goto 3)]
def b31_50 : List (Nat × xI) := [(51, x_iconst (-1)), (52, x_iret)]
def t31 : List (Nat × List (Nat × xI)) := [(0, b31_0), (3, b31_3), (44, b31_44), (50, b31_50)]
def b32_0 : List (Nat × xI) := [(1, x_aload 0), (4, x_objinit), (5, x_aload 0), (8, x_newo 5 2 2 26), (9, x_dup), (10, x_iconst 3), (13, x_calli 0 2 1 24 2 26), (16, x_pfr 4 2 5), (17, x_aload 0), (18, x_iload 1), (21, x_pfi 4 0), (22, x_aload 0), (23, x_iload 2), (26, x_pfz 4 1), (27, x_ret)]
def t32 : List (Nat × List (Nat × xI)) := [(0, b32_0)]
def b33_0 : List (Nat × xI) := [(1, x_aload 0), (4, x_gfi 4 1), (7, x_if (fun x => ¬ x = 0) 33), (8, x_aload 0), (11, x_gfr 4 2 5), (14, x_callv 5 24 1 0 0 0 0), (15, x_iconst 3), (18, x_icmp (fun x y => y ≤ x) 33), (19, x_aload 0), (22, x_gfr 4 2 5), (23, x_iload 1), (26, x_callv 5 21 2 0 0 0 0), (29, x_if (fun x => ¬ x = 0) 33), (30, x_iconst 1), (33, x_goto 34)]
def b33_33 : List (Nat × xI) := [(34, x_iconst 0), (34, x_goto 34)]
def b33_34 : List (Nat × xI) := [(35, x_zret)]
def t33 : List (Nat × List (Nat × xI)) := [(0, b33_0), (33, b33_33), (34, b33_34)]
def b34_0 : List (Nat × xI) := [(1, x_iconst 0), (2, x_istore 1), (3, x_iload 0), (4, x_istore 2), (4, x_goto 4)]
def b34_4 : List (Nat × xI) := [(5, x_iload 2), (7, x_iconst 10), (10, x_icmp (fun x y => x < y) 21), (13, x_iinc 1 1), (14, x_iload 2), (16, x_iconst 10), (17, x_idiv), (18, x_istore 2), (21, x_goto 4)]
def b34_21 : List (Nat × xI) := [(22, x_iload 1), (23, x_iret)]
def t34 : List (Nat × List (Nat × xI)) := [(0, b34_0), (4, b34_4), (21, b34_21)]
def b35_0 : List (Nat × xI) := [(1, x_iload 1), (4, x_calln 34 1 0 0 0 0), (5, x_aload 0), (8, x_gfi 4 0), (11, x_calln 34 1 0 0 0 0), (12, x_bin (fun x y => x - y)), (13, x_iret)]
def t35 : List (Nat × List (Nat × xI)) := [(0, b35_0)]
def b36_0 : List (Nat × xI) := [(1, x_iload 1), (2, x_istore 2), (3, x_aload 0), (4, x_iload 1), (7, x_callv 4 35 2 0 0 0 0), (8, x_istore 3), (8, x_goto 8)]
def b36_8 : List (Nat × xI) := [(9, x_iload 3), (10, x_iconst 2), (13, x_icmp (fun x y => x ≤ y) 24), (14, x_iload 2), (16, x_iconst 10), (17, x_idiv), (18, x_istore 2), (21, x_iinc 3 (-1)), (24, x_goto 8)]
def b36_24 : List (Nat × xI) := [(25, x_iload 2), (27, x_iconst 100), (28, x_irem), (29, x_iret)]
def t36 : List (Nat × List (Nat × xI)) := [(0, b36_0), (8, b36_8), (24, b36_24)]
def b37_0 : List (Nat × xI) := [(1, x_aload 0), (4, x_gfi 5 1), (5, x_aload 0), (8, x_gfr 5 0 20), (9, x_alen 20), (12, x_icmp (fun x y => y ≤ x) 32), (13, x_aload 0), (16, x_gfr 5 0 20), (17, x_aload 0), (20, x_gfi 5 1), (21, x_iload 1), (22, x_ast 20), (23, x_aload 0), (24, x_dup), (27, x_gfi 5 1), (28, x_iconst 1), (29, x_bin (fun x y => x + y)), (32, x_pfi 5 1), (32, x_goto 32)]
def b37_32 : List (Nat × xI) := [(33, x_ret)]
def t37 : List (Nat × List (Nat × xI)) := [(0, b37_0), (32, b37_32)]
def b38_0 : List (Nat × xI) := [(1, x_iconst 0), (2, x_istore 2), (3, x_iconst 0), (4, x_istore 3), (4, x_goto 4)]
def b38_4 : List (Nat × xI) := [(5, x_iload 3), (6, x_aload 0), (9, x_gfi 5 1), (12, x_icmp (fun x y => y ≤ x) 43), (13, x_aload 0), (16, x_gfr 5 0 20), (17, x_iload 3), (18, x_ald 20), (19, x_iload 1), (22, x_icmp (fun x y => x = y) 37), (23, x_aload 0), (26, x_gfr 5 0 20), (27, x_iload 2), (28, x_aload 0), (31, x_gfr 5 0 20), (32, x_iload 3), (33, x_ald 20), (34, x_ast 20), (37, x_iinc 2 1), (37, x_goto 37)]
def b38_37 : List (Nat × xI) := [(40, x_iinc 3 1), (43, x_goto 4)]
def b38_43 : List (Nat × xI) := [(44, x_aload 0), (45, x_iload 2), (48, x_pfi 5 1), (49, x_ret)]
def t38 : List (Nat × List (Nat × xI)) := [(0, b38_0), (4, b38_4), (37, b38_37), (43, b38_43)]
def b39_0 : List (Nat × xI) := [(1, x_aload 0), (2, x_iconst 0), (5, x_pfi 5 1), (6, x_ret)]
def t39 : List (Nat × List (Nat × xI)) := [(0, b39_0)]
def b40_0 : List (Nat × xI) := [(1, x_aload 0), (4, x_objinit), (5, x_aload 0), (6, x_iload 1), (9, x_pfi 6 0), (10, x_aload 0), (11, x_iload 2), (14, x_pfi 6 1), (15, x_ret)]
def t40 : List (Nat × List (Nat × xI)) := [(0, b40_0)]
def b41_0 : List (Nat × xI) := [(1, x_aload 0), (4, x_gfi 6 2), (7, x_if (fun x => ¬ x = 0) 18), (8, x_aload 0), (11, x_gfr 6 3 1), (14, x_ifnonnull 18), (15, x_iconst 1), (18, x_goto 19)]
def b41_18 : List (Nat × xI) := [(19, x_iconst 0), (19, x_goto 19)]
def b41_19 : List (Nat × xI) := [(20, x_zret)]
def t41 : List (Nat × List (Nat × xI)) := [(0, b41_0), (18, b41_18), (19, b41_19)]
def b42_0 : List (Nat × xI) := [(1, x_aload 0), (4, x_gfi 6 0), (5, x_iload 1), (8, x_icmp (fun x y => x = y) 16), (9, x_aload 0), (12, x_gfi 6 1), (13, x_iload 1), (16, x_icmp (fun x y => ¬ x = y) 20), (16, x_goto 16)]
def b42_16 : List (Nat × xI) := [(17, x_iconst 1), (20, x_goto 21)]
def b42_20 : List (Nat × xI) := [(21, x_iconst 0), (21, x_goto 21)]
def b42_21 : List (Nat × xI) := [(22, x_zret)]
def t42 : List (Nat × List (Nat × xI)) := [(0, b42_0), (16, b42_16), (20, b42_20), (21, b42_21)]
def b43_0 : List (Nat × xI) := [(1, x_aload 0), (4, x_objinit), (5, x_aload 0), (6, x_iconst 3), (9, x_newr 11 1000 6000), (12, x_pfr 7 0 11), (13, x_aload 0), (15, x_iconst 72), (18, x_newr 12 1000 6000), (21, x_pfr 7 1 12), (22, x_aload 0), (24, x_iconst 16), (27, x_newr 13 1000 6000), (30, x_pfr 7 2 13), (31, x_aload 0), (32, x_iconst 3), (33, x_iconst 3), (37, x_newm 14 15 1000 6000), (40, x_pfr 7 3 14), (41, x_iconst 0), (42, x_istore 1), (42, x_goto 42)]
def b43_42 : List (Nat × xI) := [(43, x_iload 1), (44, x_iconst 3), (47, x_icmp (fun x y => y ≤ x) 110), (48, x_aload 0), (51, x_gfr 7 0 11), (52, x_iload 1), (55, x_newo 3 9 1000 6000), (56, x_dup), (57, x_iload 1), (60, x_calli 13 2 40 373 1000 6000), (61, x_aast 11 3), (62, x_iconst 0), (63, x_istore 2), (63, x_goto 63)]
def b43_63 : List (Nat × xI) := [(64, x_iload 2), (66, x_iconst 24), (69, x_icmp (fun x y => y ≤ x) 104), (70, x_aload 0), (73, x_gfr 7 1 12), (74, x_iload 1), (76, x_iconst 24), (77, x_bin (fun x y => x * y)), (78, x_iload 2), (79, x_bin (fun x y => x + y)), (82, x_newo 1 15 1000 6000), (83, x_dup), (84, x_aload 0), (87, x_gfr 7 0 11), (88, x_iload 1), (89, x_aald 11 3), (92, x_gfr 3 1 16), (93, x_iload 2), (94, x_aald 16 2), (97, x_calli 1 2 2 26 1000 6000), (98, x_aast 12 1), (101, x_iinc 2 1), (104, x_goto 63)]
def b43_104 : List (Nat × xI) := [(107, x_iinc 1 1), (110, x_goto 42)]
def b43_110 : List (Nat × xI) := [(111, x_ret)]
def t43 : List (Nat × List (Nat × xI)) := [(0, b43_0), (42, b43_42), (63, b43_63), (104, b43_104), (110, b43_110)]
def b44_0 : List (Nat × xI) := [(1, x_iload 0), (2, x_iconst 0), (3, x_iconst 2), (6, x_call 25 3 0 0 0 0), (7, x_zret)]
def t44 : List (Nat × List (Nat × xI)) := [(0, b44_0)]
def b45_0 : List (Nat × xI) := [(1, x_iload 0), (4, x_if (fun x => ¬ x = 0) 12), (7, x_throw 1 1 6)]
def b45_12 : List (Nat × xI) := [(13, x_ret)]
def t45 : List (Nat × List (Nat × xI)) := [(0, b45_0), (12, b45_12)]
def b46_0 : List (Nat × xI) := [(1, x_iload 0), (4, x_if (fun x => ¬ x = 0) 12), (7, x_throw 2 1 6)]
def b46_12 : List (Nat × xI) := [(13, x_ret)]
def t46 : List (Nat × List (Nat × xI)) := [(0, b46_0), (12, b46_12)]
def b47_0 : List (Nat × xI) := [(1, x_iload 1), (4, x_call 44 1 0 0 3 16), (7, x_if (fun x => x = 0) 23), (8, x_iload 2), (11, x_call 44 1 0 0 3 16), (14, x_if (fun x => x = 0) 23), (15, x_iload 1), (16, x_iload 2), (19, x_icmp (fun x y => x = y) 23), (20, x_iconst 1), (23, x_goto 24)]
def b47_23 : List (Nat × xI) := [(24, x_iconst 0), (24, x_goto 24)]
def b47_24 : List (Nat × xI) := [(27, x_call 45 1 1 6 3 16), (28, x_aload 0), (31, x_gfi 7 4), (33, x_iconst 16), (36, x_icmp (fun x y => y ≤ x) 40), (37, x_iconst 1), (40, x_goto 41)]
def b47_40 : List (Nat × xI) := [(41, x_iconst 0), (41, x_goto 41)]
def b47_41 : List (Nat × xI) := [(44, x_call 46 1 1 6 3 16), (45, x_aload 0), (48, x_gfr 7 2 13), (49, x_aload 0), (52, x_gfi 7 4), (55, x_newo 6 4 3 16), (56, x_dup), (57, x_iload 1), (58, x_iload 2), (61, x_calli 40 3 0 0 3 16), (62, x_aast 13 6), (63, x_aload 0), (64, x_dup), (67, x_gfi 7 4), (68, x_iconst 1), (69, x_bin (fun x y => x + y)), (72, x_pfi 7 4), (73, x_aload 0), (76, x_gfi 7 4), (77, x_iconst 1), (78, x_bin (fun x y => x - y)), (79, x_iret)]
def t47 : List (Nat × List (Nat × xI)) := [(0, b47_0), (23, b47_23), (24, b47_24), (40, b47_40), (41, b47_41)]
def b48_0 : List (Nat × xI) := [(1, x_iload 0), (3, x_iconst 10), (5, x_iconst 19), (8, x_call 25 3 0 0 0 0), (11, x_if (fun x => ¬ x = 0) 36), (12, x_iload 0), (14, x_iconst 100), (17, x_iconst 199), (20, x_call 25 3 0 0 0 0), (23, x_if (fun x => ¬ x = 0) 36), (24, x_iload 0), (27, x_iconst 1000), (30, x_iconst 1999), (33, x_call 25 3 0 0 0 0), (36, x_if (fun x => x = 0) 40), (36, x_goto 36)]
def b48_36 : List (Nat × xI) := [(37, x_iconst 1), (40, x_goto 41)]
def b48_40 : List (Nat × xI) := [(41, x_iconst 0), (41, x_goto 41)]
def b48_41 : List (Nat × xI) := [(42, x_zret)]
def t48 : List (Nat × List (Nat × xI)) := [(0, b48_0), (36, b48_36), (40, b48_40), (41, b48_41)]
def b49_0 : List (Nat × xI) := [(1, x_iload 1), (4, x_call 44 1 0 0 7 55), (7, x_if (fun x => x = 0) 25), (8, x_iload 3), (11, x_call 44 1 0 0 7 55), (14, x_if (fun x => x = 0) 25), (15, x_iload 2), (18, x_call 48 1 0 0 7 55), (21, x_if (fun x => x = 0) 25), (22, x_iconst 1), (25, x_goto 26)]
def b49_25 : List (Nat × xI) := [(26, x_iconst 0), (26, x_goto 26)]
def b49_26 : List (Nat × xI) := [(29, x_call 45 1 1 6 7 55), (31, x_iload 4), (32, x_iconst 0), (34, x_iconst 99), (37, x_call 25 3 0 0 7 55), (40, x_if (fun x => x = 0) 56), (42, x_iload 5), (43, x_iconst 0), (46, x_iconst 1000), (49, x_call 25 3 0 0 7 55), (52, x_if (fun x => x = 0) 56), (53, x_iconst 1), (56, x_goto 57)]
def b49_56 : List (Nat × xI) := [(57, x_iconst 0), (57, x_goto 57)]
def b49_57 : List (Nat × xI) := [(60, x_call 45 1 1 6 7 55), (61, x_aload 0), (64, x_gfr 7 0 11), (65, x_iload 1), (66, x_aald 11 3), (68, x_astore 6), (70, x_aload 6), (71, x_iload 2), (74, x_callv 3 15 2 0 0 7 55), (76, x_astore 7), (78, x_aload 7), (81, x_ifnonnull 120), (83, x_aload 6), (84, x_iload 2), (87, x_callv 3 19 2 0 0 7 55), (90, x_call 46 1 1 6 7 55), (93, x_newo 4 5 7 55), (94, x_dup), (95, x_iload 2), (96, x_iload 3), (97, x_iload 1), (100, x_icmp (fun x y => ¬ x = y) 104), (101, x_iconst 1), (104, x_goto 105)]
def b49_104 : List (Nat × xI) := [(105, x_iconst 0), (105, x_goto 105)]
def b49_105 : List (Nat × xI) := [(108, x_calli 32 3 2 26 7 55), (110, x_astore 7), (112, x_aload 6), (114, x_aload 7), (117, x_callv 3 20 2 0 0 7 55), (120, x_goto 142)]
def b49_120 : List (Nat × xI) := [(121, x_iload 3), (122, x_iload 1), (125, x_icmp (fun x y => x = y) 138), (127, x_aload 7), (128, x_iload 3), (131, x_callv 4 33 2 0 0 7 55), (134, x_if (fun x => x = 0) 138), (135, x_iconst 1), (138, x_goto 139)]
def b49_138 : List (Nat × xI) := [(139, x_iconst 0), (139, x_goto 139)]
def b49_139 : List (Nat × xI) := [(142, x_call 46 1 1 6 7 55), (142, x_goto 142)]
def b49_142 : List (Nat × xI) := [(144, x_aload 7), (147, x_gfi 4 1), (150, x_if (fun x => ¬ x = 0) 159), (152, x_aload 7), (155, x_gfr 4 2 5), (156, x_iload 3), (159, x_callv 5 37 2 0 0 7 55), (159, x_goto 159)]
def b49_159 : List (Nat × xI) := [(161, x_aload 7), (163, x_iload 4), (166, x_pfi 4 3), (168, x_aload 7), (170, x_iload 5), (173, x_pfi 4 4), (175, x_aload 7), (178, x_gfr 4 2 5), (181, x_callv 5 24 1 0 0 7 55), (182, x_iret)]
def t49 : List (Nat × List (Nat × xI)) := [(0, b49_0), (25, b49_25), (26, b49_26), (56, b49_56), (57, b49_57), (104, b49_104), (105, b49_105), (120, b49_120), (138, b49_138), (139, b49_139), (142, b49_142), (159, b49_159)]
def b50_0 : List (Nat × xI) := [(1, x_iload 1), (4, x_call 44 1 0 0 2 12), (7, x_if (fun x => x = 0) 27), (8, x_iload 2), (9, x_iconst 0), (10, x_iconst 3), (13, x_call 25 3 0 0 2 12), (16, x_if (fun x => x = 0) 27), (17, x_iload 3), (20, x_call 26 1 0 0 2 12), (23, x_if (fun x => x = 0) 27), (24, x_iconst 1), (27, x_goto 28)]
def b50_27 : List (Nat × xI) := [(28, x_iconst 0), (28, x_goto 28)]
def b50_28 : List (Nat × xI) := [(31, x_call 45 1 1 6 2 12), (32, x_aload 0), (35, x_gfr 7 0 11), (36, x_iload 1), (37, x_aald 11 3), (40, x_gfr 3 4 19), (41, x_iload 2), (42, x_aald 19 5), (44, x_astore 4), (46, x_aload 4), (49, x_callv 5 24 1 0 0 2 12), (51, x_iconst 6), (54, x_icmp (fun x y => y ≤ x) 71), (55, x_aload 0), (58, x_gfr 7 0 11), (59, x_iload 1), (60, x_aald 11 3), (61, x_iload 3), (64, x_callv 3 22 2 0 0 2 12), (67, x_if (fun x => ¬ x = 0) 71), (68, x_iconst 1), (71, x_goto 72)]
def b50_71 : List (Nat × xI) := [(72, x_iconst 0), (72, x_goto 72)]
def b50_72 : List (Nat × xI) := [(75, x_call 46 1 1 6 2 12), (77, x_aload 4), (78, x_iload 3), (81, x_callv 5 37 2 0 0 2 12), (83, x_aload 4), (86, x_callv 5 24 1 0 0 2 12), (87, x_iret)]
def t50 : List (Nat × List (Nat × xI)) := [(0, b50_0), (27, b50_27), (28, b50_28), (71, b50_71), (72, b50_72)]
def b51_0 : List (Nat × xI) := [(1, x_iload 1), (4, x_call 44 1 0 0 1 6), (7, x_if (fun x => x = 0) 18), (8, x_iload 2), (11, x_call 26 1 0 0 1 6), (14, x_if (fun x => x = 0) 18), (15, x_iconst 1), (18, x_goto 19)]
def b51_18 : List (Nat × xI) := [(19, x_iconst 0), (19, x_goto 19)]
def b51_19 : List (Nat × xI) := [(22, x_call 45 1 1 6 1 6), (23, x_aload 0), (26, x_gfr 7 0 11), (27, x_iload 1), (28, x_aald 11 3), (31, x_gfr 3 1 16), (32, x_iload 2), (33, x_aald 16 2), (34, x_aret 2)]
def t51 : List (Nat × List (Nat × xI)) := [(0, b51_0), (18, b51_18), (19, b51_19)]
def b52_0 : List (Nat × xI) := [(1, x_iload 1), (4, x_iconst 1000), (5, x_idiv), (6, x_istore 3), (7, x_iload 1), (10, x_iconst 1000), (11, x_irem), (13, x_istore 4), (14, x_iload 1), (17, x_iconst 5000), (20, x_icmp (fun x y => x < y) 49), (21, x_iload 1), (24, x_iconst 5000), (25, x_bin (fun x y => x - y)), (26, x_aload 0), (29, x_gfi 7 4), (32, x_icmp (fun x y => y ≤ x) 78), (33, x_aload 0), (36, x_gfr 7 2 13), (37, x_iload 1), (40, x_iconst 5000), (41, x_bin (fun x y => x - y)), (42, x_aald 13 6), (43, x_aload 2), (46, x_pfr 6 3 1), (49, x_goto 78)]
def b52_49 : List (Nat × xI) := [(50, x_iload 1), (53, x_if (fun x => x < 0) 78), (54, x_iload 3), (55, x_iconst 3), (58, x_icmp (fun x y => y ≤ x) 78), (60, x_iload 4), (62, x_iconst 33), (65, x_icmp (fun x y => y ≤ x) 78), (66, x_aload 0), (69, x_gfr 7 0 11), (70, x_iload 3), (71, x_aald 11 3), (74, x_gfr 3 2 17), (76, x_iload 4), (77, x_aload 2), (78, x_aast 17 1), (78, x_goto 78)]
def b52_78 : List (Nat × xI) := [(79, x_ret)]
def t52 : List (Nat × List (Nat × xI)) := [(0, b52_0), (49, b52_49), (78, b52_78)]
def b53_0 : List (Nat × xI) := [(1, x_aload 0), (2, x_iload 2), (3, x_aload 1), (6, x_callv 7 52 3 0 0 0 0), (7, x_aload 1), (10, x_gfr 1 1 5), (11, x_iload 2), (14, x_callv 5 37 2 0 0 0 0), (15, x_ret)]
def t53 : List (Nat × List (Nat × xI)) := [(0, b53_0)]
def b54_0 : List (Nat × xI) := [(1, x_aload 0), (4, x_gfr 7 1 12), (5, x_aload 2), (8, x_callv 2 9 1 0 0 0 0), (9, x_aald 12 1), (11, x_astore 4), (13, x_aload 4), (14, x_aload 1), (15, x_iload 3), (18, x_callv 3 14 2 0 0 0 0), (21, x_callv 1 3 2 0 0 0 0), (22, x_aload 2), (24, x_aload 4), (27, x_pfr 2 5 1), (28, x_aload 2), (29, x_iconst 1), (32, x_pfi 2 3), (33, x_aload 0), (35, x_aload 4), (37, x_aload 4), (40, x_gfi 1 9), (43, x_callv 7 53 3 0 0 0 0), (44, x_ret)]
def t54 : List (Nat × List (Nat × xI)) := [(0, b54_0)]
def b55_0 : List (Nat × xI) := [(1, x_aload 1), (3, x_iconst 30), (5, x_iconst 33), (8, x_callv 3 29 3 0 0 0 0), (9, x_istore 3), (10, x_iload 3), (11, x_iconst (-1)), (14, x_icmp (fun x y => x = y) 24), (15, x_aload 1), (18, x_gfr 3 5 5), (21, x_callv 5 24 1 0 0 0 0), (24, x_if (fun x => x ≤ 0) 38), (24, x_goto 24)]
def b55_24 : List (Nat × xI) := [(25, x_aload 1), (28, x_gfr 3 5 5), (29, x_aload 2), (32, x_gfi 2 1), (35, x_callv 5 37 2 0 0 0 0), (38, x_goto 45)]
def b55_38 : List (Nat × xI) := [(39, x_aload 0), (40, x_aload 1), (41, x_aload 2), (42, x_iload 3), (45, x_callv 7 54 4 0 0 0 0), (45, x_goto 45)]
def b55_45 : List (Nat × xI) := [(46, x_ret)]
def t55 : List (Nat × List (Nat × xI)) := [(0, b55_0), (24, b55_24), (38, b55_38), (45, b55_45)]
def b56_0 : List (Nat × xI) := [(1, x_aload 1), (4, x_gfr 1 0 2), (5, x_dup), (8, x_gfi 2 4), (9, x_aload 1), (12, x_callv 1 6 1 0 0 0 0), (13, x_bin (fun x y => x + y)), (16, x_pfi 2 4), (17, x_aload 1), (18, x_iconst 0), (21, x_pfi 1 13), (22, x_ret)]
def t56 : List (Nat × List (Nat × xI)) := [(0, b56_0)]
def b57_0 : List (Nat × xI) := [(1, x_aload 1), (4, x_gfr 1 2 9), (7, x_stage 5), (10, x_ane 9 30), (11, x_aload 1), (14, x_stage 6), (17, x_pfr 1 2 9), (18, x_aload 1), (21, x_gfr 1 0 2), (22, x_iconst 0), (25, x_pfi 2 3), (26, x_aload 0), (27, x_aload 1), (30, x_callv 7 56 2 0 0 0 0), (30, x_goto 30)]
def b57_30 : List (Nat × xI) := [(31, x_ret)]
def t57 : List (Nat × List (Nat × xI)) := [(0, b57_0), (30, b57_30)]
def b58_0 : List (Nat × xI) := [(1, x_aload 0), (2, x_iload 1), (3, x_iload 2), (6, x_callv 7 51 3 1 6 2 12), (7, x_astore 3), (8, x_aload 3), (11, x_gfi 2 2), (14, x_if (fun x => ¬ x = 0) 18), (15, x_iconst 1), (18, x_goto 19)]
def b58_18 : List (Nat × xI) := [(19, x_iconst 0), (19, x_goto 19)]
def b58_19 : List (Nat × xI) := [(22, x_call 46 1 1 6 2 12), (23, x_aload 3), (24, x_iconst 1), (27, x_pfz 2 2), (28, x_aload 3), (31, x_gfr 2 5 1), (33, x_astore 4), (35, x_aload 4), (38, x_ifnonnull 52), (39, x_aload 0), (40, x_aload 0), (43, x_gfr 7 0 11), (44, x_iload 1), (45, x_aald 11 3), (46, x_aload 3), (49, x_callv 7 55 3 0 0 2 12), (52, x_goto 67)]
def b58_52 : List (Nat × xI) := [(54, x_aload 4), (57, x_gfr 1 3 2), (58, x_aload 3), (61, x_ane 2 67), (62, x_aload 0), (64, x_aload 4), (67, x_callv 7 57 2 0 0 2 12), (67, x_goto 67)]
def b58_67 : List (Nat × xI) := [(68, x_ret)]
def t58 : List (Nat × List (Nat × xI)) := [(0, b58_0), (18, b58_18), (19, b58_19), (52, b58_52), (67, b58_67)]
def b59_0 : List (Nat × xI) := [(1, x_iconst 0), (2, x_istore 3), (2, x_goto 2)]
def b59_2 : List (Nat × xI) := [(3, x_iload 3), (4, x_aload 1), (7, x_gfr 1 1 5), (10, x_callv 5 24 1 0 0 0 0), (13, x_icmp (fun x y => y ≤ x) 32), (14, x_aload 0), (15, x_aload 1), (18, x_gfr 1 1 5), (19, x_iload 3), (22, x_callv 5 23 2 0 0 0 0), (23, x_null 1), (26, x_callv 7 52 3 0 0 0 0), (29, x_iinc 3 1), (32, x_goto 2)]
def b59_32 : List (Nat × xI) := [(33, x_aload 1), (36, x_gfr 1 1 5), (39, x_callv 5 39 1 0 0 0 0), (40, x_aload 0), (43, x_gfr 7 0 11), (44, x_aload 1), (47, x_gfi 1 7), (48, x_aald 11 3), (51, x_gfr 3 6 5), (52, x_aload 1), (55, x_gfr 1 0 2), (58, x_callv 2 9 1 0 0 0 0), (61, x_callv 5 38 2 0 0 0 0), (62, x_aload 1), (65, x_gfr 1 0 2), (66, x_iload 2), (69, x_callv 2 12 2 0 0 0 0), (70, x_aload 1), (73, x_gfr 1 3 2), (76, x_ifnull 84), (77, x_aload 1), (80, x_gfr 1 3 2), (81, x_iconst 3), (84, x_callv 2 12 2 0 0 0 0), (84, x_goto 84)]
def b59_84 : List (Nat × xI) := [(85, x_aload 1), (86, x_null 2), (89, x_pfr 1 3 2), (90, x_aload 1), (91, x_iconst 0), (94, x_pfz 1 5), (95, x_aload 1), (98, x_stage 1), (101, x_pfr 1 2 9), (102, x_ret)]
def t59 : List (Nat × List (Nat × xI)) := [(0, b59_0), (2, b59_2), (32, b59_32), (84, b59_84)]
def b60_0 : List (Nat × xI) := [(1, x_aload 0), (2, x_iload 1), (3, x_iload 2), (6, x_callv 7 51 3 1 6 2 12), (7, x_astore 3), (8, x_aload 3), (11, x_gfi 2 2), (14, x_call 46 1 1 6 2 12), (15, x_aload 3), (16, x_iconst 0), (19, x_pfz 2 2), (20, x_aload 3), (21, x_iconst 0), (24, x_pfi 2 3), (25, x_aload 3), (28, x_gfr 2 5 1), (30, x_astore 4), (32, x_aload 4), (35, x_ifnonnull 51), (36, x_aload 0), (39, x_gfr 7 0 11), (40, x_iload 1), (41, x_aald 11 3), (44, x_gfr 3 5 5), (45, x_iload 2), (48, x_callv 5 38 2 0 0 2 12), (51, x_goto 84)]
def b60_51 : List (Nat × xI) := [(53, x_aload 4), (56, x_gfr 1 3 2), (57, x_aload 3), (60, x_ane 2 69), (62, x_aload 4), (63, x_iconst 0), (66, x_pfi 1 14), (69, x_goto 84)]
def b60_69 : List (Nat × xI) := [(71, x_aload 4), (74, x_gfi 1 5), (77, x_if (fun x => ¬ x = 0) 84), (78, x_aload 0), (80, x_aload 4), (81, x_iconst 3), (84, x_callv 7 59 3 0 0 2 12), (84, x_goto 84)]
def b60_84 : List (Nat × xI) := [(85, x_ret)]
def t60 : List (Nat × List (Nat × xI)) := [(0, b60_0), (51, b60_51), (69, b60_69), (84, b60_84)]
def b61_0 : List (Nat × xI) := [(1, x_aload 2), (4, x_stage 3), (7, x_pfr 1 2 9), (8, x_aload 1), (11, x_gfr 3 6 5), (12, x_aload 2), (15, x_gfr 1 0 2), (18, x_callv 2 9 1 0 0 0 0), (21, x_callv 5 37 2 0 0 0 0), (22, x_ret)]
def t61 : List (Nat × List (Nat × xI)) := [(0, b61_0)]
def b62_0 : List (Nat × xI) := [(1, x_aload 2), (2, x_aload 2), (5, x_gfi 1 6), (7, x_iconst 10), (8, x_bin (fun x y => x * y)), (9, x_iload 3), (10, x_bin (fun x y => x + y)), (13, x_pfi 1 6), (14, x_aload 2), (15, x_iconst 0), (18, x_pfi 1 12), (19, x_aload 2), (22, x_gfr 1 0 2), (23, x_iconst 0), (26, x_pfi 2 3), (27, x_aload 1), (28, x_aload 2), (31, x_gfi 1 6), (34, x_callv 3 17 2 0 0 0 0), (36, x_astore 4), (38, x_aload 4), (41, x_ifnonnull 61), (42, x_aload 1), (43, x_aload 2), (46, x_gfi 1 6), (49, x_callv 3 18 2 0 0 0 0), (52, x_if (fun x => ¬ x = 0) 86), (53, x_aload 0), (54, x_aload 2), (55, x_iconst 5), (58, x_callv 7 59 3 0 0 0 0), (61, x_goto 86)]
def b62_61 : List (Nat × xI) := [(63, x_aload 4), (64, x_aload 2), (67, x_gfi 1 6), (70, x_callv 4 35 2 0 0 0 0), (71, x_iconst 2), (74, x_icmp (fun x y => x < y) 86), (75, x_aload 2), (77, x_aload 4), (80, x_pfr 1 4 4), (81, x_aload 0), (82, x_aload 1), (83, x_aload 2), (86, x_callv 7 61 3 0 0 0 0), (86, x_goto 86)]
def b62_86 : List (Nat × xI) := [(87, x_ret)]
def t62 : List (Nat × List (Nat × xI)) := [(0, b62_0), (61, b62_61), (86, b62_86)]
def b63_0 : List (Nat × xI) := [(1, x_aload 0), (2, x_iload 1), (3, x_iload 2), (6, x_callv 7 51 3 1 6 3 18), (8, x_astore 4), (9, x_iload 3), (10, x_iconst 0), (12, x_iconst 9), (15, x_call 25 3 0 0 3 18), (18, x_call 45 1 1 6 3 18), (20, x_aload 4), (23, x_gfi 2 2), (26, x_call 46 1 1 6 3 18), (28, x_aload 4), (31, x_gfr 2 5 1), (33, x_astore 5), (35, x_aload 5), (38, x_ifnull 49), (40, x_aload 5), (43, x_gfr 1 2 9), (46, x_stage 2), (49, x_aeq 9 51), (49, x_goto 49)]
def b63_49 : List (Nat × xI) := [(50, x_iconst 0), (51, x_zret)]
def b63_51 : List (Nat × xI) := [(52, x_aload 0), (53, x_aload 0), (56, x_gfr 7 0 11), (57, x_iload 1), (58, x_aald 11 3), (60, x_aload 5), (61, x_iload 3), (64, x_callv 7 62 4 0 0 3 18), (65, x_iconst 1), (66, x_zret)]
def t63 : List (Nat × List (Nat × xI)) := [(0, b63_0), (49, b63_49), (51, b63_51)]
def b64_0 : List (Nat × xI) := [(1, x_iload 3), (2, x_iconst (-1)), (5, x_icmp (fun x y => ¬ x = y) 7), (6, x_iconst 0), (7, x_zret)]
def b64_7 : List (Nat × xI) := [(8, x_aload 0), (9, x_aload 2), (10, x_aload 1), (11, x_iload 3), (14, x_callv 3 14 2 0 0 0 0), (17, x_callv 7 53 3 0 0 0 0), (18, x_aload 1), (19, x_iload 3), (20, x_iconst 1), (21, x_bin (fun x y => x + y)), (22, x_iconst 4), (23, x_irem), (26, x_pfi 3 8), (27, x_iconst 1), (28, x_zret)]
def t64 : List (Nat × List (Nat × xI)) := [(0, b64_0), (7, b64_7)]
def b65_0 : List (Nat × xI) := [(1, x_aload 1), (3, x_iconst 20), (5, x_iconst 25), (8, x_callv 3 29 3 0 0 0 0), (10, x_istore 4), (12, x_iload 4), (13, x_iconst (-1)), (16, x_icmp (fun x y => ¬ x = y) 18), (17, x_iconst 0), (18, x_zret)]
def b65_18 : List (Nat × xI) := [(19, x_iconst 0), (21, x_istore 5), (21, x_goto 21)]
def b65_21 : List (Nat × xI) := [(23, x_iload 5), (24, x_iconst 4), (27, x_icmp (fun x y => y ≤ x) 105), (28, x_aload 1), (29, x_aload 2), (32, x_gfr 1 0 2), (34, x_iload 5), (35, x_iconst (-1)), (38, x_callv 3 31 4 0 0 0 0), (40, x_istore 6), (42, x_iload 6), (43, x_iconst (-1)), (46, x_icmp (fun x y => ¬ x = y) 50), (47, x_iconst (-1)), (50, x_goto 58)]
def b65_50 : List (Nat × xI) := [(51, x_aload 1), (52, x_aload 3), (53, x_iconst 0), (55, x_iload 6), (58, x_callv 3 31 4 0 0 0 0), (58, x_goto 58)]
def b65_58 : List (Nat × xI) := [(60, x_istore 7), (62, x_iload 7), (63, x_iconst (-1)), (66, x_icmp (fun x y => x = y) 99), (67, x_aload 0), (68, x_aload 1), (69, x_aload 2), (71, x_iload 6), (74, x_callv 7 64 4 0 0 0 0), (75, x_pop), (76, x_aload 0), (77, x_aload 2), (78, x_aload 1), (80, x_iload 4), (83, x_callv 3 14 2 0 0 0 0), (86, x_callv 7 53 3 0 0 0 0), (87, x_aload 0), (88, x_aload 2), (89, x_aload 1), (91, x_iload 7), (94, x_callv 3 14 2 0 0 0 0), (97, x_callv 7 53 3 0 0 0 0), (98, x_iconst 1), (99, x_zret)]
def b65_99 : List (Nat × xI) := [(102, x_iinc 5 1), (105, x_goto 21)]
def b65_105 : List (Nat × xI) := [(106, x_iconst 0), (107, x_zret)]
def t65 : List (Nat × List (Nat × xI)) := [(0, b65_0), (18, b65_18), (21, b65_21), (50, b65_50), (58, b65_58), (99, b65_99), (105, b65_105)]
def b66_0 : List (Nat × xI) := [(1, x_aload 0), (2, x_iload 2), (3, x_null 1), (6, x_callv 7 52 3 0 0 0 0), (7, x_aload 1), (10, x_gfr 1 1 5), (11, x_iload 2), (14, x_callv 5 38 2 0 0 0 0), (15, x_ret)]
def t66 : List (Nat × List (Nat × xI)) := [(0, b66_0)]
def b67_0 : List (Nat × xI) := [(1, x_iload 3), (4, x_call 26 1 0 0 0 0), (7, x_if (fun x => ¬ x = 0) 14), (8, x_aload 0), (9, x_aload 2), (10, x_iconst 5), (13, x_callv 7 59 3 0 0 0 0), (14, x_ret)]
def b67_14 : List (Nat × xI) := [(15, x_aload 1), (18, x_gfr 3 1 16), (19, x_aload 1), (20, x_iload 3), (23, x_callv 3 28 2 0 0 0 0), (24, x_aald 16 2), (26, x_astore 4), (28, x_aload 4), (31, x_callv 2 11 1 0 0 0 0), (34, x_if (fun x => ¬ x = 0) 41), (35, x_aload 0), (36, x_aload 2), (37, x_iconst 3), (40, x_callv 7 59 3 0 0 0 0), (41, x_ret)]
def b67_41 : List (Nat × xI) := [(42, x_aload 2), (45, x_gfr 1 0 2), (48, x_gfi 2 0), (49, x_aload 1), (52, x_gfi 3 0), (55, x_icmp (fun x y => ¬ x = y) 66), (56, x_aload 0), (57, x_aload 1), (58, x_aload 2), (60, x_aload 4), (63, x_callv 7 65 4 0 0 0 0), (66, x_goto 80)]
def b67_66 : List (Nat × xI) := [(67, x_aload 0), (68, x_aload 1), (69, x_aload 2), (70, x_aload 1), (72, x_aload 4), (73, x_iconst 0), (74, x_iconst (-1)), (77, x_callv 3 31 4 0 0 0 0), (80, x_callv 7 64 4 0 0 0 0), (80, x_goto 80)]
def b67_80 : List (Nat × xI) := [(82, x_istore 5), (84, x_iload 5), (87, x_if (fun x => ¬ x = 0) 94), (88, x_aload 0), (89, x_aload 2), (90, x_iconst 4), (93, x_callv 7 59 3 0 0 0 0), (94, x_ret)]
def b67_94 : List (Nat × xI) := [(95, x_aload 0), (96, x_aload 2), (97, x_aload 2), (100, x_gfi 1 9), (103, x_callv 7 66 3 0 0 0 0), (104, x_aload 2), (107, x_stage 5), (110, x_pfr 1 2 9), (111, x_aload 2), (113, x_aload 4), (116, x_pfr 1 3 2), (118, x_aload 4), (119, x_aload 2), (122, x_pfr 2 5 1), (123, x_aload 2), (126, x_gfr 1 0 2), (127, x_iconst 2), (130, x_pfi 2 3), (131, x_ret)]
def t67 : List (Nat × List (Nat × xI)) := [(0, b67_0), (14, b67_14), (41, b67_41), (66, b67_66), (80, b67_80), (94, b67_94)]
def b68_0 : List (Nat × xI) := [(1, x_iconst 0), (2, x_istore 3), (2, x_goto 2)]
def b68_2 : List (Nat × xI) := [(3, x_iload 3), (4, x_aload 0), (7, x_gfi 7 4), (10, x_icmp (fun x y => y ≤ x) 56), (11, x_aload 0), (14, x_gfr 7 2 13), (15, x_iload 3), (16, x_aald 13 6), (19, x_callv 6 41 1 0 0 0 0), (22, x_if (fun x => x = 0) 50), (23, x_aload 0), (26, x_gfr 7 2 13), (27, x_iload 3), (28, x_aald 13 6), (29, x_iload 1), (32, x_callv 6 42 2 0 0 0 0), (35, x_if (fun x => x = 0) 50), (36, x_aload 0), (39, x_gfr 7 2 13), (40, x_iload 3), (41, x_aald 13 6), (42, x_iload 2), (45, x_callv 6 42 2 0 0 0 0), (48, x_if (fun x => x = 0) 50), (49, x_iload 3), (50, x_iret)]
def b68_50 : List (Nat × xI) := [(53, x_iinc 3 1), (56, x_goto 2)]
def b68_56 : List (Nat × xI) := [(57, x_iconst (-1)), (58, x_iret)]
def t68 : List (Nat × List (Nat × xI)) := [(0, b68_0), (2, b68_2), (50, b68_50), (56, b68_56)]
def b69_0 : List (Nat × xI) := [(1, x_aload 0), (2, x_aload 1), (5, x_gfi 3 0), (6, x_aload 3), (9, x_gfi 3 0), (12, x_callv 7 68 3 0 0 0 0), (14, x_istore 4), (16, x_iload 4), (17, x_iconst (-1)), (20, x_icmp (fun x y => ¬ x = y) 40), (21, x_aload 0), (24, x_gfr 7 3 14), (25, x_aload 1), (28, x_gfi 3 0), (29, x_aald 14 15), (30, x_aload 3), (33, x_gfi 3 0), (34, x_dup2), (35, x_ald 15), (36, x_iconst 1), (37, x_bin (fun x y => x + y)), (38, x_ast 15), (39, x_iconst 0), (40, x_zret)]
def b69_40 : List (Nat × xI) := [(41, x_aload 3), (43, x_iconst 30), (45, x_iconst 33), (48, x_callv 3 29 3 0 0 0 0), (50, x_istore 5), (52, x_iload 5), (53, x_iconst (-1)), (56, x_icmp (fun x y => ¬ x = y) 58), (57, x_iconst 0), (58, x_zret)]
def b69_58 : List (Nat × xI) := [(59, x_aload 2), (62, x_gfr 1 0 2), (65, x_gfi 2 0), (66, x_aload 1), (69, x_gfi 3 0), (72, x_icmp (fun x y => ¬ x = y) 93), (73, x_aload 0), (74, x_aload 1), (75, x_aload 2), (76, x_aload 1), (77, x_aload 2), (80, x_gfr 1 0 2), (81, x_iconst 0), (82, x_iconst (-1)), (85, x_callv 3 31 4 0 0 0 0), (88, x_callv 7 64 4 0 0 0 0), (91, x_if (fun x => ¬ x = 0) 93), (92, x_iconst 0), (93, x_zret)]
def b69_93 : List (Nat × xI) := [(94, x_aload 0), (95, x_aload 2), (98, x_iconst 5000), (100, x_iload 4), (101, x_bin (fun x y => x + y)), (104, x_callv 7 53 3 0 0 0 0), (105, x_aload 2), (106, x_aload 3), (108, x_iload 5), (111, x_callv 3 14 2 0 0 0 0), (114, x_pfi 1 10), (115, x_aload 0), (116, x_aload 2), (117, x_aload 2), (120, x_gfi 1 10), (123, x_callv 7 53 3 0 0 0 0), (124, x_aload 2), (125, x_aload 3), (128, x_gfi 3 0), (131, x_callv 1 2 2 0 0 0 0), (132, x_iconst 1), (133, x_zret)]
def t69 : List (Nat × List (Nat × xI)) := [(0, b69_0), (40, b69_40), (58, b69_58), (93, b69_93)]
def b70_0 : List (Nat × xI) := [(1, x_iconst 0), (3, x_istore 4), (3, x_goto 3)]
def b70_3 : List (Nat × xI) := [(5, x_iload 4), (6, x_aload 3), (9, x_gfr 4 2 5), (12, x_callv 5 24 1 0 0 0 0), (15, x_icmp (fun x y => y ≤ x) 84), (16, x_aload 3), (19, x_gfr 4 2 5), (21, x_iload 4), (24, x_callv 5 23 2 0 0 0 0), (26, x_istore 5), (28, x_iload 5), (31, x_call 44 1 0 0 0 0), (34, x_if (fun x => x = 0) 78), (35, x_aload 2), (37, x_iload 5), (40, x_callv 1 4 2 0 0 0 0), (43, x_if (fun x => ¬ x = 0) 78), (44, x_aload 0), (45, x_aload 1), (46, x_aload 2), (47, x_aload 0), (50, x_gfr 7 0 11), (52, x_iload 5), (53, x_aald 11 3), (56, x_callv 7 69 4 0 0 0 0), (59, x_if (fun x => x = 0) 78), (60, x_aload 2), (61, x_aload 2), (64, x_gfi 1 6), (67, x_call 34 1 0 0 0 0), (70, x_pfi 1 11), (71, x_aload 2), (74, x_stage 4), (77, x_pfr 1 2 9), (78, x_ret)]
def b70_78 : List (Nat × xI) := [(81, x_iinc 4 1), (84, x_goto 3)]
def b70_84 : List (Nat × xI) := [(85, x_aload 0), (86, x_aload 2), (87, x_iconst 4), (90, x_callv 7 59 3 0 0 0 0), (91, x_ret)]
def t70 : List (Nat × List (Nat × xI)) := [(0, b70_0), (3, b70_3), (78, b70_78), (84, b70_84)]
def b71_0 : List (Nat × xI) := [(1, x_aload 1), (4, x_gfr 3 6 5), (5, x_iconst 0), (8, x_callv 5 23 2 0 0 0 0), (9, x_istore 2), (10, x_iload 2), (13, x_if (fun x => x < 0) 22), (14, x_iload 2), (15, x_aload 0), (18, x_gfr 7 1 12), (19, x_alen 12), (22, x_icmp (fun x y => x < y) 23), (22, x_goto 22)]
def b71_22 : List (Nat × xI) := [(23, x_ret)]
def b71_23 : List (Nat × xI) := [(24, x_aload 1), (27, x_gfr 3 6 5), (28, x_iload 2), (31, x_callv 5 38 2 0 0 0 0), (32, x_aload 0), (35, x_gfr 7 1 12), (36, x_iload 2), (37, x_aald 12 1), (38, x_astore 3), (39, x_aload 1), (40, x_aload 3), (43, x_gfi 1 6), (46, x_callv 3 17 2 0 0 0 0), (48, x_astore 4), (50, x_aload 4), (53, x_ifnull 66), (55, x_aload 4), (56, x_aload 3), (59, x_gfi 1 6), (62, x_callv 4 35 2 0 0 0 0), (63, x_iconst 2), (66, x_icmp (fun x y => y ≤ x) 75), (66, x_goto 66)]
def b71_66 : List (Nat × xI) := [(67, x_aload 0), (68, x_aload 3), (69, x_iconst 5), (72, x_callv 7 59 3 0 0 0 0), (75, x_goto 109)]
def b71_75 : List (Nat × xI) := [(77, x_aload 4), (80, x_gfi 4 1), (83, x_if (fun x => x = 0) 101), (84, x_aload 0), (85, x_aload 1), (86, x_aload 3), (88, x_aload 4), (89, x_aload 3), (92, x_gfi 1 6), (95, x_callv 4 36 2 0 0 0 0), (98, x_callv 7 67 4 0 0 0 0), (101, x_goto 109)]
def b71_101 : List (Nat × xI) := [(102, x_aload 0), (103, x_aload 1), (104, x_aload 3), (106, x_aload 4), (109, x_callv 7 70 4 0 0 0 0), (109, x_goto 109)]
def b71_109 : List (Nat × xI) := [(110, x_ret)]
def t71 : List (Nat × List (Nat × xI)) := [(0, b71_0), (22, b71_22), (23, b71_23), (66, b71_66), (75, b71_75), (101, b71_101), (109, b71_109)]
def b72_0 : List (Nat × xI) := [(1, x_aload 1), (2, x_dup), (5, x_gfi 1 11), (6, x_iconst 1), (7, x_bin (fun x y => x - y)), (10, x_pfi 1 11), (11, x_aload 1), (14, x_gfi 1 11), (17, x_if (fun x => 0 < x) 48), (18, x_aload 0), (19, x_aload 1), (20, x_aload 1), (23, x_gfi 1 9), (26, x_callv 7 66 3 0 0 0 0), (27, x_aload 1), (28, x_aload 1), (31, x_gfi 1 10), (34, x_pfi 1 9), (35, x_aload 0), (36, x_aload 0), (39, x_gfr 7 0 11), (40, x_aload 1), (43, x_gfi 1 7), (44, x_aald 11 3), (45, x_aload 1), (48, x_callv 7 61 3 0 0 0 0), (48, x_goto 48)]
def b72_48 : List (Nat × xI) := [(49, x_ret)]
def t72 : List (Nat × List (Nat × xI)) := [(0, b72_0), (48, b72_48)]
def b73_0 : List (Nat × xI) := [(1, x_iconst 0), (2, x_istore 1), (2, x_goto 2)]
def b73_2 : List (Nat × xI) := [(3, x_iload 1), (4, x_iconst 3), (7, x_icmp (fun x y => y ≤ x) 76), (9, x_iconst 30), (10, x_istore 2), (10, x_goto 10)]
def b73_10 : List (Nat × xI) := [(11, x_iload 2), (13, x_iconst 33), (16, x_icmp (fun x y => y ≤ x) 70), (17, x_aload 0), (20, x_gfr 7 0 11), (21, x_iload 1), (22, x_aald 11 3), (25, x_gfr 3 2 17), (26, x_iload 2), (27, x_aald 17 1), (28, x_astore 3), (29, x_aload 3), (32, x_ifnull 64), (33, x_aload 3), (36, x_gfr 1 2 9), (39, x_stage 4), (42, x_ane 9 64), (43, x_aload 3), (46, x_gfi 1 9), (47, x_aload 0), (50, x_gfr 7 0 11), (51, x_iload 1), (52, x_aald 11 3), (53, x_iload 2), (56, x_callv 3 14 2 0 0 0 0), (59, x_icmp (fun x y => ¬ x = y) 64), (60, x_aload 0), (61, x_aload 3), (64, x_callv 7 72 2 0 0 0 0), (64, x_goto 64)]
def b73_64 : List (Nat × xI) := [(67, x_iinc 2 1), (70, x_goto 10)]
def b73_70 : List (Nat × xI) := [(73, x_iinc 1 1), (76, x_goto 2)]
def b73_76 : List (Nat × xI) := [(77, x_ret)]
def t73 : List (Nat × List (Nat × xI)) := [(0, b73_0), (2, b73_2), (10, b73_10), (64, b73_64), (70, b73_70), (76, b73_76)]
def b74_0 : List (Nat × xI) := [(1, x_aload 1), (2, x_dup), (5, x_gfi 1 12), (6, x_iconst 1), (7, x_bin (fun x y => x + y)), (10, x_pfi 1 12), (11, x_aload 1), (14, x_gfi 1 12), (16, x_iconst 20), (19, x_icmp (fun x y => x < y) 25), (20, x_aload 0), (21, x_aload 1), (22, x_iconst 3), (25, x_callv 7 59 3 0 0 0 0), (25, x_goto 25)]
def b74_25 : List (Nat × xI) := [(26, x_ret)]
def t74 : List (Nat × List (Nat × xI)) := [(0, b74_0), (25, b74_25)]
def b75_0 : List (Nat × xI) := [(1, x_aload 1), (4, x_callv 1 5 1 0 0 0 0), (7, x_if (fun x => x = 0) 42), (8, x_aload 1), (9, x_dup), (12, x_gfi 1 13), (13, x_iconst 1), (14, x_bin (fun x y => x + y)), (17, x_pfi 1 13), (18, x_aload 1), (21, x_callv 1 7 1 0 0 0 0), (22, x_istore 2), (23, x_iload 2), (26, x_if (fun x => x ≤ 0) 39), (27, x_aload 1), (30, x_gfi 1 13), (31, x_iload 2), (34, x_icmp (fun x y => x < y) 39), (35, x_aload 0), (36, x_aload 1), (39, x_callv 7 56 2 0 0 0 0), (39, x_goto 39)]
def b75_39 : List (Nat × xI) := [(42, x_goto 74)]
def b75_42 : List (Nat × xI) := [(43, x_aload 1), (46, x_gfi 1 5), (49, x_if (fun x => ¬ x = 0) 74), (50, x_aload 1), (51, x_dup), (54, x_gfi 1 14), (55, x_iconst 1), (56, x_bin (fun x y => x + y)), (59, x_pfi 1 14), (60, x_aload 1), (63, x_gfi 1 14), (65, x_iconst 12), (68, x_icmp (fun x y => x < y) 74), (69, x_aload 0), (70, x_aload 1), (71, x_iconst 3), (74, x_callv 7 59 3 0 0 0 0), (74, x_goto 74)]
def b75_74 : List (Nat × xI) := [(75, x_ret)]
def t75 : List (Nat × List (Nat × xI)) := [(0, b75_0), (39, b75_39), (42, b75_42), (74, b75_74)]
def b76_0 : List (Nat × xI) := [(1, x_iconst 0), (2, x_istore 1), (2, x_goto 2)]
def b76_2 : List (Nat × xI) := [(3, x_iload 1), (4, x_aload 0), (7, x_gfr 7 1 12), (8, x_alen 12), (11, x_icmp (fun x y => y ≤ x) 57), (12, x_aload 0), (15, x_gfr 7 1 12), (16, x_iload 1), (17, x_aald 12 1), (18, x_astore 2), (19, x_aload 2), (22, x_gfr 1 2 9), (25, x_stage 2), (28, x_ane 9 36), (29, x_aload 0), (30, x_aload 2), (33, x_callv 7 74 2 0 0 0 0), (36, x_goto 51)]
def b76_36 : List (Nat × xI) := [(37, x_aload 2), (40, x_gfr 1 2 9), (43, x_stage 6), (46, x_ane 9 51), (47, x_aload 0), (48, x_aload 2), (51, x_callv 7 75 2 0 0 0 0), (51, x_goto 51)]
def b76_51 : List (Nat × xI) := [(54, x_iinc 1 1), (57, x_goto 2)]
def b76_57 : List (Nat × xI) := [(58, x_ret)]
def t76 : List (Nat × List (Nat × xI)) := [(0, b76_0), (2, b76_2), (36, b76_36), (51, b76_51), (57, b76_57)]
def b77_0 : List (Nat × xI) := [(1, x_iconst 0), (2, x_istore 1), (2, x_goto 2)]
def b77_2 : List (Nat × xI) := [(3, x_iload 1), (4, x_iconst 3), (7, x_icmp (fun x y => y ≤ x) 84), (8, x_aload 0), (11, x_gfr 7 0 11), (12, x_iload 1), (13, x_aald 11 3), (14, x_astore 2), (16, x_iconst 30), (17, x_istore 3), (17, x_goto 17)]
def b77_17 : List (Nat × xI) := [(18, x_iload 3), (20, x_iconst 33), (23, x_icmp (fun x y => y ≤ x) 78), (24, x_aload 2), (27, x_gfr 3 5 5), (28, x_iconst 0), (31, x_callv 5 23 2 0 0 0 0), (33, x_istore 4), (35, x_iload 4), (38, x_call 26 1 0 0 0 0), (41, x_if (fun x => x = 0) 72), (42, x_aload 2), (45, x_gfr 3 2 17), (46, x_iload 3), (47, x_aald 17 1), (50, x_ifnonnull 72), (51, x_aload 2), (54, x_gfr 3 5 5), (56, x_iload 4), (59, x_callv 5 38 2 0 0 0 0), (60, x_aload 0), (61, x_aload 2), (62, x_aload 2), (65, x_gfr 3 1 16), (67, x_iload 4), (68, x_aald 16 2), (69, x_iload 3), (72, x_callv 7 54 4 0 0 0 0), (72, x_goto 72)]
def b77_72 : List (Nat × xI) := [(75, x_iinc 3 1), (78, x_goto 17)]
def b77_78 : List (Nat × xI) := [(81, x_iinc 1 1), (84, x_goto 2)]
def b77_84 : List (Nat × xI) := [(85, x_ret)]
def t77 : List (Nat × List (Nat × xI)) := [(0, b77_0), (2, b77_2), (17, b77_17), (72, b77_72), (78, b77_78), (84, b77_84)]
def b78_0 : List (Nat × xI) := [(1, x_iload 1), (2, x_iconst 1), (4, x_iconst 100), (7, x_call 25 3 0 0 1 6), (10, x_call 45 1 1 6 1 6), (11, x_iconst 0), (12, x_istore 2), (12, x_goto 12)]
def b78_12 : List (Nat × xI) := [(13, x_iload 2), (14, x_iload 1), (17, x_icmp (fun x y => y ≤ x) 58), (18, x_iconst 0), (19, x_istore 3), (19, x_goto 19)]
def b78_19 : List (Nat × xI) := [(20, x_iload 3), (21, x_iconst 3), (24, x_icmp (fun x y => y ≤ x) 40), (25, x_aload 0), (26, x_aload 0), (29, x_gfr 7 0 11), (30, x_iload 3), (31, x_aald 11 3), (34, x_callv 7 71 2 0 0 1 6), (37, x_iinc 3 1), (40, x_goto 19)]
def b78_40 : List (Nat × xI) := [(41, x_aload 0), (44, x_callv 7 73 1 0 0 1 6), (45, x_aload 0), (48, x_callv 7 76 1 0 0 1 6), (49, x_aload 0), (52, x_callv 7 77 1 0 0 1 6), (55, x_iinc 2 1), (58, x_goto 12)]
def b78_58 : List (Nat × xI) := [(59, x_ret)]
def t78 : List (Nat × List (Nat × xI)) := [(0, b78_0), (12, b78_12), (19, b78_19), (40, b78_40), (58, b78_58)]
def b79_0 : List (Nat × xI) := [(1, x_iload 1), (2, x_iconst 0), (3, x_aload 0), (6, x_gfi 7 4), (7, x_iconst 1), (8, x_bin (fun x y => x - y)), (11, x_call 25 3 0 0 1 6), (14, x_call 45 1 1 6 1 6), (15, x_aload 0), (18, x_gfr 7 2 13), (19, x_iload 1), (20, x_aald 13 6), (21, x_astore 3), (22, x_aload 3), (25, x_gfi 6 2), (27, x_istore 4), (28, x_aload 3), (29, x_iload 2), (32, x_pfz 6 2), (33, x_iload 2), (36, x_if (fun x => x = 0) 52), (37, x_aload 3), (40, x_gfr 6 3 1), (43, x_ifnull 52), (44, x_aload 0), (45, x_aload 3), (48, x_gfr 6 3 1), (49, x_iconst 4), (52, x_callv 7 59 3 0 0 1 6), (52, x_goto 52)]
def b79_52 : List (Nat × xI) := [(54, x_iload 4), (55, x_zret)]
def t79 : List (Nat × List (Nat × xI)) := [(0, b79_0), (52, b79_52)]
def b80_0 : List (Nat × xI) := [(1, x_aload 0), (2, x_iload 1), (3, x_iload 2), (6, x_callv 7 51 3 1 6 1 6), (8, x_astore 4), (10, x_aload 4), (13, x_gfr 2 5 1), (15, x_astore 5), (17, x_aload 5), (20, x_ifnull 41), (22, x_aload 5), (25, x_gfr 1 3 2), (27, x_aload 4), (30, x_ane 2 41), (32, x_aload 5), (35, x_gfr 1 2 9), (38, x_stage 6), (41, x_aeq 9 43), (41, x_goto 41)]
def b80_41 : List (Nat × xI) := [(42, x_iconst 0), (43, x_zret)]
def b80_43 : List (Nat × xI) := [(45, x_aload 5), (46, x_iload 3), (49, x_pfz 1 5), (50, x_iload 3), (53, x_if (fun x => ¬ x = 0) 71), (55, x_aload 5), (58, x_gfr 1 0 2), (61, x_gfi 2 2), (64, x_if (fun x => ¬ x = 0) 71), (65, x_aload 0), (67, x_aload 5), (68, x_iconst 3), (71, x_callv 7 59 3 0 0 1 6), (71, x_goto 71)]
def b80_71 : List (Nat × xI) := [(72, x_iconst 1), (73, x_zret)]
def t80 : List (Nat × List (Nat × xI)) := [(0, b80_0), (41, b80_41), (43, b80_43), (71, b80_71)]
def b81_0 : List (Nat × xI) := [(1, x_aload 0), (2, x_iload 1), (3, x_iload 2), (6, x_callv 7 51 3 1 6 1 6), (9, x_gfi 2 3), (10, x_iret)]
def t81 : List (Nat × List (Nat × xI)) := [(0, b81_0)]
def b82_0 : List (Nat × xI) := [(1, x_aload 0), (2, x_iload 1), (3, x_iload 2), (6, x_callv 7 51 3 1 6 1 6), (7, x_astore 3), (8, x_aload 3), (11, x_gfr 2 5 1), (13, x_astore 4), (15, x_aload 4), (18, x_ifnull 42), (20, x_aload 4), (23, x_gfr 1 3 2), (24, x_aload 3), (27, x_ane 2 42), (29, x_aload 4), (32, x_gfr 1 2 9), (35, x_stage 5), (38, x_ane 9 42), (39, x_iconst 1), (42, x_goto 43)]
def b82_42 : List (Nat × xI) := [(43, x_iconst 0), (43, x_goto 43)]
def b82_43 : List (Nat × xI) := [(44, x_zret)]
def t82 : List (Nat × List (Nat × xI)) := [(0, b82_0), (42, b82_42), (43, b82_43)]
def b83_0 : List (Nat × xI) := [(1, x_aload 0), (2, x_iload 1), (3, x_iload 2), (6, x_callv 7 51 3 1 6 1 6), (7, x_astore 3), (8, x_aload 3), (11, x_gfr 2 5 1), (13, x_astore 4), (15, x_aload 4), (18, x_ifnull 48), (20, x_aload 4), (23, x_gfr 1 2 9), (26, x_stage 6), (29, x_ane 9 48), (31, x_aload 4), (34, x_gfr 1 0 2), (37, x_gfi 2 2), (40, x_if (fun x => x = 0) 48), (42, x_aload 4), (45, x_callv 1 5 1 0 0 1 6), (48, x_if (fun x => ¬ x = 0) 50), (48, x_goto 48)]
def b83_48 : List (Nat × xI) := [(49, x_iconst (-1)), (50, x_iret)]
def b83_50 : List (Nat × xI) := [(52, x_aload 4), (55, x_gfr 1 3 2), (56, x_aload 3), (59, x_ane 2 70), (61, x_aload 4), (64, x_gfr 1 0 2), (67, x_callv 2 9 1 0 0 1 6), (70, x_goto 78)]
def b83_70 : List (Nat × xI) := [(72, x_aload 4), (75, x_gfr 1 3 2), (78, x_callv 2 9 1 0 0 1 6), (78, x_goto 78)]
def b83_78 : List (Nat × xI) := [(79, x_iret)]
def t83 : List (Nat × List (Nat × xI)) := [(0, b83_0), (48, b83_48), (50, b83_50), (70, b83_70), (78, b83_78)]
def b84_0 : List (Nat × xI) := [(1, x_aload 0), (2, x_iload 1), (3, x_iload 2), (6, x_callv 7 51 3 1 6 1 6), (9, x_gfi 2 4), (10, x_iret)]
def t84 : List (Nat × List (Nat × xI)) := [(0, b84_0)]
def b85_0 : List (Nat × xI) := [(1, x_aload 0), (2, x_iload 1), (3, x_iload 2), (6, x_callv 7 51 3 1 6 2 12), (8, x_astore 4), (9, x_iload 3), (12, x_if (fun x => x < 0) 16), (13, x_iconst 1), (16, x_goto 17)]
def b85_16 : List (Nat × xI) := [(17, x_iconst 0), (17, x_goto 17)]
def b85_17 : List (Nat × xI) := [(20, x_call 45 1 1 6 2 12), (22, x_aload 4), (25, x_gfr 2 5 1), (27, x_astore 5), (29, x_aload 5), (32, x_ifnull 54), (34, x_aload 5), (37, x_gfr 1 0 2), (39, x_aload 4), (42, x_ane 2 54), (44, x_aload 5), (47, x_gfr 1 1 5), (48, x_iload 3), (51, x_callv 5 23 2 0 0 2 12), (54, x_goto 55)]
def b85_54 : List (Nat × xI) := [(55, x_iconst (-1)), (55, x_goto 55)]
def b85_55 : List (Nat × xI) := [(56, x_iret)]
def t85 : List (Nat × List (Nat × xI)) := [(0, b85_0), (16, b85_16), (17, b85_17), (54, b85_54), (55, b85_55)]
def b86_0 : List (Nat × xI) := [(1, x_iconst 0), (2, x_istore 2), (3, x_iconst 0), (4, x_istore 3), (4, x_goto 4)]
def b86_4 : List (Nat × xI) := [(5, x_iload 3), (6, x_aload 0), (9, x_gfi 7 4), (12, x_icmp (fun x y => y ≤ x) 46), (13, x_aload 0), (16, x_gfr 7 2 13), (17, x_iload 3), (18, x_aald 13 6), (21, x_callv 6 41 1 0 0 0 0), (24, x_if (fun x => x = 0) 40), (25, x_aload 0), (28, x_gfr 7 2 13), (29, x_iload 3), (30, x_aald 13 6), (31, x_iload 1), (34, x_callv 6 42 2 0 0 0 0), (37, x_if (fun x => x = 0) 40), (40, x_iinc 2 1), (40, x_goto 40)]
def b86_40 : List (Nat × xI) := [(43, x_iinc 3 1), (46, x_goto 4)]
def b86_46 : List (Nat × xI) := [(47, x_iload 2), (48, x_iret)]
def t86 : List (Nat × List (Nat × xI)) := [(0, b86_0), (4, b86_4), (40, b86_40), (46, b86_46)]
def b87_0 : List (Nat × xI) := [(1, x_iload 1), (4, x_call 44 1 0 0 2 12), (7, x_call 45 1 1 6 2 12), (8, x_aload 0), (11, x_gfr 7 0 11), (12, x_iload 1), (13, x_aald 11 3), (14, x_astore 3), (15, x_iload 2), (52, x_switch 0 [52, 61, 69, 78, 84, 92] 100)]
def b87_52 : List (Nat × xI) := [(53, x_aload 3), (55, x_iconst 30), (57, x_iconst 33), (60, x_callv 3 30 3 0 0 2 12), (61, x_iret)]
def b87_61 : List (Nat × xI) := [(62, x_aload 3), (63, x_iconst 0), (65, x_iconst 12), (68, x_callv 3 30 3 0 0 2 12), (69, x_iret)]
def b87_69 : List (Nat × xI) := [(70, x_aload 3), (72, x_iconst 20), (74, x_iconst 25), (77, x_callv 3 30 3 0 0 2 12), (78, x_iret)]
def b87_78 : List (Nat × xI) := [(79, x_aload 0), (80, x_iload 1), (83, x_callv 7 86 2 0 0 2 12), (84, x_iret)]
def b87_84 : List (Nat × xI) := [(85, x_aload 3), (88, x_gfr 3 5 5), (91, x_callv 5 24 1 0 0 2 12), (92, x_iret)]
def b87_92 : List (Nat × xI) := [(93, x_aload 3), (96, x_gfr 3 6 5), (99, x_callv 5 24 1 0 0 2 12), (100, x_iret)]
def b87_100 : List (Nat × xI) := [(103, x_throw 1 2 12)]
def t87 : List (Nat × List (Nat × xI)) := [(0, b87_0), (52, b87_52), (61, b87_61), (69, b87_69), (78, b87_78), (84, b87_84), (92, b87_92), (100, b87_100)]
def b88_0 : List (Nat × xI) := [(1, x_iload 1), (4, x_call 44 1 0 0 1 6), (7, x_if (fun x => x = 0) 18), (8, x_iload 2), (11, x_call 44 1 0 0 1 6), (14, x_if (fun x => x = 0) 18), (15, x_iconst 1), (18, x_goto 19)]
def b88_18 : List (Nat × xI) := [(19, x_iconst 0), (19, x_goto 19)]
def b88_19 : List (Nat × xI) := [(22, x_call 45 1 1 6 1 6), (23, x_aload 0), (26, x_gfr 7 3 14), (27, x_iload 1), (28, x_aald 14 15), (29, x_iload 2), (30, x_ald 15), (31, x_iret)]
def t88 : List (Nat × List (Nat × xI)) := [(0, b88_0), (18, b88_18), (19, b88_19)]
def b89_0 : List (Nat × xI) := [(1, x_aload 0), (4, x_objinit), (5, x_aload 0), (7, x_iconst 72), (9, x_newr 22 43 3970), (12, x_pfr 8 3 22), (13, x_aload 0), (15, x_iconst 72), (17, x_newr 23 43 3970), (20, x_pfr 8 4 23), (21, x_aload 0), (23, x_iconst 72), (25, x_newr 24 43 3970), (28, x_pfr 8 5 24), (29, x_aload 0), (31, x_iconst 72), (33, x_newr 25 43 3970), (36, x_pfr 8 6 25), (37, x_aload 0), (39, x_iconst 12), (41, x_newr 26 43 3970), (44, x_pfr 8 7 26), (45, x_aload 0), (47, x_iconst 72), (49, x_newr 27 43 3970), (52, x_pfr 8 8 27), (53, x_aload 0), (55, x_iconst 72), (57, x_newr 28 43 3970), (60, x_pfr 8 9 28), (61, x_aload 0), (62, x_iconst 3), (64, x_newr 29 43 3970), (67, x_pfr 8 10 29), (68, x_aload 0), (70, x_iconst 36), (72, x_newr 30 43 3970), (75, x_pfr 8 11 30), (76, x_aload 0), (78, x_iconst 36), (80, x_newr 31 43 3970), (83, x_pfr 8 12 31), (84, x_aload 0), (86, x_iconst 36), (88, x_newr 32 43 3970), (91, x_pfr 8 13 32), (92, x_aload 0), (94, x_iconst 36), (96, x_newr 33 43 3970), (99, x_pfr 8 14 33), (100, x_aload 0), (102, x_iconst 36), (104, x_newr 34 43 3970), (107, x_pfr 8 15 34), (108, x_aload 0), (110, x_iconst 108), (112, x_newr 35 43 3970), (115, x_pfr 8 16 35), (116, x_aload 0), (118, x_iconst 36), (120, x_newr 36 43 3970), (123, x_pfr 8 17 36), (124, x_aload 0), (126, x_iconst 15), (128, x_newr 37 43 3970), (131, x_pfr 8 18 37), (132, x_aload 0), (134, x_iconst 9), (136, x_newr 38 43 3970), (139, x_pfr 8 19 38), (140, x_aload 0), (142, x_iconst 16), (144, x_newr 39 43 3970), (147, x_pfr 8 21 39), (148, x_aload 0), (150, x_iconst 16), (152, x_newr 40 43 3970), (155, x_pfr 8 22 40), (156, x_aload 0), (158, x_iconst 16), (160, x_newr 41 43 3970), (163, x_pfr 8 23 41), (164, x_aload 0), (166, x_iconst 16), (168, x_newr 42 43 3970), (171, x_pfr 8 24 42), (172, x_aload 0), (173, x_iconst 3), (175, x_newr 43 43 3970), (178, x_pfr 8 25 43), (179, x_aload 0), (181, x_iconst 9), (183, x_newr 44 43 3970), (186, x_pfr 8 26 44), (187, x_aload 0), (188, x_iconst 3), (190, x_newr 45 43 3970), (193, x_pfr 8 27 45), (194, x_aload 0), (197, x_iconst 216), (199, x_newr 46 43 3970), (202, x_pfr 8 28 46), (203, x_aload 0), (205, x_iconst 72), (207, x_newr 47 43 3970), (210, x_pfr 8 29 47), (211, x_aload 0), (213, x_iconst 72), (215, x_newr 48 43 3970), (218, x_pfr 8 30 48), (219, x_aload 0), (222, x_iconst 576), (224, x_newr 49 43 3970), (227, x_pfr 8 31 49), (228, x_aload 0), (230, x_iconst 72), (232, x_newr 50 43 3970), (235, x_pfr 8 32 50), (236, x_aload 0), (238, x_iconst 72), (240, x_newr 51 43 3970), (243, x_pfr 8 33 51), (244, x_aload 0), (246, x_iconst 72), (248, x_newr 52 43 3970), (251, x_pfr 8 34 52), (252, x_aload 0), (254, x_iconst 72), (256, x_newr 53 43 3970), (259, x_pfr 8 35 53), (260, x_aload 0), (262, x_iconst 72), (264, x_newr 54 43 3970), (267, x_pfr 8 36 54), (268, x_aload 0), (270, x_iconst 72), (272, x_newr 55 43 3970), (275, x_pfr 8 37 55), (276, x_aload 0), (278, x_iconst 72), (280, x_newr 56 43 3970), (283, x_pfr 8 38 56), (284, x_aload 0), (286, x_iconst 72), (288, x_newr 57 43 3970), (291, x_pfr 8 39 57), (292, x_aload 0), (294, x_iconst 72), (296, x_newr 58 43 3970), (299, x_pfr 8 40 58), (300, x_aload 0), (302, x_iconst 72), (304, x_newr 59 43 3970), (307, x_pfr 8 41 59), (308, x_aload 0), (310, x_iconst 72), (312, x_newr 60 43 3970), (315, x_pfr 8 42 60), (316, x_aload 0), (318, x_iconst 72), (320, x_newr 61 43 3970), (323, x_pfr 8 43 61), (324, x_aload 0), (326, x_iconst 72), (328, x_newr 62 43 3970), (331, x_pfr 8 44 62), (332, x_aload 0), (334, x_iconst 72), (336, x_newr 63 43 3970), (339, x_pfr 8 45 63), (340, x_aload 0), (343, x_iconst 1152), (345, x_newr 64 43 3970), (348, x_pfr 8 46 64), (349, x_iconst 0), (350, x_istore 1), (350, x_goto 350)]
def b89_350 : List (Nat × xI) := [(351, x_iload 1), (353, x_iconst 72), (356, x_icmp (fun x y => y ≤ x) 383), (357, x_aload 0), (360, x_gfr 8 5 24), (361, x_iload 1), (362, x_iconst (-1)), (363, x_ast 24), (364, x_aload 0), (367, x_gfr 8 9 28), (368, x_iload 1), (369, x_iconst (-1)), (370, x_ast 28), (371, x_aload 0), (374, x_gfr 8 39 57), (375, x_iload 1), (376, x_iconst (-1)), (377, x_ast 57), (380, x_iinc 1 1), (383, x_goto 350)]
def b89_383 : List (Nat × xI) := [(384, x_iconst 0), (385, x_istore 1), (385, x_goto 385)]
def b89_385 : List (Nat × xI) := [(386, x_iload 1), (388, x_iconst 36), (391, x_icmp (fun x y => y ≤ x) 404), (392, x_aload 0), (395, x_gfr 8 17 36), (396, x_iload 1), (397, x_iconst (-1)), (398, x_ast 36), (401, x_iinc 1 1), (404, x_goto 385)]
def b89_404 : List (Nat × xI) := [(405, x_iconst 0), (406, x_istore 1), (406, x_goto 406)]
def b89_406 : List (Nat × xI) := [(407, x_iload 1), (409, x_iconst 15), (412, x_icmp (fun x y => y ≤ x) 425), (413, x_aload 0), (416, x_gfr 8 18 37), (417, x_iload 1), (418, x_iconst (-1)), (419, x_ast 37), (422, x_iinc 1 1), (425, x_goto 406)]
def b89_425 : List (Nat × xI) := [(426, x_iconst 0), (427, x_istore 1), (427, x_goto 427)]
def b89_427 : List (Nat × xI) := [(428, x_iload 1), (430, x_iconst 9), (433, x_icmp (fun x y => y ≤ x) 446), (434, x_aload 0), (437, x_gfr 8 19 38), (438, x_iload 1), (439, x_iconst (-1)), (440, x_ast 38), (443, x_iinc 1 1), (446, x_goto 427)]
def b89_446 : List (Nat × xI) := [(447, x_iconst 0), (448, x_istore 1), (448, x_goto 448)]
def b89_448 : List (Nat × xI) := [(449, x_iload 1), (451, x_iconst 16), (454, x_icmp (fun x y => y ≤ x) 467), (455, x_aload 0), (458, x_gfr 8 23 41), (459, x_iload 1), (460, x_iconst (-1)), (461, x_ast 41), (464, x_iinc 1 1), (467, x_goto 448)]
def b89_467 : List (Nat × xI) := [(468, x_ret)]
def t89 : List (Nat × List (Nat × xI)) := [(0, b89_0), (350, b89_350), (383, b89_383), (385, b89_385), (404, b89_404), (406, b89_406), (425, b89_425), (427, b89_427), (446, b89_446), (448, b89_448), (467, b89_467)]
def b90_0 : List (Nat × xI) := [(1, x_aload 0), (4, x_gfi 8 0), (5, x_iret)]
def t90 : List (Nat × List (Nat × xI)) := [(0, b90_0)]
def b91_0 : List (Nat × xI) := [(1, x_aload 0), (2, x_iload 1), (5, x_pfi 8 0), (6, x_iload 1), (9, x_if (fun x => x ≤ 0) 13), (10, x_iconst 1), (13, x_goto 14)]
def b91_13 : List (Nat × xI) := [(14, x_iconst 0), (14, x_goto 14)]
def b91_14 : List (Nat × xI) := [(15, x_zret)]
def t91 : List (Nat × List (Nat × xI)) := [(0, b91_0), (13, b91_13), (14, b91_14)]
def b92_0 : List (Nat × xI) := [(1, x_iload 0), (2, x_iload 1), (5, x_icmp (fun x y => x < y) 14), (6, x_iload 0), (7, x_iload 2), (10, x_icmp (fun x y => y < x) 14), (11, x_iconst 1), (14, x_goto 15)]
def b92_14 : List (Nat × xI) := [(15, x_iconst 0), (15, x_goto 15)]
def b92_15 : List (Nat × xI) := [(16, x_zret)]
def t92 : List (Nat × List (Nat × xI)) := [(0, b92_0), (14, b92_14), (15, b92_15)]
def b93_0 : List (Nat × xI) := [(1, x_iload 0), (2, x_iconst 0), (3, x_iconst 2), (6, x_call 92 3 0 0 0 0), (9, x_if (fun x => x = 0) 23), (10, x_iload 1), (11, x_iconst 0), (13, x_iconst 23), (16, x_call 92 3 0 0 0 0), (19, x_if (fun x => x = 0) 23), (20, x_iconst 1), (23, x_goto 24)]
def b93_23 : List (Nat × xI) := [(24, x_iconst 0), (24, x_goto 24)]
def b93_24 : List (Nat × xI) := [(25, x_zret)]
def t93 : List (Nat × List (Nat × xI)) := [(0, b93_0), (23, b93_23), (24, b93_24)]
def b94_0 : List (Nat × xI) := [(1, x_aload 0), (2, x_iload 1), (3, x_iconst 0), (4, x_iconst 2), (7, x_call 92 3 0 0 0 0), (10, x_if (fun x => x = 0) 24), (11, x_iload 2), (12, x_iconst 0), (13, x_iconst 2), (16, x_call 92 3 0 0 0 0), (19, x_if (fun x => x = 0) 24), (20, x_iload 1), (21, x_iload 2), (24, x_icmp (fun x y => ¬ x = y) 28), (24, x_goto 24)]
def b94_24 : List (Nat × xI) := [(25, x_iconst 1), (28, x_goto 42)]
def b94_28 : List (Nat × xI) := [(29, x_aload 0), (32, x_gfi 8 20), (34, x_iconst 16), (37, x_icmp (fun x y => ¬ x = y) 41), (38, x_iconst 2), (41, x_goto 42)]
def b94_41 : List (Nat × xI) := [(42, x_iconst 0), (42, x_goto 42)]
def b94_42 : List (Nat × xI) := [(45, x_callv 8 91 2 0 0 0 0), (48, x_if (fun x => x = 0) 50), (49, x_iconst 0), (50, x_iret)]
def b94_50 : List (Nat × xI) := [(51, x_aload 0), (54, x_gfr 8 21 39), (55, x_aload 0), (58, x_gfi 8 20), (59, x_iload 1), (60, x_ast 39), (61, x_aload 0), (64, x_gfr 8 22 40), (65, x_aload 0), (68, x_gfi 8 20), (69, x_iload 2), (70, x_ast 40), (71, x_aload 0), (72, x_dup), (75, x_gfi 8 20), (76, x_iconst 1), (77, x_bin (fun x y => x + y)), (80, x_pfi 8 20), (81, x_aload 0), (84, x_gfi 8 20), (85, x_iconst 1), (86, x_bin (fun x y => x - y)), (87, x_iret)]
def t94 : List (Nat × List (Nat × xI)) := [(0, b94_0), (24, b94_24), (28, b94_28), (41, b94_41), (42, b94_42), (50, b94_50)]
def b95_0 : List (Nat × xI) := [(1, x_iload 0), (4, x_iconst 999), (7, x_icmp (fun x y => x ≤ y) 11), (8, x_iconst 3), (11, x_goto 22)]
def b95_11 : List (Nat × xI) := [(12, x_iload 0), (14, x_iconst 99), (17, x_icmp (fun x y => x ≤ y) 21), (18, x_iconst 2), (21, x_goto 22)]
def b95_21 : List (Nat × xI) := [(22, x_iconst 1), (22, x_goto 22)]
def b95_22 : List (Nat × xI) := [(23, x_iret)]
def t95 : List (Nat × List (Nat × xI)) := [(0, b95_0), (11, b95_11), (21, b95_21), (22, b95_22)]
def b96_0 : List (Nat × xI) := [(1, x_iload 0), (2, x_istore 2), (3, x_iload 1), (4, x_istore 3), (4, x_goto 4)]
def b96_4 : List (Nat × xI) := [(5, x_iload 2), (8, x_call 95 1 0 0 0 0), (9, x_iload 3), (12, x_call 95 1 0 0 0 0), (15, x_icmp (fun x y => x ≤ y) 23), (16, x_iload 2), (18, x_iconst 10), (19, x_idiv), (20, x_istore 2), (23, x_goto 4)]
def b96_23 : List (Nat × xI) := [(24, x_iload 3), (27, x_call 95 1 0 0 0 0), (28, x_iload 2), (31, x_call 95 1 0 0 0 0), (34, x_icmp (fun x y => x ≤ y) 42), (35, x_iload 3), (37, x_iconst 10), (38, x_idiv), (39, x_istore 3), (42, x_goto 23)]
def b96_42 : List (Nat × xI) := [(43, x_iload 2), (44, x_iload 3), (47, x_icmp (fun x y => ¬ x = y) 51), (48, x_iconst 1), (51, x_goto 52)]
def b96_51 : List (Nat × xI) := [(52, x_iconst 0), (52, x_goto 52)]
def b96_52 : List (Nat × xI) := [(53, x_zret)]
def t96 : List (Nat × List (Nat × xI)) := [(0, b96_0), (4, b96_4), (23, b96_23), (42, b96_42), (51, b96_51), (52, b96_52)]
def b97_0 : List (Nat × xI) := [(1, x_iload 2), (3, x_iconst 10), (5, x_iconst 19), (8, x_call 92 3 0 0 0 0), (11, x_if (fun x => ¬ x = 0) 36), (12, x_iload 2), (14, x_iconst 100), (17, x_iconst 199), (20, x_call 92 3 0 0 0 0), (23, x_if (fun x => ¬ x = 0) 36), (24, x_iload 2), (27, x_iconst 1000), (30, x_iconst 1999), (33, x_call 92 3 0 0 0 0), (36, x_if (fun x => x = 0) 40), (36, x_goto 36)]
def b97_36 : List (Nat × xI) := [(37, x_iconst 1), (40, x_goto 41)]
def b97_40 : List (Nat × xI) := [(41, x_iconst 0), (41, x_goto 41)]
def b97_41 : List (Nat × xI) := [(43, x_istore 6), (44, x_iload 1), (45, x_iconst 0), (46, x_iconst 2), (49, x_call 92 3 0 0 0 0), (52, x_if (fun x => x = 0) 93), (54, x_iload 6), (57, x_if (fun x => x = 0) 93), (58, x_iload 3), (59, x_iconst 0), (60, x_iconst 2), (63, x_call 92 3 0 0 0 0), (66, x_if (fun x => x = 0) 93), (68, x_iload 4), (69, x_iconst 0), (71, x_iconst 99), (74, x_call 92 3 0 0 0 0), (77, x_if (fun x => x = 0) 93), (79, x_iload 5), (80, x_iconst 0), (83, x_iconst 1000), (86, x_call 92 3 0 0 0 0), (89, x_if (fun x => x = 0) 93), (90, x_iconst 1), (93, x_goto 94)]
def b97_93 : List (Nat × xI) := [(94, x_iconst 0), (94, x_goto 94)]
def b97_94 : List (Nat × xI) := [(96, x_istore 7), (97, x_aload 0), (99, x_iload 7), (102, x_if (fun x => x = 0) 106), (103, x_iconst 0), (106, x_goto 107)]
def b97_106 : List (Nat × xI) := [(107, x_iconst 1), (107, x_goto 107)]
def b97_107 : List (Nat × xI) := [(110, x_callv 8 91 2 0 0 0 0), (113, x_if (fun x => x = 0) 115), (114, x_iconst 0), (115, x_iret)]
def b97_115 : List (Nat × xI) := [(116, x_iconst (-1)), (118, x_istore 8), (119, x_iconst 0), (121, x_istore 9), (123, x_iconst 12), (124, x_iload 1), (125, x_bin (fun x y => x * y)), (127, x_istore 10), (127, x_goto 127)]
def b97_127 : List (Nat × xI) := [(129, x_iload 10), (131, x_iconst 12), (132, x_iload 1), (133, x_bin (fun x y => x * y)), (134, x_aload 0), (137, x_gfr 8 10 29), (138, x_iload 1), (139, x_ald 29), (140, x_bin (fun x y => x + y)), (143, x_icmp (fun x y => y ≤ x) 206), (144, x_aload 0), (147, x_gfr 8 11 30), (149, x_iload 10), (150, x_ald 30), (151, x_iload 2), (154, x_icmp (fun x y => ¬ x = y) 159), (156, x_iload 10), (159, x_goto 161)]
def b97_159 : List (Nat × xI) := [(161, x_iload 8), (161, x_goto 161)]
def b97_161 : List (Nat × xI) := [(163, x_istore 8), (165, x_iload 9), (168, x_if (fun x => ¬ x = 0) 193), (169, x_aload 0), (172, x_gfr 8 11 30), (174, x_iload 10), (175, x_ald 30), (176, x_iload 2), (179, x_icmp (fun x y => x = y) 197), (180, x_aload 0), (183, x_gfr 8 11 30), (185, x_iload 10), (186, x_ald 30), (187, x_iload 2), (190, x_call 96 2 0 0 0 0), (193, x_if (fun x => x = 0) 197), (193, x_goto 193)]
def b97_193 : List (Nat × xI) := [(194, x_iconst 1), (197, x_goto 198)]
def b97_197 : List (Nat × xI) := [(198, x_iconst 0), (198, x_goto 198)]
def b97_198 : List (Nat × xI) := [(200, x_istore 9), (203, x_iinc 10 1), (206, x_goto 127)]
def b97_206 : List (Nat × xI) := [(208, x_iload 9), (211, x_if (fun x => ¬ x = 0) 227), (213, x_iload 8), (216, x_if (fun x => 0 ≤ x) 231), (217, x_aload 0), (220, x_gfr 8 10 29), (221, x_iload 1), (222, x_ald 29), (224, x_iconst 12), (227, x_icmp (fun x y => ¬ x = y) 231), (227, x_goto 227)]
def b97_227 : List (Nat × xI) := [(228, x_iconst 1), (231, x_goto 232)]
def b97_231 : List (Nat × xI) := [(232, x_iconst 0), (232, x_goto 232)]
def b97_232 : List (Nat × xI) := [(234, x_istore 10), (236, x_iload 8), (239, x_if (fun x => x < 0) 326), (241, x_iload 10), (244, x_if (fun x => ¬ x = 0) 270), (245, x_aload 0), (248, x_gfr 8 15 34), (250, x_iload 8), (251, x_ald 34), (254, x_if (fun x => ¬ x = 0) 270), (255, x_iload 3), (256, x_iload 1), (259, x_icmp (fun x y => x = y) 270), (260, x_aload 0), (263, x_gfr 8 14 33), (265, x_iload 8), (266, x_ald 33), (267, x_iconst 3), (270, x_icmp (fun x y => ¬ x = y) 274), (270, x_goto 270)]
def b97_270 : List (Nat × xI) := [(271, x_iconst 1), (274, x_goto 275)]
def b97_274 : List (Nat × xI) := [(275, x_iconst 0), (275, x_goto 275)]
def b97_275 : List (Nat × xI) := [(277, x_istore 10), (278, x_iconst 0), (280, x_istore 11), (280, x_goto 280)]
def b97_280 : List (Nat × xI) := [(282, x_iload 11), (283, x_aload 0), (286, x_gfr 8 14 33), (288, x_iload 8), (289, x_ald 33), (292, x_icmp (fun x y => y ≤ x) 326), (294, x_iload 10), (297, x_if (fun x => ¬ x = 0) 313), (298, x_aload 0), (301, x_gfr 8 16 35), (302, x_iconst 3), (304, x_iload 8), (305, x_bin (fun x y => x * y)), (307, x_iload 11), (308, x_bin (fun x y => x + y)), (309, x_ald 35), (310, x_iload 3), (313, x_icmp (fun x y => ¬ x = y) 317), (313, x_goto 313)]
def b97_313 : List (Nat × xI) := [(314, x_iconst 1), (317, x_goto 318)]
def b97_317 : List (Nat × xI) := [(318, x_iconst 0), (318, x_goto 318)]
def b97_318 : List (Nat × xI) := [(320, x_istore 10), (323, x_iinc 11 1), (326, x_goto 280)]
def b97_326 : List (Nat × xI) := [(327, x_aload 0), (329, x_iload 10), (332, x_if (fun x => x = 0) 336), (333, x_iconst 2), (336, x_goto 337)]
def b97_336 : List (Nat × xI) := [(337, x_iconst 0), (337, x_goto 337)]
def b97_337 : List (Nat × xI) := [(340, x_callv 8 91 2 0 0 0 0), (343, x_if (fun x => x = 0) 345), (344, x_iconst 0), (345, x_iret)]
def b97_345 : List (Nat × xI) := [(347, x_iload 8), (350, x_if (fun x => 0 ≤ x) 406), (352, x_iconst 12), (353, x_iload 1), (354, x_bin (fun x y => x * y)), (355, x_aload 0), (358, x_gfr 8 10 29), (359, x_iload 1), (360, x_ald 29), (361, x_bin (fun x y => x + y)), (363, x_istore 8), (364, x_aload 0), (367, x_gfr 8 10 29), (368, x_iload 1), (369, x_dup2), (370, x_ald 29), (371, x_iconst 1), (372, x_bin (fun x y => x + y)), (373, x_ast 29), (374, x_aload 0), (377, x_gfr 8 11 30), (379, x_iload 8), (380, x_iload 2), (381, x_ast 30), (382, x_aload 0), (385, x_gfr 8 15 34), (387, x_iload 8), (388, x_iload 3), (389, x_iload 1), (392, x_icmp (fun x y => ¬ x = y) 396), (393, x_iconst 1), (396, x_goto 397)]
def b97_396 : List (Nat × xI) := [(397, x_iconst 0), (397, x_goto 397)]
def b97_397 : List (Nat × xI) := [(398, x_zst 34), (399, x_aload 0), (402, x_gfr 8 14 33), (404, x_iload 8), (405, x_iconst 0), (406, x_ast 33), (406, x_goto 406)]
def b97_406 : List (Nat × xI) := [(407, x_aload 0), (410, x_gfr 8 12 31), (412, x_iload 8), (414, x_iload 4), (415, x_ast 31), (416, x_aload 0), (419, x_gfr 8 13 32), (421, x_iload 8), (423, x_iload 5), (424, x_ast 32), (425, x_iload 3), (426, x_iload 1), (429, x_icmp (fun x y => x = y) 458), (430, x_aload 0), (433, x_gfr 8 16 35), (434, x_iconst 3), (436, x_iload 8), (437, x_bin (fun x y => x * y)), (438, x_aload 0), (441, x_gfr 8 14 33), (443, x_iload 8), (444, x_ald 33), (445, x_bin (fun x y => x + y)), (446, x_iload 3), (447, x_ast 35), (448, x_aload 0), (451, x_gfr 8 14 33), (453, x_iload 8), (454, x_dup2), (455, x_ald 33), (456, x_iconst 1), (457, x_bin (fun x y => x + y)), (458, x_ast 33), (458, x_goto 458)]
def b97_458 : List (Nat × xI) := [(459, x_aload 0), (462, x_gfr 8 14 33), (464, x_iload 8), (465, x_ald 33), (466, x_iret)]
def t97 : List (Nat × List (Nat × xI)) := [(0, b97_0), (36, b97_36), (40, b97_40), (41, b97_41), (93, b97_93), (94, b97_94), (106, b97_106), (107, b97_107), (115, b97_115), (127, b97_127), (159, b97_159), (161, b97_161), (193, b97_193), (197, b97_197), (198, b97_198), (206, b97_206), (227, b97_227), (231, b97_231), (232, b97_232), (270, b97_270), (274, b97_274), (275, b97_275), (280, b97_280), (313, b97_313), (317, b97_317), (318, b97_318), (326, b97_326), (336, b97_336), (337, b97_337), (345, b97_345), (396, b97_396), (397, b97_397), (406, b97_406), (458, b97_458)]
def b98_0 : List (Nat × xI) := [(1, x_aload 0), (2, x_iload 1), (3, x_iload 3), (6, x_call 93 2 0 0 0 0), (9, x_if (fun x => x = 0) 22), (10, x_iload 2), (11, x_iconst 0), (12, x_iconst 3), (15, x_call 92 3 0 0 0 0), (18, x_if (fun x => x = 0) 22), (19, x_iconst 0), (22, x_goto 23)]
def b98_22 : List (Nat × xI) := [(23, x_iconst 1), (23, x_goto 23)]
def b98_23 : List (Nat × xI) := [(26, x_callv 8 91 2 0 0 0 0), (29, x_if (fun x => x = 0) 31), (30, x_iconst 0), (31, x_iret)]
def b98_31 : List (Nat × xI) := [(32, x_iconst 0), (34, x_istore 4), (35, x_iconst 4), (36, x_iload 1), (37, x_bin (fun x y => x * y)), (39, x_istore 5), (39, x_goto 39)]
def b98_39 : List (Nat × xI) := [(41, x_iload 5), (42, x_iconst 4), (43, x_iload 1), (44, x_bin (fun x y => x * y)), (45, x_iconst 4), (46, x_bin (fun x y => x + y)), (49, x_icmp (fun x y => y ≤ x) 105), (50, x_iconst 0), (52, x_istore 6), (52, x_goto 52)]
def b98_52 : List (Nat × xI) := [(54, x_iload 6), (55, x_aload 0), (58, x_gfr 8 7 26), (60, x_iload 5), (61, x_ald 26), (64, x_icmp (fun x y => y ≤ x) 99), (66, x_iload 4), (69, x_if (fun x => ¬ x = 0) 86), (70, x_aload 0), (73, x_gfr 8 8 27), (75, x_iconst 6), (77, x_iload 5), (78, x_bin (fun x y => x * y)), (80, x_iload 6), (81, x_bin (fun x y => x + y)), (82, x_ald 27), (83, x_iload 3), (86, x_icmp (fun x y => ¬ x = y) 90), (86, x_goto 86)]
def b98_86 : List (Nat × xI) := [(87, x_iconst 1), (90, x_goto 91)]
def b98_90 : List (Nat × xI) := [(91, x_iconst 0), (91, x_goto 91)]
def b98_91 : List (Nat × xI) := [(93, x_istore 4), (96, x_iinc 6 1), (99, x_goto 52)]
def b98_99 : List (Nat × xI) := [(102, x_iinc 5 1), (105, x_goto 39)]
def b98_105 : List (Nat × xI) := [(106, x_iconst 4), (107, x_iload 1), (108, x_bin (fun x y => x * y)), (109, x_iload 2), (110, x_bin (fun x y => x + y)), (112, x_istore 5), (113, x_aload 0), (115, x_iload 4), (118, x_if (fun x => ¬ x = 0) 130), (119, x_aload 0), (122, x_gfr 8 7 26), (124, x_iload 5), (125, x_ald 26), (127, x_iconst 6), (130, x_icmp (fun x y => ¬ x = y) 134), (130, x_goto 130)]
def b98_130 : List (Nat × xI) := [(131, x_iconst 2), (134, x_goto 135)]
def b98_134 : List (Nat × xI) := [(135, x_iconst 0), (135, x_goto 135)]
def b98_135 : List (Nat × xI) := [(138, x_callv 8 91 2 0 0 0 0), (141, x_if (fun x => x = 0) 143), (142, x_iconst 0), (143, x_iret)]
def b98_143 : List (Nat × xI) := [(144, x_aload 0), (147, x_gfr 8 8 27), (149, x_iconst 6), (151, x_iload 5), (152, x_bin (fun x y => x * y)), (153, x_aload 0), (156, x_gfr 8 7 26), (158, x_iload 5), (159, x_ald 26), (160, x_bin (fun x y => x + y)), (161, x_iload 3), (162, x_ast 27), (163, x_aload 0), (166, x_gfr 8 7 26), (168, x_iload 5), (169, x_dup2), (170, x_ald 26), (171, x_iconst 1), (172, x_bin (fun x y => x + y)), (173, x_ast 26), (174, x_aload 0), (177, x_gfr 8 7 26), (179, x_iload 5), (180, x_ald 26), (181, x_iret)]
def t98 : List (Nat × List (Nat × xI)) := [(0, b98_0), (22, b98_22), (23, b98_23), (31, b98_31), (39, b98_39), (52, b98_52), (86, b98_86), (90, b98_90), (91, b98_91), (99, b98_99), (105, b98_105), (130, b98_130), (134, b98_134), (135, b98_135), (143, b98_143)]
def b99_0 : List (Nat × xI) := [(1, x_iload 1), (4, x_iconst 5000), (7, x_icmp (fun x y => x < y) 19), (8, x_aload 0), (11, x_gfr 8 23 41), (12, x_iload 1), (15, x_iconst 5000), (16, x_bin (fun x y => x - y)), (17, x_iload 2), (18, x_ast 41), (19, x_ret)]
def b99_19 : List (Nat × xI) := [(20, x_iload 1), (23, x_iconst 1000), (24, x_idiv), (25, x_istore 3), (26, x_iload 1), (29, x_iconst 1000), (30, x_irem), (32, x_istore 4), (34, x_iload 4), (36, x_iconst 30), (39, x_icmp (fun x y => x < y) 57), (40, x_aload 0), (43, x_gfr 8 19 38), (44, x_iconst 3), (45, x_iload 3), (46, x_bin (fun x y => x * y)), (48, x_iload 4), (49, x_bin (fun x y => x + y)), (51, x_iconst 30), (52, x_bin (fun x y => x - y)), (53, x_iload 2), (54, x_ast 38), (57, x_goto 95)]
def b99_57 : List (Nat × xI) := [(59, x_iload 4), (61, x_iconst 20), (64, x_icmp (fun x y => x < y) 82), (65, x_aload 0), (68, x_gfr 8 18 37), (69, x_iconst 5), (70, x_iload 3), (71, x_bin (fun x y => x * y)), (73, x_iload 4), (74, x_bin (fun x y => x + y)), (76, x_iconst 20), (77, x_bin (fun x y => x - y)), (78, x_iload 2), (79, x_ast 37), (82, x_goto 95)]
def b99_82 : List (Nat × xI) := [(83, x_aload 0), (86, x_gfr 8 17 36), (88, x_iconst 12), (89, x_iload 3), (90, x_bin (fun x y => x * y)), (92, x_iload 4), (93, x_bin (fun x y => x + y)), (94, x_iload 2), (95, x_ast 36), (95, x_goto 95)]
def b99_95 : List (Nat × xI) := [(96, x_ret)]
def t99 : List (Nat × List (Nat × xI)) := [(0, b99_0), (19, b99_19), (57, b99_57), (82, b99_82), (95, b99_95)]
def b100_0 : List (Nat × xI) := [(1, x_aload 0), (4, x_gfr 8 46 64), (6, x_iconst 16), (7, x_iload 1), (8, x_bin (fun x y => x * y)), (9, x_aload 0), (12, x_gfr 8 45 63), (13, x_iload 1), (14, x_ald 63), (15, x_bin (fun x y => x + y)), (16, x_iload 2), (17, x_ast 64), (18, x_aload 0), (21, x_gfr 8 45 63), (22, x_iload 1), (23, x_dup2), (24, x_ald 63), (25, x_iconst 1), (26, x_bin (fun x y => x + y)), (27, x_ast 63), (28, x_aload 0), (29, x_iload 2), (30, x_iload 1), (33, x_callv 8 99 3 0 0 0 0), (34, x_ret)]
def t100 : List (Nat × List (Nat × xI)) := [(0, b100_0)]
def b101_0 : List (Nat × xI) := [(1, x_aload 0), (2, x_iload 2), (3, x_iconst (-1)), (6, x_callv 8 99 3 0 0 0 0), (7, x_iconst 0), (8, x_istore 3), (9, x_iconst 0), (11, x_istore 4), (11, x_goto 11)]
def b101_11 : List (Nat × xI) := [(13, x_iload 4), (14, x_aload 0), (17, x_gfr 8 45 63), (18, x_iload 1), (19, x_ald 63), (22, x_icmp (fun x y => y ≤ x) 70), (23, x_aload 0), (26, x_gfr 8 46 64), (28, x_iconst 16), (29, x_iload 1), (30, x_bin (fun x y => x * y)), (32, x_iload 4), (33, x_bin (fun x y => x + y)), (34, x_ald 64), (35, x_iload 2), (38, x_icmp (fun x y => x = y) 64), (39, x_aload 0), (42, x_gfr 8 46 64), (44, x_iconst 16), (45, x_iload 1), (46, x_bin (fun x y => x * y)), (47, x_iload 3), (48, x_bin (fun x y => x + y)), (49, x_aload 0), (52, x_gfr 8 46 64), (54, x_iconst 16), (55, x_iload 1), (56, x_bin (fun x y => x * y)), (58, x_iload 4), (59, x_bin (fun x y => x + y)), (60, x_ald 64), (61, x_ast 64), (64, x_iinc 3 1), (64, x_goto 64)]
def b101_64 : List (Nat × xI) := [(67, x_iinc 4 1), (70, x_goto 11)]
def b101_70 : List (Nat × xI) := [(71, x_aload 0), (74, x_gfr 8 45 63), (75, x_iload 1), (76, x_iload 3), (77, x_ast 63), (78, x_ret)]
def t101 : List (Nat × List (Nat × xI)) := [(0, b101_0), (11, b101_11), (64, b101_64), (70, b101_70)]
def b102_0 : List (Nat × xI) := [(1, x_iconst 0), (2, x_istore 2), (2, x_goto 2)]
def b102_2 : List (Nat × xI) := [(3, x_iload 2), (4, x_iconst 3), (7, x_icmp (fun x y => y ≤ x) 84), (8, x_iconst 0), (9, x_istore 3), (10, x_iconst 0), (12, x_istore 4), (12, x_goto 12)]
def b102_12 : List (Nat × xI) := [(14, x_iload 4), (15, x_aload 0), (18, x_gfr 8 27 45), (19, x_iload 2), (20, x_ald 45), (23, x_icmp (fun x y => y ≤ x) 71), (24, x_aload 0), (27, x_gfr 8 28 46), (29, x_iconst 72), (30, x_iload 2), (31, x_bin (fun x y => x * y)), (33, x_iload 4), (34, x_bin (fun x y => x + y)), (35, x_ald 46), (36, x_iload 1), (39, x_icmp (fun x y => x = y) 65), (40, x_aload 0), (43, x_gfr 8 28 46), (45, x_iconst 72), (46, x_iload 2), (47, x_bin (fun x y => x * y)), (48, x_iload 3), (49, x_bin (fun x y => x + y)), (50, x_aload 0), (53, x_gfr 8 28 46), (55, x_iconst 72), (56, x_iload 2), (57, x_bin (fun x y => x * y)), (59, x_iload 4), (60, x_bin (fun x y => x + y)), (61, x_ald 46), (62, x_ast 46), (65, x_iinc 3 1), (65, x_goto 65)]
def b102_65 : List (Nat × xI) := [(68, x_iinc 4 1), (71, x_goto 12)]
def b102_71 : List (Nat × xI) := [(72, x_aload 0), (75, x_gfr 8 27 45), (76, x_iload 2), (77, x_iload 3), (78, x_ast 45), (81, x_iinc 2 1), (84, x_goto 2)]
def b102_84 : List (Nat × xI) := [(85, x_ret)]
def t102 : List (Nat × List (Nat × xI)) := [(0, b102_0), (2, b102_2), (12, b102_12), (65, b102_65), (71, b102_71), (84, b102_84)]
def b103_0 : List (Nat × xI) := [(1, x_aload 0), (4, x_gfr 8 29 47), (5, x_iload 1), (6, x_iconst 2), (7, x_ast 47), (8, x_aload 0), (11, x_gfr 8 32 50), (12, x_iload 1), (13, x_iload 2), (14, x_ast 50), (15, x_aload 0), (18, x_gfr 8 41 59), (19, x_iload 1), (20, x_aload 0), (23, x_gfi 8 1), (24, x_ast 59), (25, x_aload 0), (28, x_gfr 8 28 46), (30, x_iconst 72), (31, x_iload 2), (32, x_bin (fun x y => x * y)), (33, x_aload 0), (36, x_gfr 8 27 45), (37, x_iload 2), (38, x_ald 45), (39, x_bin (fun x y => x + y)), (40, x_iload 1), (41, x_ast 46), (42, x_aload 0), (45, x_gfr 8 27 45), (46, x_iload 2), (47, x_dup2), (48, x_ald 45), (49, x_iconst 1), (50, x_bin (fun x y => x + y)), (51, x_ast 45), (52, x_ret)]
def t103 : List (Nat × List (Nat × xI)) := [(0, b103_0)]
def b104_0 : List (Nat × xI) := [(1, x_aload 0), (4, x_gfr 8 45 63), (5, x_iload 1), (6, x_ald 63), (9, x_if (fun x => x ≤ 0) 35), (10, x_aload 0), (11, x_iload 1), (12, x_aload 0), (15, x_gfr 8 46 64), (17, x_iconst 16), (18, x_iload 1), (19, x_bin (fun x y => x * y)), (20, x_aload 0), (23, x_gfr 8 45 63), (24, x_iload 1), (25, x_ald 63), (26, x_bin (fun x y => x + y)), (27, x_iconst 1), (28, x_bin (fun x y => x - y)), (29, x_ald 64), (32, x_callv 8 101 3 0 0 0 0), (35, x_goto 0)]
def b104_35 : List (Nat × xI) := [(36, x_aload 0), (37, x_iload 1), (40, x_callv 8 102 2 0 0 0 0), (41, x_aload 0), (44, x_gfr 8 29 47), (45, x_iload 1), (46, x_iconst 0), (47, x_ast 47), (48, x_aload 0), (51, x_gfr 8 39 57), (52, x_iload 1), (53, x_ald 57), (56, x_if (fun x => x < 0) 68), (57, x_aload 0), (60, x_gfr 8 9 28), (61, x_aload 0), (64, x_gfr 8 39 57), (65, x_iload 1), (66, x_ald 57), (67, x_iconst (-1)), (68, x_ast 28), (68, x_goto 68)]
def b104_68 : List (Nat × xI) := [(69, x_ret)]
def t104 : List (Nat × List (Nat × xI)) := [(0, b104_0), (35, b104_35), (68, b104_68)]
def b105_0 : List (Nat × xI) := [(1, x_aload 0), (2, x_iload 1), (5, x_callv 8 104 2 0 0 0 0), (6, x_aload 0), (9, x_gfr 8 39 57), (10, x_iload 1), (11, x_iconst (-1)), (12, x_ast 57), (13, x_aload 0), (16, x_gfr 8 4 23), (17, x_iload 1), (18, x_iload 2), (19, x_ast 23), (20, x_ret)]
def t105 : List (Nat × List (Nat × xI)) := [(0, b105_0)]
def b106_0 : List (Nat × xI) := [(1, x_aload 0), (4, x_gfr 8 39 57), (5, x_iload 1), (6, x_ald 57), (7, x_istore 3), (8, x_aload 0), (9, x_iload 1), (12, x_callv 8 104 2 0 0 0 0), (13, x_aload 0), (16, x_gfr 8 39 57), (17, x_iload 1), (18, x_iconst (-1)), (19, x_ast 57), (20, x_aload 0), (23, x_gfr 8 3 22), (24, x_iload 1), (25, x_ald 22), (28, x_if (fun x => x = 0) 35), (29, x_aload 0), (32, x_gfr 8 4 23), (33, x_iload 1), (34, x_iload 2), (35, x_ast 23), (35, x_goto 35)]
def b106_35 : List (Nat × xI) := [(36, x_iload 3), (39, x_if (fun x => x < 0) 55), (40, x_aload 0), (43, x_gfr 8 3 22), (44, x_iload 3), (45, x_ald 22), (48, x_if (fun x => x = 0) 55), (49, x_aload 0), (52, x_gfr 8 4 23), (53, x_iload 3), (54, x_iconst 3), (55, x_ast 23), (55, x_goto 55)]
def b106_55 : List (Nat × xI) := [(56, x_ret)]
def t106 : List (Nat × List (Nat × xI)) := [(0, b106_0), (35, b106_35), (55, b106_55)]
def b107_0 : List (Nat × xI) := [(1, x_iconst (-1)), (2, x_istore 2), (3, x_iconst 2), (4, x_istore 3), (4, x_goto 4)]
def b107_4 : List (Nat × xI) := [(5, x_iload 3), (8, x_if (fun x => x < 0) 33), (9, x_aload 0), (12, x_gfr 8 19 38), (13, x_iconst 3), (14, x_iload 1), (15, x_bin (fun x y => x * y)), (16, x_iload 3), (17, x_bin (fun x y => x + y)), (18, x_ald 38), (21, x_if (fun x => 0 ≤ x) 25), (22, x_iload 3), (25, x_goto 26)]
def b107_25 : List (Nat × xI) := [(26, x_iload 2), (26, x_goto 26)]
def b107_26 : List (Nat × xI) := [(27, x_istore 2), (30, x_iinc 3 (-1)), (33, x_goto 4)]
def b107_33 : List (Nat × xI) := [(34, x_iload 2), (35, x_iret)]
def t107 : List (Nat × List (Nat × xI)) := [(0, b107_0), (4, b107_4), (25, b107_25), (26, b107_26), (33, b107_33)]
def b108_0 : List (Nat × xI) := [(1, x_iconst 0), (2, x_istore 2), (4, x_iconst 24), (5, x_iload 1), (6, x_bin (fun x y => x * y)), (7, x_istore 3), (7, x_goto 7)]
def b108_7 : List (Nat × xI) := [(8, x_iload 3), (10, x_iconst 24), (11, x_iload 1), (12, x_bin (fun x y => x * y)), (14, x_iconst 24), (15, x_bin (fun x y => x + y)), (18, x_icmp (fun x y => y ≤ x) 43), (19, x_iload 2), (22, x_if (fun x => ¬ x = 0) 31), (23, x_aload 0), (26, x_gfr 8 5 24), (27, x_iload 3), (28, x_ald 24), (31, x_if (fun x => x < 0) 35), (31, x_goto 31)]
def b108_31 : List (Nat × xI) := [(32, x_iconst 1), (35, x_goto 36)]
def b108_35 : List (Nat × xI) := [(36, x_iconst 0), (36, x_goto 36)]
def b108_36 : List (Nat × xI) := [(37, x_istore 2), (40, x_iinc 3 1), (43, x_goto 7)]
def b108_43 : List (Nat × xI) := [(44, x_iload 2), (45, x_zret)]
def t108 : List (Nat × List (Nat × xI)) := [(0, b108_0), (7, b108_7), (31, b108_31), (35, b108_35), (36, b108_36), (43, b108_43)]
def b109_0 : List (Nat × xI) := [(1, x_iload 1), (3, x_iconst 24), (4, x_idiv), (5, x_istore 2), (6, x_aload 0), (7, x_iload 2), (10, x_callv 8 107 2 0 0 0 0), (11, x_istore 3), (12, x_aload 0), (15, x_gfr 8 5 24), (16, x_iload 1), (17, x_iconst (-1)), (18, x_ast 24), (19, x_aload 0), (22, x_gfr 8 29 47), (23, x_iload 1), (24, x_iconst 1), (25, x_ast 47), (26, x_aload 0), (29, x_gfr 8 30 48), (30, x_iload 1), (31, x_iconst 0), (32, x_ast 48), (33, x_aload 0), (36, x_gfr 8 38 56), (37, x_iload 1), (38, x_iconst 0), (39, x_ast 56), (40, x_aload 0), (43, x_gfr 8 32 50), (44, x_iload 1), (45, x_iload 2), (46, x_ast 50), (47, x_aload 0), (50, x_gfr 8 33 51), (51, x_iload 1), (52, x_iload 3), (53, x_ast 51), (54, x_aload 0), (57, x_gfr 8 37 55), (58, x_iload 1), (59, x_iconst 1), (60, x_iload 2), (61, x_bin (fun x y => x <<< (y &&& 31))), (62, x_ast 55), (63, x_aload 0), (66, x_gfr 8 39 57), (67, x_iload 1), (68, x_iconst (-1)), (69, x_ast 57), (70, x_aload 0), (73, x_gfr 8 42 60), (74, x_iload 1), (75, x_iconst 0), (76, x_zst 60), (77, x_aload 0), (80, x_gfr 8 45 63), (81, x_iload 1), (82, x_iconst 0), (83, x_ast 63), (84, x_aload 0), (85, x_iload 1), (88, x_iconst 1000), (89, x_iload 2), (90, x_bin (fun x y => x * y)), (92, x_iconst 30), (93, x_bin (fun x y => x + y)), (94, x_iload 3), (95, x_bin (fun x y => x + y)), (98, x_callv 8 100 3 0 0 0 0), (99, x_ret)]
def t109 : List (Nat × List (Nat × xI)) := [(0, b109_0)]
def b110_0 : List (Nat × xI) := [(1, x_aload 0), (2, x_iload 1), (3, x_iload 2), (6, x_call 93 2 0 0 0 0), (9, x_if (fun x => ¬ x = 0) 13), (10, x_iconst 1), (13, x_goto 32)]
def b110_13 : List (Nat × xI) := [(14, x_aload 0), (17, x_gfr 8 3 22), (19, x_iconst 24), (20, x_iload 1), (21, x_bin (fun x y => x * y)), (22, x_iload 2), (23, x_bin (fun x y => x + y)), (24, x_ald 22), (27, x_if (fun x => x = 0) 31), (28, x_iconst 2), (31, x_goto 32)]
def b110_31 : List (Nat × xI) := [(32, x_iconst 0), (32, x_goto 32)]
def b110_32 : List (Nat × xI) := [(35, x_callv 8 91 2 0 0 0 0), (38, x_if (fun x => x = 0) 39), (39, x_ret)]
def b110_39 : List (Nat × xI) := [(41, x_iconst 24), (42, x_iload 1), (43, x_bin (fun x y => x * y)), (44, x_iload 2), (45, x_bin (fun x y => x + y)), (46, x_istore 3), (47, x_aload 0), (50, x_gfr 8 3 22), (51, x_iload 3), (52, x_iconst 1), (53, x_zst 22), (54, x_aload 0), (57, x_gfr 8 9 28), (58, x_iload 3), (59, x_ald 28), (61, x_istore 4), (63, x_iload 4), (66, x_if (fun x => x < 0) 131), (67, x_aload 0), (70, x_gfr 8 29 47), (72, x_iload 4), (73, x_ald 47), (74, x_iconst 4), (77, x_icmp (fun x y => ¬ x = y) 120), (78, x_aload 0), (81, x_gfr 8 29 47), (83, x_iload 4), (84, x_iconst 5), (85, x_ast 47), (86, x_aload 0), (89, x_gfr 8 43 61), (91, x_iload 4), (92, x_iconst 0), (93, x_ast 61), (94, x_aload 0), (97, x_gfr 8 6 25), (99, x_iload 4), (100, x_aload 0), (103, x_gfr 8 6 25), (105, x_iload 4), (106, x_ald 25), (107, x_aload 0), (110, x_gfr 8 12 31), (111, x_aload 0), (114, x_gfr 8 40 58), (116, x_iload 4), (117, x_ald 58), (118, x_ald 31), (119, x_bin (fun x y => x + y)), (120, x_ast 25), (120, x_goto 120)]
def b110_120 : List (Nat × xI) := [(121, x_aload 0), (124, x_gfr 8 44 62), (126, x_iload 4), (127, x_iconst 0), (128, x_ast 62), (131, x_goto 184)]
def b110_131 : List (Nat × xI) := [(132, x_aload 0), (135, x_gfr 8 29 47), (136, x_iload 3), (137, x_ald 47), (140, x_if (fun x => ¬ x = 0) 184), (141, x_aload 0), (142, x_iload 1), (145, x_callv 8 107 2 0 0 0 0), (148, x_if (fun x => x < 0) 164), (149, x_aload 0), (150, x_iload 1), (153, x_callv 8 108 2 0 0 0 0), (156, x_if (fun x => ¬ x = 0) 164), (157, x_aload 0), (158, x_iload 3), (161, x_callv 8 109 2 0 0 0 0), (164, x_goto 184)]
def b110_164 : List (Nat × xI) := [(165, x_aload 0), (168, x_gfr 8 5 24), (169, x_iload 3), (170, x_aload 0), (173, x_gfi 8 2), (174, x_ast 24), (175, x_aload 0), (176, x_dup), (179, x_gfi 8 2), (180, x_iconst 1), (181, x_bin (fun x y => x + y)), (184, x_pfi 8 2), (184, x_goto 184)]
def b110_184 : List (Nat × xI) := [(185, x_ret)]
def t110 : List (Nat × List (Nat × xI)) := [(0, b110_0), (13, b110_13), (31, b110_31), (32, b110_32), (39, b110_39), (120, b110_120), (131, b110_131), (164, b110_164), (184, b110_184)]
def b111_0 : List (Nat × xI) := [(1, x_aload 0), (2, x_iload 1), (3, x_iload 2), (6, x_call 93 2 0 0 0 0), (9, x_if (fun x => ¬ x = 0) 13), (10, x_iconst 1), (13, x_goto 32)]
def b111_13 : List (Nat × xI) := [(14, x_aload 0), (17, x_gfr 8 3 22), (19, x_iconst 24), (20, x_iload 1), (21, x_bin (fun x y => x * y)), (22, x_iload 2), (23, x_bin (fun x y => x + y)), (24, x_ald 22), (27, x_if (fun x => ¬ x = 0) 31), (28, x_iconst 2), (31, x_goto 32)]
def b111_31 : List (Nat × xI) := [(32, x_iconst 0), (32, x_goto 32)]
def b111_32 : List (Nat × xI) := [(35, x_callv 8 91 2 0 0 0 0), (38, x_if (fun x => x = 0) 39), (39, x_ret)]
def b111_39 : List (Nat × xI) := [(41, x_iconst 24), (42, x_iload 1), (43, x_bin (fun x y => x * y)), (44, x_iload 2), (45, x_bin (fun x y => x + y)), (46, x_istore 3), (47, x_aload 0), (50, x_gfr 8 3 22), (51, x_iload 3), (52, x_iconst 0), (53, x_zst 22), (54, x_aload 0), (57, x_gfr 8 4 23), (58, x_iload 3), (59, x_iconst 0), (60, x_ast 23), (61, x_aload 0), (64, x_gfr 8 5 24), (65, x_iload 3), (66, x_iconst (-1)), (67, x_ast 24), (68, x_aload 0), (71, x_gfr 8 29 47), (72, x_iload 3), (73, x_ald 47), (76, x_if (fun x => x = 0) 104), (77, x_aload 0), (80, x_gfr 8 29 47), (81, x_iload 3), (82, x_ald 47), (83, x_iconst 5), (86, x_icmp (fun x y => ¬ x = y) 95), (87, x_aload 0), (90, x_gfr 8 42 60), (91, x_iload 3), (92, x_ald 60), (95, x_if (fun x => ¬ x = 0) 125), (95, x_goto 95)]
def b111_95 : List (Nat × xI) := [(96, x_aload 0), (97, x_iload 3), (98, x_iconst 3), (101, x_callv 8 106 3 0 0 0 0), (104, x_goto 125)]
def b111_104 : List (Nat × xI) := [(105, x_aload 0), (108, x_gfr 8 9 28), (109, x_iload 3), (110, x_ald 28), (113, x_if (fun x => x < 0) 125), (114, x_aload 0), (117, x_gfr 8 44 62), (118, x_aload 0), (121, x_gfr 8 9 28), (122, x_iload 3), (123, x_ald 28), (124, x_iconst 0), (125, x_ast 62), (125, x_goto 125)]
def b111_125 : List (Nat × xI) := [(126, x_ret)]
def t111 : List (Nat × List (Nat × xI)) := [(0, b111_0), (13, b111_13), (31, b111_31), (32, b111_32), (39, b111_39), (95, b111_95), (104, b111_104), (125, b111_125)]
def b112_0 : List (Nat × xI) := [(1, x_iload 2), (4, x_call 95 1 0 0 0 0), (5, x_istore 3), (6, x_iload 2), (8, x_istore 4), (9, x_aload 0), (12, x_gfr 8 30 48), (13, x_iload 1), (14, x_ald 48), (15, x_iload 3), (18, x_icmp (fun x y => x < y) 22), (19, x_iconst 1), (22, x_goto 23)]
def b112_22 : List (Nat × xI) := [(23, x_iconst 0), (23, x_goto 23)]
def b112_23 : List (Nat × xI) := [(25, x_istore 5), (26, x_iload 3), (27, x_iconst 1), (28, x_bin (fun x y => x - y)), (30, x_istore 6), (30, x_goto 30)]
def b112_30 : List (Nat × xI) := [(32, x_iload 6), (35, x_if (fun x => x < 0) 80), (37, x_iload 5), (40, x_if (fun x => x = 0) 64), (41, x_aload 0), (44, x_gfr 8 31 49), (46, x_iconst 8), (47, x_iload 1), (48, x_bin (fun x y => x * y)), (50, x_iload 6), (51, x_bin (fun x y => x + y)), (52, x_ald 49), (54, x_iload 4), (56, x_iconst 10), (57, x_irem), (60, x_icmp (fun x y => ¬ x = y) 64), (61, x_iconst 1), (64, x_goto 65)]
def b112_64 : List (Nat × xI) := [(65, x_iconst 0), (65, x_goto 65)]
def b112_65 : List (Nat × xI) := [(67, x_istore 5), (69, x_iload 4), (71, x_iconst 10), (72, x_idiv), (74, x_istore 4), (77, x_iinc 6 (-1)), (80, x_goto 30)]
def b112_80 : List (Nat × xI) := [(82, x_iload 5), (83, x_zret)]
def t112 : List (Nat × List (Nat × xI)) := [(0, b112_0), (22, b112_22), (23, b112_23), (30, b112_30), (64, b112_64), (65, b112_65), (80, b112_80)]
def b113_0 : List (Nat × xI) := [(1, x_iload 2), (2, x_istore 3), (2, x_goto 2)]
def b113_2 : List (Nat × xI) := [(3, x_iload 3), (6, x_call 95 1 0 0 0 0), (7, x_aload 0), (10, x_gfr 8 30 48), (11, x_iload 1), (12, x_ald 48), (15, x_icmp (fun x y => x ≤ y) 23), (16, x_iload 3), (18, x_iconst 10), (19, x_idiv), (20, x_istore 3), (23, x_goto 2)]
def b113_23 : List (Nat × xI) := [(24, x_aload 0), (25, x_iload 1), (26, x_iload 3), (29, x_callv 8 112 3 0 0 0 0), (30, x_zret)]
def t113 : List (Nat × List (Nat × xI)) := [(0, b113_0), (2, b113_2), (23, b113_23)]
def b114_0 : List (Nat × xI) := [(1, x_iconst (-1)), (2, x_istore 3), (4, x_iconst 12), (5, x_iload 2), (6, x_bin (fun x y => x * y)), (8, x_istore 4), (8, x_goto 8)]
def b114_8 : List (Nat × xI) := [(10, x_iload 4), (12, x_iconst 12), (13, x_iload 2), (14, x_bin (fun x y => x * y)), (15, x_aload 0), (18, x_gfr 8 10 29), (19, x_iload 2), (20, x_ald 29), (21, x_bin (fun x y => x + y)), (24, x_icmp (fun x y => y ≤ x) 52), (25, x_aload 0), (26, x_iload 1), (27, x_aload 0), (30, x_gfr 8 11 30), (32, x_iload 4), (33, x_ald 30), (36, x_callv 8 112 3 0 0 0 0), (39, x_if (fun x => x = 0) 44), (41, x_iload 4), (44, x_goto 45)]
def b114_44 : List (Nat × xI) := [(45, x_iload 3), (45, x_goto 45)]
def b114_45 : List (Nat × xI) := [(46, x_istore 3), (49, x_iinc 4 1), (52, x_goto 8)]
def b114_52 : List (Nat × xI) := [(53, x_iload 3), (54, x_iret)]
def t114 : List (Nat × List (Nat × xI)) := [(0, b114_0), (8, b114_8), (44, b114_44), (45, b114_45), (52, b114_52)]
def b115_0 : List (Nat × xI) := [(1, x_iload 1), (2, x_iload 2), (5, x_call 93 2 0 0 0 0), (8, x_if (fun x => x = 0) 22), (9, x_iload 3), (10, x_iconst 0), (12, x_iconst 9), (15, x_call 92 3 0 0 0 0), (18, x_if (fun x => x = 0) 22), (19, x_iconst 1), (22, x_goto 23)]
def b115_22 : List (Nat × xI) := [(23, x_iconst 0), (23, x_goto 23)]
def b115_23 : List (Nat × xI) := [(25, x_istore 4), (26, x_aload 0), (28, x_iload 4), (31, x_if (fun x => ¬ x = 0) 35), (32, x_iconst 1), (35, x_goto 54)]
def b115_35 : List (Nat × xI) := [(36, x_aload 0), (39, x_gfr 8 3 22), (41, x_iconst 24), (42, x_iload 1), (43, x_bin (fun x y => x * y)), (44, x_iload 2), (45, x_bin (fun x y => x + y)), (46, x_ald 22), (49, x_if (fun x => ¬ x = 0) 53), (50, x_iconst 2), (53, x_goto 54)]
def b115_53 : List (Nat × xI) := [(54, x_iconst 0), (54, x_goto 54)]
def b115_54 : List (Nat × xI) := [(57, x_callv 8 91 2 0 0 0 0), (60, x_if (fun x => x = 0) 62), (61, x_iconst 0), (62, x_zret)]
def b115_62 : List (Nat × xI) := [(64, x_iconst 24), (65, x_iload 1), (66, x_bin (fun x y => x * y)), (67, x_iload 2), (68, x_bin (fun x y => x + y)), (70, x_istore 5), (71, x_aload 0), (74, x_gfr 8 29 47), (76, x_iload 5), (77, x_ald 47), (78, x_iconst 1), (81, x_icmp (fun x y => x = y) 83), (82, x_iconst 0), (83, x_zret)]
def b115_83 : List (Nat × xI) := [(84, x_aload 0), (87, x_gfr 8 31 49), (89, x_iconst 8), (91, x_iload 5), (92, x_bin (fun x y => x * y)), (93, x_aload 0), (96, x_gfr 8 30 48), (98, x_iload 5), (99, x_ald 48), (100, x_bin (fun x y => x + y)), (101, x_iload 3), (102, x_ast 49), (103, x_aload 0), (106, x_gfr 8 30 48), (108, x_iload 5), (109, x_dup2), (110, x_ald 48), (111, x_iconst 1), (112, x_bin (fun x y => x + y)), (113, x_ast 48), (114, x_aload 0), (117, x_gfr 8 38 56), (119, x_iload 5), (120, x_iconst 0), (121, x_ast 56), (122, x_aload 0), (124, x_iload 5), (125, x_iload 1), (128, x_callv 8 114 3 0 0 0 0), (130, x_istore 6), (132, x_iload 6), (135, x_if (fun x => x < 0) 139), (136, x_iconst 1), (139, x_goto 140)]
def b115_139 : List (Nat × xI) := [(140, x_iconst 0), (140, x_goto 140)]
def b115_140 : List (Nat × xI) := [(142, x_istore 7), (144, x_iconst 12), (145, x_iload 1), (146, x_bin (fun x y => x * y)), (148, x_istore 8), (148, x_goto 148)]
def b115_148 : List (Nat × xI) := [(150, x_iload 8), (152, x_iconst 12), (153, x_iload 1), (154, x_bin (fun x y => x * y)), (155, x_aload 0), (158, x_gfr 8 10 29), (159, x_iload 1), (160, x_ald 29), (161, x_bin (fun x y => x + y)), (164, x_icmp (fun x y => y ≤ x) 198), (166, x_iload 7), (169, x_if (fun x => ¬ x = 0) 185), (170, x_aload 0), (172, x_iload 5), (173, x_aload 0), (176, x_gfr 8 11 30), (178, x_iload 8), (179, x_ald 30), (182, x_callv 8 113 3 0 0 0 0), (185, x_if (fun x => x = 0) 189), (185, x_goto 185)]
def b115_185 : List (Nat × xI) := [(186, x_iconst 1), (189, x_goto 190)]
def b115_189 : List (Nat × xI) := [(190, x_iconst 0), (190, x_goto 190)]
def b115_190 : List (Nat × xI) := [(192, x_istore 7), (195, x_iinc 8 1), (198, x_goto 148)]
def b115_198 : List (Nat × xI) := [(200, x_iload 7), (203, x_if (fun x => ¬ x = 0) 213), (204, x_aload 0), (206, x_iload 5), (207, x_iconst 5), (210, x_callv 8 105 3 0 0 0 0), (213, x_goto 256)]
def b115_213 : List (Nat × xI) := [(215, x_iload 6), (218, x_if (fun x => x < 0) 256), (219, x_aload 0), (222, x_gfr 8 30 48), (224, x_iload 5), (225, x_ald 48), (226, x_aload 0), (229, x_gfr 8 11 30), (231, x_iload 6), (232, x_ald 30), (235, x_call 95 1 0 0 0 0), (236, x_iconst 2), (237, x_bin (fun x y => x + y)), (240, x_icmp (fun x y => x < y) 256), (241, x_aload 0), (244, x_gfr 8 40 58), (246, x_iload 5), (248, x_iload 6), (249, x_ast 58), (250, x_aload 0), (252, x_iload 5), (253, x_iload 1), (256, x_callv 8 103 3 0 0 0 0), (256, x_goto 256)]
def b115_256 : List (Nat × xI) := [(257, x_iconst 1), (258, x_zret)]
def t115 : List (Nat × List (Nat × xI)) := [(0, b115_0), (22, b115_22), (23, b115_23), (35, b115_35), (53, b115_53), (54, b115_54), (62, b115_62), (83, b115_83), (139, b115_139), (140, b115_140), (148, b115_148), (185, b115_185), (189, b115_189), (190, b115_190), (198, b115_198), (213, b115_213), (256, b115_256)]
def b116_0 : List (Nat × xI) := [(1, x_aload 0), (4, x_gfr 8 3 22), (5, x_iload 1), (6, x_ald 22), (9, x_if (fun x => ¬ x = 0) 31), (10, x_aload 0), (13, x_gfr 8 9 28), (14, x_iload 1), (15, x_ald 28), (18, x_if (fun x => 0 ≤ x) 31), (19, x_aload 0), (22, x_gfr 8 29 47), (23, x_iload 1), (24, x_ald 47), (27, x_if (fun x => ¬ x = 0) 31), (28, x_iconst 1), (31, x_goto 32)]
def b116_31 : List (Nat × xI) := [(32, x_iconst 0), (32, x_goto 32)]
def b116_32 : List (Nat × xI) := [(33, x_zret)]
def t116 : List (Nat × List (Nat × xI)) := [(0, b116_0), (31, b116_31), (32, b116_32)]
def b117_0 : List (Nat × xI) := [(1, x_iconst 4), (2, x_iload 1), (3, x_bin (fun x y => x * y)), (4, x_istore 3), (4, x_goto 4)]
def b117_4 : List (Nat × xI) := [(5, x_iload 3), (6, x_iconst 4), (7, x_iload 1), (8, x_bin (fun x y => x * y)), (9, x_iconst 4), (10, x_bin (fun x y => x + y)), (13, x_icmp (fun x y => y ≤ x) 98), (14, x_aload 0), (17, x_gfr 8 7 26), (18, x_iload 3), (19, x_ald 26), (22, x_if (fun x => x ≤ 0) 92), (23, x_aload 0), (26, x_gfr 8 8 27), (28, x_iconst 6), (29, x_iload 3), (30, x_bin (fun x y => x * y)), (31, x_ald 27), (32, x_iload 2), (35, x_icmp (fun x y => ¬ x = y) 92), (36, x_iconst 0), (38, x_istore 4), (38, x_goto 38)]
def b117_38 : List (Nat × xI) := [(40, x_iload 4), (41, x_aload 0), (44, x_gfr 8 7 26), (45, x_iload 3), (46, x_ald 26), (49, x_icmp (fun x y => y ≤ x) 92), (50, x_aload 0), (52, x_iconst 24), (53, x_iload 1), (54, x_bin (fun x y => x * y)), (55, x_aload 0), (58, x_gfr 8 8 27), (60, x_iconst 6), (61, x_iload 3), (62, x_bin (fun x y => x * y)), (64, x_iload 4), (65, x_bin (fun x y => x + y)), (66, x_ald 27), (67, x_bin (fun x y => x + y)), (70, x_callv 8 116 2 0 0 0 0), (73, x_if (fun x => x = 0) 86), (74, x_aload 0), (77, x_gfr 8 8 27), (79, x_iconst 6), (80, x_iload 3), (81, x_bin (fun x y => x * y)), (83, x_iload 4), (84, x_bin (fun x y => x + y)), (85, x_ald 27), (86, x_iret)]
def b117_86 : List (Nat × xI) := [(89, x_iinc 4 1), (92, x_goto 38)]
def b117_92 : List (Nat × xI) := [(95, x_iinc 3 1), (98, x_goto 4)]
def b117_98 : List (Nat × xI) := [(99, x_iload 2), (100, x_iret)]
def t117 : List (Nat × List (Nat × xI)) := [(0, b117_0), (4, b117_4), (38, b117_38), (86, b117_86), (92, b117_92), (98, b117_98)]
def b118_0 : List (Nat × xI) := [(2, x_iconst 12), (3, x_iload 0), (4, x_bin (fun x y => x * y)), (5, x_iconst 4), (6, x_iload 1), (7, x_bin (fun x y => x * y)), (8, x_bin (fun x y => x + y)), (9, x_iload 2), (10, x_bin (fun x y => x + y)), (11, x_iret)]
def t118 : List (Nat × List (Nat × xI)) := [(0, b118_0)]
def b119_0 : List (Nat × xI) := [(1, x_iconst 0), (3, x_istore 4), (3, x_goto 3)]
def b119_3 : List (Nat × xI) := [(5, x_iload 4), (6, x_iconst 4), (9, x_icmp (fun x y => y ≤ x) 158), (10, x_aload 0), (13, x_gfr 8 25 43), (14, x_iload 1), (15, x_ald 43), (17, x_iload 4), (18, x_bin (fun x y => x + y)), (19, x_iconst 4), (20, x_irem), (22, x_istore 5), (23, x_iload 2), (26, x_if (fun x => 0 ≤ x) 30), (27, x_iconst (-1)), (30, x_goto 40)]
def b119_30 : List (Nat × xI) := [(31, x_iload 1), (32, x_iload 2), (34, x_iconst 8), (35, x_idiv), (37, x_iload 5), (40, x_call 118 3 0 0 0 0), (40, x_goto 40)]
def b119_40 : List (Nat × xI) := [(42, x_istore 6), (44, x_iload 6), (47, x_if (fun x => x < 0) 60), (48, x_aload 0), (51, x_gfr 8 17 36), (53, x_iload 6), (54, x_ald 36), (57, x_if (fun x => x < 0) 60), (60, x_goto 152)]
def b119_60 : List (Nat × xI) := [(61, x_iload 3), (64, x_if (fun x => 0 ≤ x) 72), (65, x_aload 0), (67, x_iload 5), (70, x_pfi 8 47), (71, x_iconst 1), (72, x_zret)]
def b119_72 : List (Nat × xI) := [(73, x_iconst 0), (75, x_istore 7), (75, x_goto 75)]
def b119_75 : List (Nat × xI) := [(77, x_iload 7), (78, x_iconst 4), (81, x_icmp (fun x y => y ≤ x) 152), (82, x_iload 2), (85, x_if (fun x => 0 ≤ x) 90), (87, x_iload 5), (90, x_goto 101)]
def b119_90 : List (Nat × xI) := [(91, x_aload 0), (94, x_gfr 8 25 43), (95, x_iload 1), (96, x_ald 43), (98, x_iload 7), (99, x_bin (fun x y => x + y)), (100, x_iconst 4), (101, x_irem), (101, x_goto 101)]
def b119_101 : List (Nat × xI) := [(103, x_istore 8), (104, x_iload 1), (105, x_iload 3), (107, x_iconst 8), (108, x_idiv), (110, x_iload 8), (113, x_call 118 3 0 0 0 0), (115, x_istore 9), (116, x_aload 0), (119, x_gfr 8 17 36), (121, x_iload 9), (122, x_ald 36), (125, x_if (fun x => 0 ≤ x) 146), (127, x_iload 9), (129, x_iload 6), (132, x_icmp (fun x y => x = y) 146), (133, x_aload 0), (135, x_iload 5), (138, x_pfi 8 47), (139, x_aload 0), (141, x_iload 8), (144, x_pfi 8 48), (145, x_iconst 1), (146, x_zret)]
def b119_146 : List (Nat × xI) := [(149, x_iinc 7 1), (152, x_goto 75)]
def b119_152 : List (Nat × xI) := [(155, x_iinc 4 1), (158, x_goto 3)]
def b119_158 : List (Nat × xI) := [(159, x_iconst 0), (160, x_zret)]
def t119 : List (Nat × List (Nat × xI)) := [(0, b119_0), (3, b119_3), (30, b119_30), (40, b119_40), (60, b119_60), (72, b119_72), (75, b119_75), (90, b119_90), (101, b119_101), (146, b119_146), (152, b119_152), (158, b119_158)]
def b120_0 : List (Nat × xI) := [(1, x_iconst (-1)), (2, x_istore 2), (3, x_iconst 4), (4, x_istore 3), (4, x_goto 4)]
def b120_4 : List (Nat × xI) := [(5, x_iload 3), (8, x_if (fun x => x < 0) 33), (9, x_aload 0), (12, x_gfr 8 18 37), (13, x_iconst 5), (14, x_iload 1), (15, x_bin (fun x y => x * y)), (16, x_iload 3), (17, x_bin (fun x y => x + y)), (18, x_ald 37), (21, x_if (fun x => 0 ≤ x) 25), (22, x_iload 3), (25, x_goto 26)]
def b120_25 : List (Nat × xI) := [(26, x_iload 2), (26, x_goto 26)]
def b120_26 : List (Nat × xI) := [(27, x_istore 2), (30, x_iinc 3 (-1)), (33, x_goto 4)]
def b120_33 : List (Nat × xI) := [(34, x_iload 2), (35, x_iret)]
def t120 : List (Nat × List (Nat × xI)) := [(0, b120_0), (4, b120_4), (25, b120_25), (26, b120_26), (33, b120_33)]
def b121_0 : List (Nat × xI) := [(1, x_iload 3), (3, x_iconst 23), (6, x_icmp (fun x y => x ≤ y) 13), (7, x_aload 0), (8, x_iload 1), (9, x_iconst 5), (12, x_callv 8 105 3 0 0 0 0), (13, x_ret)]
def b121_13 : List (Nat × xI) := [(14, x_aload 0), (15, x_iload 2), (16, x_iload 3), (19, x_callv 8 117 3 0 0 0 0), (21, x_istore 4), (22, x_aload 0), (24, x_iconst 24), (25, x_iload 2), (26, x_bin (fun x y => x * y)), (28, x_iload 4), (29, x_bin (fun x y => x + y)), (32, x_callv 8 116 2 0 0 0 0), (35, x_if (fun x => ¬ x = 0) 42), (36, x_aload 0), (37, x_iload 1), (38, x_iconst 3), (41, x_callv 8 105 3 0 0 0 0), (42, x_ret)]
def b121_42 : List (Nat × xI) := [(43, x_iload 1), (45, x_iconst 24), (46, x_idiv), (47, x_iload 2), (50, x_icmp (fun x y => ¬ x = y) 54), (51, x_iconst 1), (54, x_goto 55)]
def b121_54 : List (Nat × xI) := [(55, x_iconst 0), (55, x_goto 55)]
def b121_55 : List (Nat × xI) := [(57, x_istore 5), (59, x_iload 5), (62, x_if (fun x => x = 0) 70), (63, x_aload 0), (64, x_iload 2), (67, x_callv 8 120 2 0 0 0 0), (70, x_goto 71)]
def b121_70 : List (Nat × xI) := [(71, x_iconst 0), (71, x_goto 71)]
def b121_71 : List (Nat × xI) := [(73, x_istore 6), (75, x_iload 6), (78, x_if (fun x => x < 0) 101), (79, x_aload 0), (80, x_iload 2), (82, x_iload 5), (85, x_if (fun x => x = 0) 92), (86, x_iload 1), (88, x_iconst 24), (89, x_irem), (92, x_goto 93)]
def b121_92 : List (Nat × xI) := [(93, x_iconst (-1)), (93, x_goto 93)]
def b121_93 : List (Nat × xI) := [(95, x_iload 4), (98, x_callv 8 119 4 0 0 0 0), (101, x_if (fun x => ¬ x = 0) 108), (101, x_goto 101)]
def b121_101 : List (Nat × xI) := [(102, x_aload 0), (103, x_iload 1), (104, x_iconst 4), (107, x_callv 8 105 3 0 0 0 0), (108, x_ret)]
def b121_108 : List (Nat × xI) := [(110, x_iload 5), (113, x_if (fun x => x = 0) 138), (114, x_aload 0), (115, x_iload 1), (118, x_iconst 1000), (119, x_iload 2), (120, x_bin (fun x y => x * y)), (121, x_iconst 4), (122, x_iload 1), (124, x_iconst 24), (125, x_irem), (127, x_iconst 8), (128, x_idiv), (129, x_bin (fun x y => x * y)), (130, x_bin (fun x y => x + y)), (131, x_aload 0), (134, x_gfi 8 47), (135, x_bin (fun x y => x + y)), (138, x_callv 8 100 3 0 0 0 0), (138, x_goto 138)]
def b121_138 : List (Nat × xI) := [(140, x_iload 5), (143, x_if (fun x => x = 0) 159), (144, x_aload 0), (145, x_iload 1), (148, x_iconst 1000), (149, x_iload 2), (150, x_bin (fun x y => x * y)), (152, x_iconst 20), (153, x_bin (fun x y => x + y)), (155, x_iload 6), (156, x_bin (fun x y => x + y)), (159, x_callv 8 100 3 0 0 0 0), (159, x_goto 159)]
def b121_159 : List (Nat × xI) := [(160, x_aload 0), (161, x_iload 1), (164, x_iconst 1000), (165, x_iload 2), (166, x_bin (fun x y => x * y)), (167, x_iconst 4), (169, x_iload 4), (171, x_iconst 8), (172, x_idiv), (173, x_bin (fun x y => x * y)), (174, x_bin (fun x y => x + y)), (175, x_aload 0), (178, x_gfi 8 48), (179, x_bin (fun x y => x + y)), (182, x_callv 8 100 3 0 0 0 0), (183, x_aload 0), (186, x_gfr 8 25 43), (187, x_iload 2), (189, x_iload 5), (192, x_if (fun x => x = 0) 199), (193, x_aload 0), (196, x_gfi 8 47), (199, x_goto 203)]
def b121_199 : List (Nat × xI) := [(200, x_aload 0), (203, x_gfi 8 48), (203, x_goto 203)]
def b121_203 : List (Nat × xI) := [(204, x_iconst 1), (205, x_bin (fun x y => x + y)), (206, x_iconst 4), (207, x_irem), (208, x_ast 43), (209, x_aload 0), (210, x_iload 1), (213, x_iconst 1000), (214, x_iload 2), (215, x_bin (fun x y => x * y)), (217, x_iconst 30), (218, x_bin (fun x y => x + y)), (219, x_aload 0), (222, x_gfr 8 33 51), (223, x_iload 1), (224, x_ald 51), (225, x_bin (fun x y => x + y)), (228, x_callv 8 101 3 0 0 0 0), (229, x_aload 0), (232, x_gfr 8 29 47), (233, x_iload 1), (234, x_iconst 4), (235, x_ast 47), (236, x_aload 0), (239, x_gfr 8 39 57), (240, x_iload 1), (242, x_iconst 24), (243, x_iload 2), (244, x_bin (fun x y => x * y)), (246, x_iload 4), (247, x_bin (fun x y => x + y)), (248, x_ast 57), (249, x_aload 0), (252, x_gfr 8 9 28), (253, x_aload 0), (256, x_gfr 8 39 57), (257, x_iload 1), (258, x_ald 57), (259, x_iload 1), (260, x_ast 28), (261, x_ret)]
def t121 : List (Nat × List (Nat × xI)) := [(0, b121_0), (13, b121_13), (42, b121_42), (54, b121_54), (55, b121_55), (70, b121_70), (71, b121_71), (92, b121_92), (93, b121_93), (101, b121_101), (108, b121_108), (138, b121_138), (159, b121_159), (199, b121_199), (203, b121_203)]
def b122_0 : List (Nat × xI) := [(1, x_iconst (-1)), (2, x_istore 3), (3, x_aload 0), (6, x_gfi 8 20), (7, x_iconst 1), (8, x_bin (fun x y => x - y)), (10, x_istore 4), (10, x_goto 10)]
def b122_10 : List (Nat × xI) := [(12, x_iload 4), (15, x_if (fun x => x < 0) 104), (16, x_aload 0), (19, x_gfr 8 21 39), (21, x_iload 4), (22, x_ald 39), (23, x_iload 1), (26, x_icmp (fun x y => ¬ x = y) 37), (27, x_aload 0), (30, x_gfr 8 22 40), (32, x_iload 4), (33, x_ald 40), (34, x_iload 2), (37, x_icmp (fun x y => x = y) 59), (37, x_goto 37)]
def b122_37 : List (Nat × xI) := [(38, x_aload 0), (41, x_gfr 8 21 39), (43, x_iload 4), (44, x_ald 39), (45, x_iload 2), (48, x_icmp (fun x y => ¬ x = y) 63), (49, x_aload 0), (52, x_gfr 8 22 40), (54, x_iload 4), (55, x_ald 40), (56, x_iload 1), (59, x_icmp (fun x y => ¬ x = y) 63), (59, x_goto 59)]
def b122_59 : List (Nat × xI) := [(60, x_iconst 1), (63, x_goto 64)]
def b122_63 : List (Nat × xI) := [(64, x_iconst 0), (64, x_goto 64)]
def b122_64 : List (Nat × xI) := [(66, x_istore 5), (68, x_iload 5), (71, x_if (fun x => x = 0) 96), (72, x_aload 0), (75, x_gfr 8 23 41), (77, x_iload 4), (78, x_ald 41), (81, x_if (fun x => 0 ≤ x) 96), (82, x_aload 0), (85, x_gfr 8 24 42), (87, x_iload 4), (88, x_ald 42), (91, x_if (fun x => ¬ x = 0) 96), (93, x_iload 4), (96, x_goto 97)]
def b122_96 : List (Nat × xI) := [(97, x_iload 3), (97, x_goto 97)]
def b122_97 : List (Nat × xI) := [(98, x_istore 3), (101, x_iinc 4 (-1)), (104, x_goto 10)]
def b122_104 : List (Nat × xI) := [(105, x_iload 3), (106, x_iret)]
def t122 : List (Nat × List (Nat × xI)) := [(0, b122_0), (10, b122_10), (37, b122_37), (59, b122_59), (63, b122_63), (64, b122_64), (96, b122_96), (97, b122_97), (104, b122_104)]
def b123_0 : List (Nat × xI) := [(1, x_iload 1), (3, x_iconst 24), (4, x_idiv), (5, x_iload 2), (8, x_icmp (fun x y => ¬ x = y) 12), (9, x_iconst 1), (12, x_goto 13)]
def b123_12 : List (Nat × xI) := [(13, x_iconst 0), (13, x_goto 13)]
def b123_13 : List (Nat × xI) := [(15, x_istore 4), (16, x_iconst 0), (18, x_istore 5), (18, x_goto 18)]
def b123_18 : List (Nat × xI) := [(20, x_iload 5), (21, x_aload 0), (24, x_gfr 8 14 33), (25, x_iload 3), (26, x_ald 33), (29, x_icmp (fun x y => y ≤ x) 257), (30, x_aload 0), (33, x_gfr 8 16 35), (34, x_iconst 3), (35, x_iload 3), (36, x_bin (fun x y => x * y)), (38, x_iload 5), (39, x_bin (fun x y => x + y)), (40, x_ald 35), (42, x_istore 6), (43, x_aload 0), (46, x_gfr 8 37 55), (47, x_iload 1), (48, x_ald 55), (50, x_iload 6), (51, x_bin (fun x y => x >>> (y &&& 31))), (52, x_iconst 1), (53, x_bin (fun x y => x &&& y)), (54, x_iconst 1), (57, x_icmp (fun x y => ¬ x = y) 60), (60, x_goto 251)]
def b123_60 : List (Nat × xI) := [(61, x_aload 0), (62, x_iload 2), (64, x_iload 6), (67, x_callv 8 122 3 0 0 0 0), (69, x_istore 7), (71, x_iload 7), (74, x_if (fun x => 0 ≤ x) 92), (75, x_aload 0), (78, x_gfr 8 26 44), (79, x_iconst 3), (80, x_iload 2), (81, x_bin (fun x y => x * y)), (83, x_iload 6), (84, x_bin (fun x y => x + y)), (85, x_dup2), (86, x_ald 44), (87, x_iconst 1), (88, x_bin (fun x y => x + y)), (89, x_ast 44), (92, x_goto 251)]
def b123_92 : List (Nat × xI) := [(93, x_aload 0), (95, x_iload 6), (98, x_callv 8 107 2 0 0 0 0), (100, x_istore 8), (102, x_iload 8), (105, x_if (fun x => x < 0) 251), (107, x_iload 4), (110, x_if (fun x => x = 0) 126), (111, x_aload 0), (112, x_iload 2), (113, x_iload 1), (115, x_iconst 24), (116, x_irem), (117, x_iconst (-1)), (120, x_callv 8 119 4 0 0 0 0), (123, x_if (fun x => ¬ x = 0) 126), (126, x_goto 251)]
def b123_126 : List (Nat × xI) := [(128, x_iload 4), (131, x_if (fun x => x = 0) 170), (132, x_aload 0), (133, x_iload 1), (136, x_iconst 1000), (137, x_iload 2), (138, x_bin (fun x y => x * y)), (139, x_iconst 4), (140, x_iload 1), (142, x_iconst 24), (143, x_irem), (145, x_iconst 8), (146, x_idiv), (147, x_bin (fun x y => x * y)), (148, x_bin (fun x y => x + y)), (149, x_aload 0), (152, x_gfi 8 47), (153, x_bin (fun x y => x + y)), (156, x_callv 8 100 3 0 0 0 0), (157, x_aload 0), (160, x_gfr 8 25 43), (161, x_iload 2), (162, x_aload 0), (165, x_gfi 8 47), (166, x_iconst 1), (167, x_bin (fun x y => x + y)), (168, x_iconst 4), (169, x_irem), (170, x_ast 43), (170, x_goto 170)]
def b123_170 : List (Nat × xI) := [(171, x_aload 0), (172, x_iload 1), (175, x_iconst 5000), (177, x_iload 7), (178, x_bin (fun x y => x + y)), (181, x_callv 8 100 3 0 0 0 0), (182, x_aload 0), (183, x_iload 1), (186, x_iconst 1000), (188, x_iload 6), (189, x_bin (fun x y => x * y)), (191, x_iconst 30), (192, x_bin (fun x y => x + y)), (194, x_iload 8), (195, x_bin (fun x y => x + y)), (198, x_callv 8 100 3 0 0 0 0), (199, x_aload 0), (202, x_gfr 8 37 55), (203, x_iload 1), (204, x_aload 0), (207, x_gfr 8 37 55), (208, x_iload 1), (209, x_ald 55), (210, x_iconst 1), (212, x_iload 6), (213, x_bin (fun x y => x <<< (y &&& 31))), (214, x_bin (fun x y => x ||| y)), (215, x_ast 55), (216, x_aload 0), (219, x_gfr 8 29 47), (220, x_iload 1), (221, x_iconst 3), (222, x_ast 47), (223, x_aload 0), (226, x_gfr 8 34 52), (227, x_iload 1), (228, x_aload 0), (231, x_gfr 8 30 48), (232, x_iload 1), (233, x_ald 48), (234, x_ast 52), (235, x_aload 0), (238, x_gfr 8 35 53), (239, x_iload 1), (241, x_iload 6), (242, x_ast 53), (243, x_aload 0), (246, x_gfr 8 36 54), (247, x_iload 1), (249, x_iload 8), (250, x_ast 54), (251, x_ret)]
def b123_251 : List (Nat × xI) := [(254, x_iinc 5 1), (257, x_goto 18)]
def b123_257 : List (Nat × xI) := [(258, x_aload 0), (259, x_iload 1), (260, x_iconst 4), (263, x_callv 8 105 3 0 0 0 0), (264, x_ret)]
def t123 : List (Nat × List (Nat × xI)) := [(0, b123_0), (12, b123_12), (13, b123_13), (18, b123_18), (60, b123_60), (92, b123_92), (126, b123_126), (170, b123_170), (251, b123_251), (257, b123_257)]
def b124_0 : List (Nat × xI) := [(1, x_aload 0), (4, x_gfr 8 28 46), (6, x_iconst 72), (7, x_iload 1), (8, x_bin (fun x y => x * y)), (9, x_ald 46), (10, x_istore 2), (11, x_aload 0), (12, x_iload 2), (15, x_callv 8 102 2 0 0 0 0), (16, x_aload 0), (17, x_iload 2), (18, x_iload 1), (21, x_callv 8 114 3 0 0 0 0), (22, x_istore 3), (23, x_iload 3), (26, x_if (fun x => x < 0) 46), (27, x_aload 0), (30, x_gfr 8 30 48), (31, x_iload 2), (32, x_ald 48), (33, x_aload 0), (36, x_gfr 8 11 30), (37, x_iload 3), (38, x_ald 30), (41, x_call 95 1 0 0 0 0), (42, x_iconst 2), (43, x_bin (fun x y => x + y)), (46, x_icmp (fun x y => y ≤ x) 55), (46, x_goto 46)]
def b124_46 : List (Nat × xI) := [(47, x_aload 0), (48, x_iload 2), (49, x_iconst 5), (52, x_callv 8 105 3 0 0 0 0), (55, x_goto 116)]
def b124_55 : List (Nat × xI) := [(56, x_aload 0), (59, x_gfr 8 15 34), (60, x_iload 3), (61, x_ald 34), (64, x_if (fun x => x = 0) 109), (66, x_iconst 8), (67, x_iload 2), (68, x_bin (fun x y => x * y)), (69, x_aload 0), (72, x_gfr 8 11 30), (73, x_iload 3), (74, x_ald 30), (77, x_call 95 1 0 0 0 0), (78, x_bin (fun x y => x + y)), (80, x_istore 4), (81, x_aload 0), (82, x_iload 2), (83, x_iload 1), (85, x_iconst 10), (86, x_aload 0), (89, x_gfr 8 31 49), (91, x_iload 4), (92, x_ald 49), (93, x_bin (fun x y => x * y)), (94, x_aload 0), (97, x_gfr 8 31 49), (99, x_iload 4), (100, x_iconst 1), (101, x_bin (fun x y => x + y)), (102, x_ald 49), (103, x_bin (fun x y => x + y)), (106, x_callv 8 121 4 0 0 0 0), (109, x_goto 116)]
def b124_109 : List (Nat × xI) := [(110, x_aload 0), (111, x_iload 2), (112, x_iload 1), (113, x_iload 3), (116, x_callv 8 123 4 0 0 0 0), (116, x_goto 116)]
def b124_116 : List (Nat × xI) := [(117, x_ret)]
def t124 : List (Nat × List (Nat × xI)) := [(0, b124_0), (46, b124_46), (55, b124_55), (109, b124_109), (116, b124_116)]
def b125_0 : List (Nat × xI) := [(1, x_aload 0), (4, x_gfr 8 19 38), (5, x_iconst 3), (6, x_iload 1), (7, x_bin (fun x y => x * y)), (8, x_iload 2), (9, x_bin (fun x y => x + y)), (10, x_ald 38), (11, x_istore 3), (12, x_iload 3), (15, x_if (fun x => x < 0) 45), (16, x_aload 0), (19, x_gfr 8 29 47), (20, x_iload 3), (21, x_ald 47), (22, x_iconst 3), (25, x_icmp (fun x y => ¬ x = y) 45), (26, x_aload 0), (29, x_gfr 8 32 50), (30, x_iload 3), (31, x_ald 50), (32, x_iload 1), (35, x_icmp (fun x y => ¬ x = y) 45), (36, x_aload 0), (39, x_gfr 8 33 51), (40, x_iload 3), (41, x_ald 51), (42, x_iload 2), (45, x_icmp (fun x y => x = y) 46), (45, x_goto 45)]
def b125_45 : List (Nat × xI) := [(46, x_ret)]
def b125_46 : List (Nat × xI) := [(47, x_aload 0), (50, x_gfr 8 34 52), (51, x_iload 3), (52, x_dup2), (53, x_ald 52), (54, x_iconst 1), (55, x_bin (fun x y => x - y)), (56, x_ast 52), (57, x_aload 0), (60, x_gfr 8 34 52), (61, x_iload 3), (62, x_ald 52), (65, x_if (fun x => ¬ x = 0) 103), (66, x_aload 0), (67, x_iload 3), (70, x_iconst 1000), (71, x_iload 1), (72, x_bin (fun x y => x * y)), (74, x_iconst 30), (75, x_bin (fun x y => x + y)), (76, x_iload 2), (77, x_bin (fun x y => x + y)), (80, x_callv 8 101 3 0 0 0 0), (81, x_aload 0), (84, x_gfr 8 33 51), (85, x_iload 3), (86, x_aload 0), (89, x_gfr 8 36 54), (90, x_iload 3), (91, x_ald 54), (92, x_ast 51), (93, x_aload 0), (94, x_iload 3), (95, x_aload 0), (98, x_gfr 8 35 53), (99, x_iload 3), (100, x_ald 53), (103, x_callv 8 103 3 0 0 0 0), (103, x_goto 103)]
def b125_103 : List (Nat × xI) := [(104, x_ret)]
def t125 : List (Nat × List (Nat × xI)) := [(0, b125_0), (45, b125_45), (46, b125_46), (103, b125_103)]
def b126_0 : List (Nat × xI) := [(1, x_aload 0), (4, x_gfr 8 29 47), (5, x_iload 1), (6, x_ald 47), (7, x_iconst 1), (10, x_icmp (fun x y => ¬ x = y) 40), (11, x_aload 0), (14, x_gfr 8 38 56), (15, x_iload 1), (16, x_dup2), (17, x_ald 56), (18, x_iconst 1), (19, x_bin (fun x y => x + y)), (20, x_ast 56), (21, x_aload 0), (24, x_gfr 8 38 56), (25, x_iload 1), (26, x_ald 56), (28, x_iconst 20), (31, x_icmp (fun x y => ¬ x = y) 170), (32, x_aload 0), (33, x_iload 1), (34, x_iconst 3), (37, x_callv 8 105 3 0 0 0 0), (40, x_goto 170)]
def b126_40 : List (Nat × xI) := [(41, x_aload 0), (44, x_gfr 8 29 47), (45, x_iload 1), (46, x_ald 47), (47, x_iconst 5), (50, x_icmp (fun x y => ¬ x = y) 170), (51, x_aload 0), (54, x_gfr 8 3 22), (55, x_aload 0), (58, x_gfr 8 39 57), (59, x_iload 1), (60, x_ald 57), (61, x_ald 22), (64, x_if (fun x => x = 0) 134), (65, x_aload 0), (68, x_gfr 8 43 61), (69, x_iload 1), (70, x_dup2), (71, x_ald 61), (72, x_iconst 1), (73, x_bin (fun x y => x + y)), (74, x_ast 61), (75, x_aload 0), (78, x_gfr 8 13 32), (79, x_aload 0), (82, x_gfr 8 40 58), (83, x_iload 1), (84, x_ald 58), (85, x_ald 32), (86, x_istore 2), (87, x_iload 2), (90, x_if (fun x => x ≤ 0) 131), (91, x_aload 0), (94, x_gfr 8 43 61), (95, x_iload 1), (96, x_ald 61), (97, x_iload 2), (100, x_icmp (fun x y => x < y) 131), (101, x_aload 0), (104, x_gfr 8 43 61), (105, x_iload 1), (106, x_iconst 0), (107, x_ast 61), (108, x_aload 0), (111, x_gfr 8 6 25), (112, x_iload 1), (113, x_aload 0), (116, x_gfr 8 6 25), (117, x_iload 1), (118, x_ald 25), (119, x_aload 0), (122, x_gfr 8 12 31), (123, x_aload 0), (126, x_gfr 8 40 58), (127, x_iload 1), (128, x_ald 58), (129, x_ald 31), (130, x_bin (fun x y => x + y)), (131, x_ast 25), (131, x_goto 131)]
def b126_131 : List (Nat × xI) := [(134, x_goto 170)]
def b126_134 : List (Nat × xI) := [(135, x_aload 0), (138, x_gfr 8 42 60), (139, x_iload 1), (140, x_ald 60), (143, x_if (fun x => ¬ x = 0) 170), (144, x_aload 0), (147, x_gfr 8 44 62), (148, x_iload 1), (149, x_dup2), (150, x_ald 62), (151, x_iconst 1), (152, x_bin (fun x y => x + y)), (153, x_ast 62), (154, x_aload 0), (157, x_gfr 8 44 62), (158, x_iload 1), (159, x_ald 62), (161, x_iconst 12), (164, x_icmp (fun x y => ¬ x = y) 170), (165, x_aload 0), (166, x_iload 1), (167, x_iconst 3), (170, x_callv 8 106 3 0 0 0 0), (170, x_goto 170)]
def b126_170 : List (Nat × xI) := [(171, x_ret)]
def t126 : List (Nat × List (Nat × xI)) := [(0, b126_0), (40, b126_40), (131, b126_131), (134, b126_134), (170, b126_170)]
def b127_0 : List (Nat × xI) := [(1, x_aload 0), (2, x_iload 1), (5, x_callv 8 107 2 0 0 0 0), (8, x_if (fun x => x < 0) 82), (9, x_aload 0), (10, x_iload 1), (13, x_callv 8 108 2 0 0 0 0), (16, x_if (fun x => x = 0) 82), (17, x_iconst (-1)), (18, x_istore 2), (20, x_iconst 24), (21, x_iload 1), (22, x_bin (fun x y => x * y)), (23, x_istore 3), (23, x_goto 23)]
def b127_23 : List (Nat × xI) := [(24, x_iload 3), (26, x_iconst 24), (27, x_iload 1), (28, x_bin (fun x y => x * y)), (30, x_iconst 24), (31, x_bin (fun x y => x + y)), (34, x_icmp (fun x y => y ≤ x) 74), (35, x_aload 0), (38, x_gfr 8 5 24), (39, x_iload 3), (40, x_ald 24), (43, x_if (fun x => x < 0) 66), (44, x_iload 2), (47, x_if (fun x => x < 0) 62), (48, x_aload 0), (51, x_gfr 8 5 24), (52, x_iload 3), (53, x_ald 24), (54, x_aload 0), (57, x_gfr 8 5 24), (58, x_iload 2), (59, x_ald 24), (62, x_icmp (fun x y => y ≤ x) 66), (62, x_goto 62)]
def b127_62 : List (Nat × xI) := [(63, x_iload 3), (66, x_goto 67)]
def b127_66 : List (Nat × xI) := [(67, x_iload 2), (67, x_goto 67)]
def b127_67 : List (Nat × xI) := [(68, x_istore 2), (71, x_iinc 3 1), (74, x_goto 23)]
def b127_74 : List (Nat × xI) := [(75, x_aload 0), (76, x_iload 2), (79, x_callv 8 109 2 0 0 0 0), (82, x_goto 0)]
def b127_82 : List (Nat × xI) := [(83, x_ret)]
def t127 : List (Nat × List (Nat × xI)) := [(0, b127_0), (23, b127_23), (62, b127_62), (66, b127_66), (67, b127_67), (74, b127_74), (82, b127_82)]
def b128_0 : List (Nat × xI) := [(1, x_aload 0), (2, x_dup), (5, x_gfi 8 1), (6, x_iconst 1), (7, x_bin (fun x y => x + y)), (10, x_pfi 8 1), (11, x_iconst 0), (12, x_istore 1), (12, x_goto 12)]
def b128_12 : List (Nat × xI) := [(13, x_iload 1), (14, x_iconst 3), (17, x_icmp (fun x y => y ≤ x) 58), (18, x_aload 0), (21, x_gfr 8 27 45), (22, x_iload 1), (23, x_ald 45), (26, x_if (fun x => x ≤ 0) 52), (27, x_aload 0), (30, x_gfr 8 41 59), (31, x_aload 0), (34, x_gfr 8 28 46), (36, x_iconst 72), (37, x_iload 1), (38, x_bin (fun x y => x * y)), (39, x_ald 46), (40, x_ald 59), (41, x_aload 0), (44, x_gfi 8 1), (47, x_icmp (fun x y => y ≤ x) 52), (48, x_aload 0), (49, x_iload 1), (52, x_callv 8 124 2 0 0 0 0), (52, x_goto 52)]
def b128_52 : List (Nat × xI) := [(55, x_iinc 1 1), (58, x_goto 12)]
def b128_58 : List (Nat × xI) := [(59, x_iconst 0), (60, x_istore 1), (60, x_goto 60)]
def b128_60 : List (Nat × xI) := [(61, x_iload 1), (63, x_iconst 9), (66, x_icmp (fun x y => y ≤ x) 82), (67, x_aload 0), (68, x_iload 1), (69, x_iconst 3), (70, x_idiv), (71, x_iload 1), (72, x_iconst 3), (73, x_irem), (76, x_callv 8 125 3 0 0 0 0), (79, x_iinc 1 1), (82, x_goto 60)]
def b128_82 : List (Nat × xI) := [(83, x_iconst 0), (84, x_istore 1), (84, x_goto 84)]
def b128_84 : List (Nat × xI) := [(85, x_iload 1), (87, x_iconst 72), (90, x_icmp (fun x y => y ≤ x) 101), (91, x_aload 0), (92, x_iload 1), (95, x_callv 8 126 2 0 0 0 0), (98, x_iinc 1 1), (101, x_goto 84)]
def b128_101 : List (Nat × xI) := [(102, x_iconst 0), (103, x_istore 1), (103, x_goto 103)]
def b128_103 : List (Nat × xI) := [(104, x_iload 1), (105, x_iconst 3), (108, x_icmp (fun x y => y ≤ x) 119), (109, x_aload 0), (110, x_iload 1), (113, x_callv 8 127 2 0 0 0 0), (116, x_iinc 1 1), (119, x_goto 103)]
def b128_119 : List (Nat × xI) := [(120, x_ret)]
def t128 : List (Nat × List (Nat × xI)) := [(0, b128_0), (12, b128_12), (52, b128_52), (58, b128_58), (60, b128_60), (82, b128_82), (84, b128_84), (101, b128_101), (103, b128_103), (119, b128_119)]
def b129_0 : List (Nat × xI) := [(1, x_aload 0), (2, x_iload 1), (3, x_iconst 1), (5, x_iconst 100), (8, x_call 92 3 0 0 0 0), (11, x_if (fun x => x = 0) 15), (12, x_iconst 0), (15, x_goto 16)]
def b129_15 : List (Nat × xI) := [(16, x_iconst 1), (16, x_goto 16)]
def b129_16 : List (Nat × xI) := [(19, x_callv 8 91 2 0 0 0 0), (22, x_if (fun x => x = 0) 23), (23, x_ret)]
def b129_23 : List (Nat × xI) := [(24, x_iconst 0), (25, x_istore 2), (25, x_goto 25)]
def b129_25 : List (Nat × xI) := [(26, x_iload 2), (27, x_iload 1), (30, x_icmp (fun x y => y ≤ x) 40), (31, x_aload 0), (34, x_callv 8 128 1 0 0 0 0), (37, x_iinc 2 1), (40, x_goto 25)]
def b129_40 : List (Nat × xI) := [(41, x_ret)]
def t129 : List (Nat × List (Nat × xI)) := [(0, b129_0), (15, b129_15), (16, b129_16), (23, b129_23), (25, b129_25), (40, b129_40)]
def b130_0 : List (Nat × xI) := [(1, x_aload 0), (2, x_iload 1), (3, x_iconst 0), (4, x_aload 0), (7, x_gfi 8 20), (8, x_iconst 1), (9, x_bin (fun x y => x - y)), (12, x_call 92 3 0 0 0 0), (15, x_if (fun x => x = 0) 19), (16, x_iconst 0), (19, x_goto 20)]
def b130_19 : List (Nat × xI) := [(20, x_iconst 1), (20, x_goto 20)]
def b130_20 : List (Nat × xI) := [(23, x_callv 8 91 2 0 0 0 0), (26, x_if (fun x => x = 0) 28), (27, x_iconst 0), (28, x_zret)]
def b130_28 : List (Nat × xI) := [(29, x_aload 0), (32, x_gfr 8 24 42), (33, x_iload 1), (34, x_ald 42), (35, x_istore 3), (36, x_aload 0), (39, x_gfr 8 24 42), (40, x_iload 1), (41, x_iload 2), (42, x_zst 42), (43, x_iload 2), (46, x_if (fun x => x = 0) 66), (47, x_aload 0), (50, x_gfr 8 23 41), (51, x_iload 1), (52, x_ald 41), (55, x_if (fun x => x < 0) 66), (56, x_aload 0), (57, x_aload 0), (60, x_gfr 8 23 41), (61, x_iload 1), (62, x_ald 41), (63, x_iconst 4), (66, x_callv 8 106 3 0 0 0 0), (66, x_goto 66)]
def b130_66 : List (Nat × xI) := [(67, x_iload 3), (68, x_zret)]
def t130 : List (Nat × List (Nat × xI)) := [(0, b130_0), (19, b130_19), (20, b130_20), (28, b130_28), (66, b130_66)]
def b131_0 : List (Nat × xI) := [(1, x_aload 0), (2, x_iload 1), (3, x_iload 2), (6, x_call 93 2 0 0 0 0), (9, x_if (fun x => x = 0) 13), (10, x_iconst 0), (13, x_goto 14)]
def b131_13 : List (Nat × xI) := [(14, x_iconst 1), (14, x_goto 14)]
def b131_14 : List (Nat × xI) := [(17, x_callv 8 91 2 0 0 0 0), (20, x_if (fun x => x = 0) 22), (21, x_iconst 0), (22, x_zret)]
def b131_22 : List (Nat × xI) := [(23, x_aload 0), (26, x_gfr 8 9 28), (28, x_iconst 24), (29, x_iload 1), (30, x_bin (fun x y => x * y)), (31, x_iload 2), (32, x_bin (fun x y => x + y)), (33, x_ald 28), (35, x_istore 4), (37, x_iload 4), (40, x_if (fun x => x < 0) 51), (41, x_aload 0), (44, x_gfr 8 29 47), (46, x_iload 4), (47, x_ald 47), (48, x_iconst 5), (51, x_icmp (fun x y => x = y) 53), (51, x_goto 51)]
def b131_51 : List (Nat × xI) := [(52, x_iconst 0), (53, x_zret)]
def b131_53 : List (Nat × xI) := [(54, x_aload 0), (57, x_gfr 8 42 60), (59, x_iload 4), (60, x_iload 3), (61, x_zst 60), (62, x_iload 3), (65, x_if (fun x => ¬ x = 0) 82), (66, x_aload 0), (69, x_gfr 8 3 22), (71, x_iload 4), (72, x_ald 22), (75, x_if (fun x => ¬ x = 0) 82), (76, x_aload 0), (78, x_iload 4), (79, x_iconst 3), (82, x_callv 8 106 3 0 0 0 0), (82, x_goto 82)]
def b131_82 : List (Nat × xI) := [(83, x_iconst 1), (84, x_zret)]
def t131 : List (Nat × List (Nat × xI)) := [(0, b131_0), (13, b131_13), (14, b131_14), (22, b131_22), (51, b131_51), (53, b131_53), (82, b131_82)]
def b132_0 : List (Nat × xI) := [(1, x_aload 0), (2, x_iload 1), (3, x_iload 2), (6, x_call 93 2 0 0 0 0), (9, x_if (fun x => x = 0) 13), (10, x_iconst 0), (13, x_goto 14)]
def b132_13 : List (Nat × xI) := [(14, x_iconst 1), (14, x_goto 14)]
def b132_14 : List (Nat × xI) := [(17, x_callv 8 91 2 0 0 0 0), (20, x_if (fun x => x = 0) 22), (21, x_iconst 0), (22, x_iret)]
def b132_22 : List (Nat × xI) := [(24, x_iconst 24), (25, x_iload 1), (26, x_bin (fun x y => x * y)), (27, x_iload 2), (28, x_bin (fun x y => x + y)), (29, x_istore 3), (30, x_aload 0), (33, x_gfr 8 29 47), (34, x_iload 3), (35, x_ald 47), (36, x_iconst 1), (39, x_icmp (fun x y => ¬ x = y) 52), (40, x_aload 0), (43, x_gfr 8 30 48), (44, x_iload 3), (45, x_ald 48), (48, x_if (fun x => ¬ x = 0) 52), (49, x_iconst 1), (52, x_goto 72)]
def b132_52 : List (Nat × xI) := [(53, x_aload 0), (56, x_gfr 8 29 47), (57, x_iload 3), (58, x_ald 47), (59, x_iconst 4), (62, x_icmp (fun x y => ¬ x = y) 66), (63, x_iconst 2), (66, x_goto 72)]
def b132_66 : List (Nat × xI) := [(67, x_aload 0), (70, x_gfr 8 4 23), (71, x_iload 3), (72, x_ald 23), (72, x_goto 72)]
def b132_72 : List (Nat × xI) := [(73, x_iret)]
def t132 : List (Nat × List (Nat × xI)) := [(0, b132_0), (13, b132_13), (14, b132_14), (22, b132_22), (52, b132_52), (66, b132_66), (72, b132_72)]
def b133_0 : List (Nat × xI) := [(1, x_aload 0), (2, x_iload 1), (3, x_iload 2), (6, x_call 93 2 0 0 0 0), (9, x_if (fun x => x = 0) 13), (10, x_iconst 0), (13, x_goto 14)]
def b133_13 : List (Nat × xI) := [(14, x_iconst 1), (14, x_goto 14)]
def b133_14 : List (Nat × xI) := [(17, x_callv 8 91 2 0 0 0 0), (20, x_if (fun x => x = 0) 22), (21, x_iconst 0), (22, x_zret)]
def b133_22 : List (Nat × xI) := [(23, x_aload 0), (26, x_gfr 8 9 28), (28, x_iconst 24), (29, x_iload 1), (30, x_bin (fun x y => x * y)), (31, x_iload 2), (32, x_bin (fun x y => x + y)), (33, x_ald 28), (34, x_istore 3), (35, x_iload 3), (38, x_if (fun x => x < 0) 52), (39, x_aload 0), (42, x_gfr 8 29 47), (43, x_iload 3), (44, x_ald 47), (45, x_iconst 4), (48, x_icmp (fun x y => ¬ x = y) 52), (49, x_iconst 1), (52, x_goto 53)]
def b133_52 : List (Nat × xI) := [(53, x_iconst 0), (53, x_goto 53)]
def b133_53 : List (Nat × xI) := [(54, x_zret)]
def t133 : List (Nat × List (Nat × xI)) := [(0, b133_0), (13, b133_13), (14, b133_14), (22, b133_22), (52, b133_52), (53, b133_53)]
def b134_0 : List (Nat × xI) := [(1, x_aload 0), (2, x_iload 1), (3, x_iload 2), (6, x_call 93 2 0 0 0 0), (9, x_if (fun x => x = 0) 13), (10, x_iconst 0), (13, x_goto 14)]
def b134_13 : List (Nat × xI) := [(14, x_iconst 1), (14, x_goto 14)]
def b134_14 : List (Nat × xI) := [(17, x_callv 8 91 2 0 0 0 0), (20, x_if (fun x => x = 0) 22), (21, x_iconst 0), (22, x_iret)]
def b134_22 : List (Nat × xI) := [(24, x_iconst 24), (25, x_iload 1), (26, x_bin (fun x y => x * y)), (27, x_iload 2), (28, x_bin (fun x y => x + y)), (29, x_istore 3), (30, x_aload 0), (33, x_gfr 8 9 28), (34, x_iload 3), (35, x_ald 28), (38, x_if (fun x => x < 0) 47), (39, x_aload 0), (42, x_gfr 8 9 28), (43, x_iload 3), (44, x_ald 28), (47, x_goto 48)]
def b134_47 : List (Nat × xI) := [(48, x_iload 3), (48, x_goto 48)]
def b134_48 : List (Nat × xI) := [(50, x_istore 4), (51, x_aload 0), (54, x_gfr 8 29 47), (56, x_iload 4), (57, x_ald 47), (58, x_iconst 5), (61, x_icmp (fun x y => ¬ x = y) 90), (62, x_aload 0), (65, x_gfr 8 3 22), (67, x_iload 4), (68, x_ald 22), (71, x_if (fun x => x = 0) 90), (72, x_aload 0), (75, x_gfr 8 3 22), (76, x_aload 0), (79, x_gfr 8 39 57), (81, x_iload 4), (82, x_ald 57), (83, x_ald 22), (86, x_if (fun x => x = 0) 90), (87, x_iconst 1), (90, x_goto 91)]
def b134_90 : List (Nat × xI) := [(91, x_iconst 0), (91, x_goto 91)]
def b134_91 : List (Nat × xI) := [(93, x_istore 5), (95, x_iload 5), (98, x_if (fun x => ¬ x = 0) 102), (99, x_iconst (-1)), (102, x_goto 120)]
def b134_102 : List (Nat × xI) := [(104, x_iload 4), (105, x_iload 3), (108, x_icmp (fun x y => ¬ x = y) 118), (109, x_aload 0), (112, x_gfr 8 39 57), (114, x_iload 4), (115, x_ald 57), (118, x_goto 120)]
def b134_118 : List (Nat × xI) := [(120, x_iload 4), (120, x_goto 120)]
def b134_120 : List (Nat × xI) := [(121, x_iret)]
def t134 : List (Nat × List (Nat × xI)) := [(0, b134_0), (13, b134_13), (14, b134_14), (22, b134_22), (47, b134_47), (48, b134_48), (90, b134_90), (91, b134_91), (102, b134_102), (118, b134_118), (120, b134_120)]
def b135_0 : List (Nat × xI) := [(1, x_aload 0), (2, x_iload 1), (3, x_iload 2), (6, x_call 93 2 0 0 0 0), (9, x_if (fun x => x = 0) 13), (10, x_iconst 0), (13, x_goto 14)]
def b135_13 : List (Nat × xI) := [(14, x_iconst 1), (14, x_goto 14)]
def b135_14 : List (Nat × xI) := [(17, x_callv 8 91 2 0 0 0 0), (20, x_if (fun x => x = 0) 24), (21, x_iconst 0), (24, x_goto 35)]
def b135_24 : List (Nat × xI) := [(25, x_aload 0), (28, x_gfr 8 6 25), (30, x_iconst 24), (31, x_iload 1), (32, x_bin (fun x y => x * y)), (33, x_iload 2), (34, x_bin (fun x y => x + y)), (35, x_ald 25), (35, x_goto 35)]
def b135_35 : List (Nat × xI) := [(36, x_iret)]
def t135 : List (Nat × List (Nat × xI)) := [(0, b135_0), (13, b135_13), (14, b135_14), (24, b135_24), (35, b135_35)]
def b136_0 : List (Nat × xI) := [(1, x_aload 0), (2, x_iload 1), (3, x_iload 2), (6, x_call 93 2 0 0 0 0), (9, x_if (fun x => x = 0) 13), (10, x_iconst 0), (13, x_goto 14)]
def b136_13 : List (Nat × xI) := [(14, x_iconst 1), (14, x_goto 14)]
def b136_14 : List (Nat × xI) := [(17, x_callv 8 91 2 0 0 0 0), (20, x_if (fun x => x = 0) 22), (21, x_iconst 0), (22, x_iret)]
def b136_22 : List (Nat × xI) := [(24, x_iconst 24), (25, x_iload 1), (26, x_bin (fun x y => x * y)), (27, x_iload 2), (28, x_bin (fun x y => x + y)), (30, x_istore 4), (31, x_aload 0), (34, x_gfr 8 29 47), (36, x_iload 4), (37, x_ald 47), (40, x_if (fun x => x = 0) 72), (41, x_iload 3), (42, x_iconst 0), (43, x_aload 0), (46, x_gfr 8 45 63), (48, x_iload 4), (49, x_ald 63), (50, x_iconst 1), (51, x_bin (fun x y => x - y)), (54, x_call 92 3 0 0 0 0), (57, x_if (fun x => x = 0) 72), (58, x_aload 0), (61, x_gfr 8 46 64), (63, x_iconst 16), (65, x_iload 4), (66, x_bin (fun x y => x * y)), (67, x_iload 3), (68, x_bin (fun x y => x + y)), (69, x_ald 64), (72, x_goto 73)]
def b136_72 : List (Nat × xI) := [(73, x_iconst (-1)), (73, x_goto 73)]
def b136_73 : List (Nat × xI) := [(74, x_iret)]
def t136 : List (Nat × List (Nat × xI)) := [(0, b136_0), (13, b136_13), (14, b136_14), (22, b136_22), (72, b136_72), (73, b136_73)]
def b137_0 : List (Nat × xI) := [(1, x_aload 0), (2, x_iload 1), (3, x_iconst 0), (4, x_iconst 2), (7, x_call 92 3 0 0 0 0), (10, x_if (fun x => x = 0) 23), (11, x_iload 2), (12, x_iconst 0), (13, x_iconst 5), (16, x_call 92 3 0 0 0 0), (19, x_if (fun x => x = 0) 23), (20, x_iconst 0), (23, x_goto 24)]
def b137_23 : List (Nat × xI) := [(24, x_iconst 1), (24, x_goto 24)]
def b137_24 : List (Nat × xI) := [(27, x_callv 8 91 2 0 0 0 0), (30, x_if (fun x => x = 0) 32), (31, x_iconst 0), (32, x_iret)]
def b137_32 : List (Nat × xI) := [(33, x_iload 2), (34, x_iconst 5), (37, x_icmp (fun x y => ¬ x = y) 46), (38, x_aload 0), (41, x_gfr 8 27 45), (42, x_iload 1), (43, x_ald 45), (46, x_goto 47)]
def b137_46 : List (Nat × xI) := [(47, x_iconst 0), (47, x_goto 47)]
def b137_47 : List (Nat × xI) := [(48, x_istore 3), (49, x_iconst 0), (51, x_istore 4), (51, x_goto 51)]
def b137_51 : List (Nat × xI) := [(53, x_iload 4), (54, x_iconst 3), (57, x_icmp (fun x y => y ≤ x) 89), (58, x_iload 2), (61, x_if (fun x => ¬ x = 0) 81), (62, x_aload 0), (65, x_gfr 8 19 38), (66, x_iconst 3), (67, x_iload 1), (68, x_bin (fun x y => x * y)), (70, x_iload 4), (71, x_bin (fun x y => x + y)), (72, x_ald 38), (75, x_if (fun x => 0 ≤ x) 81), (76, x_iload 3), (77, x_iconst 1), (78, x_bin (fun x y => x + y)), (81, x_goto 82)]
def b137_81 : List (Nat × xI) := [(82, x_iload 3), (82, x_goto 82)]
def b137_82 : List (Nat × xI) := [(83, x_istore 3), (86, x_iinc 4 1), (89, x_goto 51)]
def b137_89 : List (Nat × xI) := [(90, x_iconst 0), (92, x_istore 4), (92, x_goto 92)]
def b137_92 : List (Nat × xI) := [(94, x_iload 4), (96, x_iconst 12), (99, x_icmp (fun x y => y ≤ x) 133), (100, x_iload 2), (101, x_iconst 1), (104, x_icmp (fun x y => ¬ x = y) 125), (105, x_aload 0), (108, x_gfr 8 17 36), (110, x_iconst 12), (111, x_iload 1), (112, x_bin (fun x y => x * y)), (114, x_iload 4), (115, x_bin (fun x y => x + y)), (116, x_ald 36), (119, x_if (fun x => 0 ≤ x) 125), (120, x_iload 3), (121, x_iconst 1), (122, x_bin (fun x y => x + y)), (125, x_goto 126)]
def b137_125 : List (Nat × xI) := [(126, x_iload 3), (126, x_goto 126)]
def b137_126 : List (Nat × xI) := [(127, x_istore 3), (130, x_iinc 4 1), (133, x_goto 92)]
def b137_133 : List (Nat × xI) := [(134, x_iconst 0), (136, x_istore 4), (136, x_goto 136)]
def b137_136 : List (Nat × xI) := [(138, x_iload 4), (139, x_iconst 5), (142, x_icmp (fun x y => y ≤ x) 175), (143, x_iload 2), (144, x_iconst 2), (147, x_icmp (fun x y => ¬ x = y) 167), (148, x_aload 0), (151, x_gfr 8 18 37), (152, x_iconst 5), (153, x_iload 1), (154, x_bin (fun x y => x * y)), (156, x_iload 4), (157, x_bin (fun x y => x + y)), (158, x_ald 37), (161, x_if (fun x => 0 ≤ x) 167), (162, x_iload 3), (163, x_iconst 1), (164, x_bin (fun x y => x + y)), (167, x_goto 168)]
def b137_167 : List (Nat × xI) := [(168, x_iload 3), (168, x_goto 168)]
def b137_168 : List (Nat × xI) := [(169, x_istore 3), (172, x_iinc 4 1), (175, x_goto 136)]
def b137_175 : List (Nat × xI) := [(176, x_iconst 0), (178, x_istore 4), (178, x_goto 178)]
def b137_178 : List (Nat × xI) := [(180, x_iload 4), (181, x_aload 0), (184, x_gfi 8 20), (187, x_icmp (fun x y => y ≤ x) 248), (188, x_iload 2), (189, x_iconst 3), (192, x_icmp (fun x y => ¬ x = y) 240), (193, x_aload 0), (196, x_gfr 8 21 39), (198, x_iload 4), (199, x_ald 39), (200, x_iload 1), (203, x_icmp (fun x y => x = y) 214), (204, x_aload 0), (207, x_gfr 8 22 40), (209, x_iload 4), (210, x_ald 40), (211, x_iload 1), (214, x_icmp (fun x y => ¬ x = y) 240), (214, x_goto 214)]
def b137_214 : List (Nat × xI) := [(215, x_aload 0), (218, x_gfr 8 23 41), (220, x_iload 4), (221, x_ald 41), (224, x_if (fun x => 0 ≤ x) 240), (225, x_aload 0), (228, x_gfr 8 24 42), (230, x_iload 4), (231, x_ald 42), (234, x_if (fun x => ¬ x = 0) 240), (235, x_iload 3), (236, x_iconst 1), (237, x_bin (fun x y => x + y)), (240, x_goto 241)]
def b137_240 : List (Nat × xI) := [(241, x_iload 3), (241, x_goto 241)]
def b137_241 : List (Nat × xI) := [(242, x_istore 3), (245, x_iinc 4 1), (248, x_goto 178)]
def b137_248 : List (Nat × xI) := [(250, x_iconst 24), (251, x_iload 1), (252, x_bin (fun x y => x * y)), (254, x_istore 4), (254, x_goto 254)]
def b137_254 : List (Nat × xI) := [(256, x_iload 4), (258, x_iconst 24), (259, x_iload 1), (260, x_bin (fun x y => x * y)), (262, x_iconst 24), (263, x_bin (fun x y => x + y)), (266, x_icmp (fun x y => y ≤ x) 295), (267, x_iload 2), (268, x_iconst 4), (271, x_icmp (fun x y => ¬ x = y) 287), (272, x_aload 0), (275, x_gfr 8 5 24), (277, x_iload 4), (278, x_ald 24), (281, x_if (fun x => x < 0) 287), (282, x_iload 3), (283, x_iconst 1), (284, x_bin (fun x y => x + y)), (287, x_goto 288)]
def b137_287 : List (Nat × xI) := [(288, x_iload 3), (288, x_goto 288)]
def b137_288 : List (Nat × xI) := [(289, x_istore 3), (292, x_iinc 4 1), (295, x_goto 254)]
def b137_295 : List (Nat × xI) := [(296, x_iload 3), (297, x_iret)]
def t137 : List (Nat × List (Nat × xI)) := [(0, b137_0), (23, b137_23), (24, b137_24), (32, b137_32), (46, b137_46), (47, b137_47), (51, b137_51), (81, b137_81), (82, b137_82), (89, b137_89), (92, b137_92), (125, b137_125), (126, b137_126), (133, b137_133), (136, b137_136), (167, b137_167), (168, b137_168), (175, b137_175), (178, b137_178), (214, b137_214), (240, b137_240), (241, b137_241), (248, b137_248), (254, b137_254), (287, b137_287), (288, b137_288), (295, b137_295)]
def b138_0 : List (Nat × xI) := [(1, x_aload 0), (2, x_iload 1), (3, x_iconst 0), (4, x_iconst 2), (7, x_call 92 3 0 0 0 0), (10, x_if (fun x => x = 0) 23), (11, x_iload 2), (12, x_iconst 0), (13, x_iconst 2), (16, x_call 92 3 0 0 0 0), (19, x_if (fun x => x = 0) 23), (20, x_iconst 0), (23, x_goto 24)]
def b138_23 : List (Nat × xI) := [(24, x_iconst 1), (24, x_goto 24)]
def b138_24 : List (Nat × xI) := [(27, x_callv 8 91 2 0 0 0 0), (30, x_if (fun x => x = 0) 34), (31, x_iconst 0), (34, x_goto 44)]
def b138_34 : List (Nat × xI) := [(35, x_aload 0), (38, x_gfr 8 26 44), (39, x_iconst 3), (40, x_iload 1), (41, x_bin (fun x y => x * y)), (42, x_iload 2), (43, x_bin (fun x y => x + y)), (44, x_ald 44), (44, x_goto 44)]
def b138_44 : List (Nat × xI) := [(45, x_iret)]
def t138 : List (Nat × List (Nat × xI)) := [(0, b138_0), (23, b138_23), (24, b138_24), (34, b138_34), (44, b138_44)]
def x_tbl : List (List (Nat × List (Nat × xI))) := [t0, t1, t2, t3, t4, t5, t6, t7, t8, t9, t10, t11, t12, t13, t14, t15, t16, t17, t18, t19, t20, t21, t22, t23, t24, t25, t26, t27, t28, t29, t30, t31, t32, t33, t34, t35, t36, t37, t38, t39, t40, t41, t42, t43, t44, t45, t46, t47, t48, t49, t50, t51, t52, t53, t54, t55, t56, t57, t58, t59, t60, t61, t62, t63, t64, t65, t66, t67, t68, t69, t70, t71, t72, t73, t74, t75, t76, t77, t78, t79, t80, t81, t82, t83, t84, t85, t86, t87, t88, t89, t90, t91, t92, t93, t94, t95, t96, t97, t98, t99, t100, t101, t102, t103, t104, t105, t106, t107, t108, t109, t110, t111, t112, t113, t114, t115, t116, t117, t118, t119, t120, t121, t122, t123, t124, t125, t126, t127, t128, t129, t130, t131, t132, t133, t134, t135, t136, t137, t138]
def x_cd (μ pc : Nat) : List (Nat × xI) := (((x_tbl[μ]?).getD []).lookup pc).getD []
end
section
/-! WORDS OF THE TABLES, by their places -/
theorem x_tb (i : Nat) {w : Cond} (h : lw_tbl[i]? = some w) (hg : goodWord w = true) : w ∈ x_big := x_big_in (List.mem_of_getElem? h) hg
theorem wd_1 : Cond.selects RX7 yX7_lineOf yX7_lineOf ∈ x_big := x_tb 1 (by decide +kernel) (by decide +kernel)
theorem wd_2 : Cond.selects RX7 yX7_askForRegister yX7_askForRegister ∈ x_big := x_tb 2 (by decide +kernel) (by decide +kernel)
theorem wd_3 : Cond.selects RX7 yX7_beginCall yX7_beginCall ∈ x_big := x_tb 3 (by decide +kernel) (by decide +kernel)
theorem wd_4 : Cond.selects RX7 yX7_seize yX7_seize ∈ x_big := x_tb 4 (by decide +kernel) (by decide +kernel)
theorem wd_5 : Cond.selects RX7 yX7_setHolder yX7_setHolder ∈ x_big := x_tb 5 (by decide +kernel) (by decide +kernel)
theorem wd_6 : Cond.selects RX7 yX7_answer yX7_answer ∈ x_big := x_tb 6 (by decide +kernel) (by decide +kernel)
theorem wd_7 : Cond.selects RX7 yX7_charge yX7_charge ∈ x_big := x_tb 7 (by decide +kernel) (by decide +kernel)
theorem wd_8 : Cond.selects RX7 yX7_end yX7_end ∈ x_big := x_tb 8 (by decide +kernel) (by decide +kernel)
theorem wd_9 : Cond.selects RX7 yX7_takeDigit yX7_takeDigit ∈ x_big := x_tb 9 (by decide +kernel) (by decide +kernel)
theorem wd_10 : Cond.selects RX7 yX7_makeJob yX7_makeJob ∈ x_big := x_tb 10 (by decide +kernel) (by decide +kernel)
theorem wd_11 : Cond.selects RX7 yX7_doOldestJob yX7_doOldestJob ∈ x_big := x_tb 11 (by decide +kernel) (by decide +kernel)
theorem wd_12 : Cond.selects RX7 yX7_callLine yX7_callLine ∈ x_big := x_tb 12 (by decide +kernel) (by decide +kernel)
theorem wd_13 : Cond.selects RX2 yX2_firstFree yX2_firstFree ∈ x_big := x_tb 13 (by decide +kernel) (by decide +kernel)
theorem wd_14 : Cond.selects RX7 yX7_seizeWayWithin yX7_seizeWayWithin ∈ x_big := x_tb 14 (by decide +kernel) (by decide +kernel)
theorem wd_15 : Cond.selects RX7 yX7_seizeLink yX7_seizeLink ∈ x_big := x_tb 15 (by decide +kernel) (by decide +kernel)
theorem wd_16 : Cond.selects RX7 yX7_release yX7_release ∈ x_big := x_tb 16 (by decide +kernel) (by decide +kernel)
theorem wd_17 : Cond.selects RX7 yX7_sendOnward yX7_sendOnward ∈ x_big := x_tb 17 (by decide +kernel) (by decide +kernel)
theorem wd_18 : Cond.selects RX7 yX7_seizeOnward yX7_seizeOnward ∈ x_big := x_tb 18 (by decide +kernel) (by decide +kernel)
theorem wd_19 : Cond.selects RX7 yX7_firstIdleTrunk yX7_firstIdleTrunk ∈ x_big := x_tb 19 (by decide +kernel) (by decide +kernel)
theorem wd_20 : Cond.selects RX7 yX7_sendDigits yX7_sendDigits ∈ x_big := x_tb 20 (by decide +kernel) (by decide +kernel)
theorem wd_21 : Cond.selects RX7 yX7_sendDigit yX7_sendDigit ∈ x_big := x_tb 21 (by decide +kernel) (by decide +kernel)
theorem wd_22 : Cond.selects RX7 yX7_letTimePass yX7_letTimePass ∈ x_big := x_tb 22 (by decide +kernel) (by decide +kernel)
theorem wd_23 : Cond.selects RX7 yX7_waitForDigit yX7_waitForDigit ∈ x_big := x_tb 23 (by decide +kernel) (by decide +kernel)
theorem wd_24 : Cond.selects RX7 yX7_spendTalkTick yX7_spendTalkTick ∈ x_big := x_tb 24 (by decide +kernel) (by decide +kernel)
theorem wd_25 : Cond.selects RX7 yX7_giveRegisters yX7_giveRegisters ∈ x_big := x_tb 25 (by decide +kernel) (by decide +kernel)
theorem wd_26 : Cond.selects RX7 yX7_countIdleTrunks yX7_countIdleTrunks ∈ x_big := x_tb 26 (by decide +kernel) (by decide +kernel)
theorem wd_27 : Cond.selects RX8 yX8_refused yX8_refused ∈ x_big := x_tb 27 (by decide +kernel) (by decide +kernel)
theorem wd_28 : Cond.selects RX8 yX8_idleRegister yX8_idleRegister ∈ x_big := x_tb 28 (by decide +kernel) (by decide +kernel)
theorem wd_29 : Cond.selects RX8 yX8_doesWait yX8_doesWait ∈ x_big := x_tb 29 (by decide +kernel) (by decide +kernel)
theorem wd_30 : Cond.selects RX8 yX8_begin yX8_begin ∈ x_big := x_tb 30 (by decide +kernel) (by decide +kernel)
theorem wd_31 : Cond.selects RX8 yX8_seize yX8_seize ∈ x_big := x_tb 31 (by decide +kernel) (by decide +kernel)
theorem wd_32 : Cond.selects RX8 yX8_give yX8_give ∈ x_big := x_tb 32 (by decide +kernel) (by decide +kernel)
theorem wd_33 : Cond.selects RX8 yX8_over yX8_over ∈ x_big := x_tb 33 (by decide +kernel) (by decide +kernel)
theorem wd_34 : Cond.selects RX8 yX8_end yX8_end ∈ x_big := x_tb 34 (by decide +kernel) (by decide +kernel)
theorem wd_35 : Cond.selects RX8 yX8_release yX8_release ∈ x_big := x_tb 35 (by decide +kernel) (by decide +kernel)
theorem wd_36 : Cond.selects RX8 yX8_dropJob yX8_dropJob ∈ x_big := x_tb 36 (by decide +kernel) (by decide +kernel)
theorem wd_37 : Cond.selects RX8 yX8_prefixFor yX8_prefixFor ∈ x_big := x_tb 37 (by decide +kernel) (by decide +kernel)
theorem wd_38 : Cond.selects RX8 yX8_fits yX8_fits ∈ x_big := x_tb 38 (by decide +kernel) (by decide +kernel)
theorem wd_39 : Cond.selects RX8 yX8_mayBecome yX8_mayBecome ∈ x_big := x_tb 39 (by decide +kernel) (by decide +kernel)
theorem wd_40 : Cond.selects RX8 yX8_fail yX8_fail ∈ x_big := x_tb 40 (by decide +kernel) (by decide +kernel)
theorem wd_41 : Cond.selects RX8 yX8_addJob yX8_addJob ∈ x_big := x_tb 41 (by decide +kernel) (by decide +kernel)
theorem wd_42 : Cond.selects RX8 yX8_one yX8_one ∈ x_big := x_tb 42 (by decide +kernel) (by decide +kernel)
theorem wd_43 : Cond.selects RX8 yX8_doJob yX8_doJob ∈ x_big := x_tb 43 (by decide +kernel) (by decide +kernel)
theorem wd_44 : Cond.selects RX8 yX8_complete yX8_complete ∈ x_big := x_tb 44 (by decide +kernel) (by decide +kernel)
theorem wd_45 : Cond.selects RX8 yX8_hunted yX8_hunted ∈ x_big := x_tb 45 (by decide +kernel) (by decide +kernel)
theorem wd_46 : Cond.selects RX8 yX8_isFree yX8_isFree ∈ x_big := x_tb 46 (by decide +kernel) (by decide +kernel)
theorem wd_47 : Cond.selects RX8 yX8_idleJunctor yX8_idleJunctor ∈ x_big := x_tb 47 (by decide +kernel) (by decide +kernel)
theorem wd_48 : Cond.selects RX8 yX8_findWay yX8_findWay ∈ x_big := x_tb 48 (by decide +kernel) (by decide +kernel)
theorem wd_49 : Cond.selects RX8 yX8_forward yX8_forward ∈ x_big := x_tb 49 (by decide +kernel) (by decide +kernel)
theorem wd_50 : Cond.selects RX8 yX8_idleTrunk yX8_idleTrunk ∈ x_big := x_tb 50 (by decide +kernel) (by decide +kernel)
theorem wd_51 : Cond.selects RX8 yX8_send yX8_send ∈ x_big := x_tb 51 (by decide +kernel) (by decide +kernel)
theorem wd_52 : Cond.selects RX8 yX8_pass yX8_pass ∈ x_big := x_tb 52 (by decide +kernel) (by decide +kernel)
theorem wd_53 : Cond.selects RX8 yX8_hand yX8_hand ∈ x_big := x_tb 53 (by decide +kernel) (by decide +kernel)
theorem wd_55 : Cond.initialized RX7 ∈ x_big := x_tb 55 (by decide +kernel) (by decide +kernel)
theorem wd_56 : Cond.initialized RX2 ∈ x_big := x_tb 56 (by decide +kernel) (by decide +kernel)
theorem wd_57 : Cond.initialized RX4 ∈ x_big := x_tb 57 (by decide +kernel) (by decide +kernel)
theorem wd_58 : Cond.initialized RX1 ∈ x_big := x_tb 58 (by decide +kernel) (by decide +kernel)
theorem wd_59 : Cond.initialized RX0 ∈ x_big := x_tb 59 (by decide +kernel) (by decide +kernel)
theorem wd_62 : Cond.initialized RX8 ∈ x_big := x_tb 62 (by decide +kernel) (by decide +kernel)
theorem wd_66 : Cond.initialized "java/lang/IllegalArgumentException" ∈ x_big := x_tb 66 (by decide +kernel) (by decide +kernel)
theorem wd_67 : Cond.initialized "java/lang/IllegalStateException" ∈ x_big := x_tb 67 (by decide +kernel) (by decide +kernel)
theorem wd_68 : Cond.initialized RX6 ∈ x_big := x_tb 68 (by decide +kernel) (by decide +kernel)
theorem wd_69 : Cond.initialized RX3 ∈ x_big := x_tb 69 (by decide +kernel) (by decide +kernel)
theorem wd_75 : Cond.methodLink RX7 3 Lib.objectInit ∈ x_big := x_tb 75 (by decide +kernel) (by decide +kernel)
theorem wd_76 : Cond.instanceMethod Lib.objectInit ∈ x_big := x_tb 76 (by decide +kernel) (by decide +kernel)
theorem wd_77 : Cond.code Lib.objectInit ⟨#[0xb1]⟩ 1 none ∈ x_big := x_tb 77 (by decide +kernel) (by decide +kernel)
theorem wd_78 : Cond.classLink RX7 9 RX2 ∈ x_big := x_tb 78 (by decide +kernel) (by decide +kernel)
theorem wd_80 : Cond.classLink RX7 15 RX0 ∈ x_big := x_tb 80 (by decide +kernel) (by decide +kernel)
theorem wd_82 : Cond.classLink RX7 21 RX6 ∈ x_big := x_tb 82 (by decide +kernel) (by decide +kernel)
theorem wd_84 : Cond.classLink RX7 27 "[[I" ∈ x_big := x_tb 84 (by decide +kernel) (by decide +kernel)
theorem wd_86 : Cond.instantiable RX2 9 ∈ x_big := x_tb 86 (by decide +kernel) (by decide +kernel)
theorem wd_87 : Cond.methodLink RX7 32 yX2_init ∈ x_big := x_tb 87 (by decide +kernel) (by decide +kernel)
theorem wd_88 : Cond.instanceMethod yX2_init ∈ x_big := x_tb 88 (by decide +kernel) (by decide +kernel)
theorem wd_89 : Cond.code yX2_init cX2_init 3 none ∈ x_big := x_tb 89 (by decide +kernel) (by decide +kernel)
theorem wd_90 : Cond.methodLink RX2 3 Lib.objectInit ∈ x_big := x_tb 90 (by decide +kernel) (by decide +kernel)
theorem wd_91 : Cond.classLink RX2 9 RX1 ∈ x_big := x_tb 91 (by decide +kernel) (by decide +kernel)
theorem wd_93 : Cond.classLink RX2 17 RX0 ∈ x_big := x_tb 93 (by decide +kernel) (by decide +kernel)
theorem wd_94 : Cond.classLink RX2 23 RX3 ∈ x_big := x_tb 94 (by decide +kernel) (by decide +kernel)
theorem wd_96 : Cond.classLink RX2 29 RX4 ∈ x_big := x_tb 96 (by decide +kernel) (by decide +kernel)
theorem wd_98 : Cond.instantiable RX4 2 ∈ x_big := x_tb 98 (by decide +kernel) (by decide +kernel)
theorem wd_99 : Cond.methodLink RX2 35 yX4_init ∈ x_big := x_tb 99 (by decide +kernel) (by decide +kernel)
theorem wd_100 : Cond.instanceMethod yX4_init ∈ x_big := x_tb 100 (by decide +kernel) (by decide +kernel)
theorem wd_101 : Cond.code yX4_init cX4_init 2 none ∈ x_big := x_tb 101 (by decide +kernel) (by decide +kernel)
theorem wd_102 : Cond.methodLink RX4 3 Lib.objectInit ∈ x_big := x_tb 102 (by decide +kernel) (by decide +kernel)
theorem wd_103 : Cond.fieldLink RX4 9 "CrossbarNet$Row" "items" "[I" ∈ x_big := x_tb 103 (by decide +kernel) (by decide +kernel)
theorem wd_104 : Cond.fieldLink RX4 15 "CrossbarNet$Row" "count" "I" ∈ x_big := x_tb 104 (by decide +kernel) (by decide +kernel)
theorem wd_110 : Cond.arrayClass Jvm.ClassFile.FieldType.int ∈ x_big := x_tb 110 (by decide +kernel) (by decide +kernel)
theorem wd_111 : Cond.instantiable RX1 6 ∈ x_big := x_tb 111 (by decide +kernel) (by decide +kernel)
theorem wd_112 : Cond.methodLink RX2 49 yX1_init ∈ x_big := x_tb 112 (by decide +kernel) (by decide +kernel)
theorem wd_113 : Cond.instanceMethod yX1_init ∈ x_big := x_tb 113 (by decide +kernel) (by decide +kernel)
theorem wd_114 : Cond.code yX1_init cX1_init 3 none ∈ x_big := x_tb 114 (by decide +kernel) (by decide +kernel)
theorem wd_115 : Cond.methodLink RX1 3 Lib.objectInit ∈ x_big := x_tb 115 (by decide +kernel) (by decide +kernel)
theorem wd_116 : Cond.fieldLink RX1 15 "CrossbarNet$Line" "office" "I" ∈ x_big := x_tb 116 (by decide +kernel) (by decide +kernel)
theorem wd_117 : Cond.fieldLink RX0 47 "CrossbarNet$Line" "office" "I" ∈ x_big := x_tb 117 (by decide +kernel) (by decide +kernel)
theorem wd_118 : Cond.fieldLink RX7 299 "CrossbarNet$Line" "office" "I" ∈ x_big := x_tb 118 (by decide +kernel) (by decide +kernel)
theorem wd_119 : Cond.fieldLink RX1 18 "CrossbarNet$Line" "number" "I" ∈ x_big := x_tb 119 (by decide +kernel) (by decide +kernel)
theorem wd_120 : Cond.fieldLink RX7 240 "CrossbarNet$Line" "number" "I" ∈ x_big := x_tb 120 (by decide +kernel) (by decide +kernel)
theorem wd_121 : Cond.fieldLink RX1 21 "CrossbarNet$Line" "lifted" "Z" ∈ x_big := x_tb 121 (by decide +kernel) (by decide +kernel)
theorem wd_122 : Cond.fieldLink RX7 123 "CrossbarNet$Line" "lifted" "Z" ∈ x_big := x_tb 122 (by decide +kernel) (by decide +kernel)
theorem wd_123 : Cond.fieldLink RX0 67 "CrossbarNet$Line" "lifted" "Z" ∈ x_big := x_tb 123 (by decide +kernel) (by decide +kernel)
theorem wd_124 : Cond.fieldLink RX1 9 "CrossbarNet$Line" "sound" "I" ∈ x_big := x_tb 124 (by decide +kernel) (by decide +kernel)
theorem wd_125 : Cond.fieldLink RX7 144 "CrossbarNet$Line" "sound" "I" ∈ x_big := x_tb 125 (by decide +kernel) (by decide +kernel)
theorem wd_126 : Cond.fieldLink RX7 211 "CrossbarNet$Line" "charged" "I" ∈ x_big := x_tb 126 (by decide +kernel) (by decide +kernel)
theorem wd_127 : Cond.fieldLink RX1 25 "CrossbarNet$Line" "call" "LCrossbarNet$Call;" ∈ x_big := x_tb 127 (by decide +kernel) (by decide +kernel)
theorem wd_128 : Cond.fieldLink RX7 128 "CrossbarNet$Line" "call" "LCrossbarNet$Call;" ∈ x_big := x_tb 128 (by decide +kernel) (by decide +kernel)
theorem wd_142 : Cond.fieldLink RX2 45 "CrossbarNet$Office" "number" "I" ∈ x_big := x_tb 142 (by decide +kernel) (by decide +kernel)
theorem wd_143 : Cond.fieldLink RX7 302 "CrossbarNet$Office" "number" "I" ∈ x_big := x_tb 143 (by decide +kernel) (by decide +kernel)
theorem wd_144 : Cond.fieldLink RX2 11 "CrossbarNet$Office" "lines" "[LCrossbarNet$Line;" ∈ x_big := x_tb 144 (by decide +kernel) (by decide +kernel)
theorem wd_145 : Cond.fieldLink RX7 35 "CrossbarNet$Office" "lines" "[LCrossbarNet$Line;" ∈ x_big := x_tb 145 (by decide +kernel) (by decide +kernel)
theorem wd_146 : Cond.fieldLink RX2 19 "CrossbarNet$Office" "holders" "[LCrossbarNet$Call;" ∈ x_big := x_tb 146 (by decide +kernel) (by decide +kernel)
theorem wd_147 : Cond.fieldLink RX7 346 "CrossbarNet$Office" "holders" "[LCrossbarNet$Call;" ∈ x_big := x_tb 147 (by decide +kernel) (by decide +kernel)
theorem wd_148 : Cond.fieldLink RX2 25 "CrossbarNet$Office" "routes" "[LCrossbarNet$Route;" ∈ x_big := x_tb 148 (by decide +kernel) (by decide +kernel)
theorem wd_149 : Cond.fieldLink RX2 31 "CrossbarNet$Office" "hunts" "[LCrossbarNet$Row;" ∈ x_big := x_tb 149 (by decide +kernel) (by decide +kernel)
theorem wd_150 : Cond.fieldLink RX7 112 "CrossbarNet$Office" "hunts" "[LCrossbarNet$Row;" ∈ x_big := x_tb 150 (by decide +kernel) (by decide +kernel)
theorem wd_151 : Cond.fieldLink RX2 38 "CrossbarNet$Office" "waiting" "LCrossbarNet$Row;" ∈ x_big := x_tb 151 (by decide +kernel) (by decide +kernel)
theorem wd_152 : Cond.fieldLink RX7 147 "CrossbarNet$Office" "waiting" "LCrossbarNet$Row;" ∈ x_big := x_tb 152 (by decide +kernel) (by decide +kernel)
theorem wd_153 : Cond.fieldLink RX2 42 "CrossbarNet$Office" "jobs" "LCrossbarNet$Row;" ∈ x_big := x_tb 153 (by decide +kernel) (by decide +kernel)
theorem wd_154 : Cond.fieldLink RX7 228 "CrossbarNet$Office" "jobs" "LCrossbarNet$Row;" ∈ x_big := x_tb 154 (by decide +kernel) (by decide +kernel)
theorem wd_155 : Cond.fieldLink RX2 52 "CrossbarNet$Office" "routeCount" "I" ∈ x_big := x_tb 155 (by decide +kernel) (by decide +kernel)
theorem wd_156 : Cond.fieldLink RX2 95 "CrossbarNet$Office" "rotor" "I" ∈ x_big := x_tb 156 (by decide +kernel) (by decide +kernel)
theorem wd_157 : Cond.fieldLink RX7 318 "CrossbarNet$Office" "rotor" "I" ∈ x_big := x_tb 157 (by decide +kernel) (by decide +kernel)
theorem wd_177 : Cond.instantiable RX0 15 ∈ x_big := x_tb 177 (by decide +kernel) (by decide +kernel)
theorem wd_178 : Cond.methodLink RX7 39 yX0_init ∈ x_big := x_tb 178 (by decide +kernel) (by decide +kernel)
theorem wd_179 : Cond.instanceMethod yX0_init ∈ x_big := x_tb 179 (by decide +kernel) (by decide +kernel)
theorem wd_180 : Cond.code yX0_init cX0_init 2 none ∈ x_big := x_tb 180 (by decide +kernel) (by decide +kernel)
theorem wd_181 : Cond.methodLink RX0 3 Lib.objectInit ∈ x_big := x_tb 181 (by decide +kernel) (by decide +kernel)
theorem wd_182 : Cond.classLink RX0 9 RX4 ∈ x_big := x_tb 182 (by decide +kernel) (by decide +kernel)
theorem wd_183 : Cond.methodLink RX0 11 yX4_init ∈ x_big := x_tb 183 (by decide +kernel) (by decide +kernel)
theorem wd_184 : Cond.fieldLink RX0 20 "CrossbarNet$Stage" "NO_CALL" "LCrossbarNet$Stage;" ∈ x_big := x_tb 184 (by decide +kernel) (by decide +kernel)
theorem wd_186 : Cond.fieldLink RX0 29 "CrossbarNet$Call" "caller" "LCrossbarNet$Line;" ∈ x_big := x_tb 186 (by decide +kernel) (by decide +kernel)
theorem wd_187 : Cond.fieldLink RX7 198 "CrossbarNet$Call" "caller" "LCrossbarNet$Line;" ∈ x_big := x_tb 187 (by decide +kernel) (by decide +kernel)
theorem wd_188 : Cond.fieldLink RX0 14 "CrossbarNet$Call" "holdings" "LCrossbarNet$Row;" ∈ x_big := x_tb 188 (by decide +kernel) (by decide +kernel)
theorem wd_189 : Cond.fieldLink RX7 214 "CrossbarNet$Call" "holdings" "LCrossbarNet$Row;" ∈ x_big := x_tb 189 (by decide +kernel) (by decide +kernel)
theorem wd_190 : Cond.fieldLink RX0 26 "CrossbarNet$Call" "stage" "LCrossbarNet$Stage;" ∈ x_big := x_tb 190 (by decide +kernel) (by decide +kernel)
theorem wd_191 : Cond.fieldLink RX7 163 "CrossbarNet$Call" "stage" "LCrossbarNet$Stage;" ∈ x_big := x_tb 191 (by decide +kernel) (by decide +kernel)
theorem wd_192 : Cond.fieldLink RX0 64 "CrossbarNet$Call" "called" "LCrossbarNet$Line;" ∈ x_big := x_tb 192 (by decide +kernel) (by decide +kernel)
theorem wd_193 : Cond.fieldLink RX7 136 "CrossbarNet$Call" "called" "LCrossbarNet$Line;" ∈ x_big := x_tb 193 (by decide +kernel) (by decide +kernel)
theorem wd_194 : Cond.fieldLink RX0 36 "CrossbarNet$Call" "dialled" "LCrossbarNet$Route;" ∈ x_big := x_tb 194 (by decide +kernel) (by decide +kernel)
theorem wd_195 : Cond.fieldLink RX7 272 "CrossbarNet$Call" "dialled" "LCrossbarNet$Route;" ∈ x_big := x_tb 195 (by decide +kernel) (by decide +kernel)
theorem wd_196 : Cond.fieldLink RX7 156 "CrossbarNet$Call" "held" "Z" ∈ x_big := x_tb 196 (by decide +kernel) (by decide +kernel)
theorem wd_197 : Cond.fieldLink RX0 40 "CrossbarNet$Call" "number" "I" ∈ x_big := x_tb 197 (by decide +kernel) (by decide +kernel)
theorem wd_198 : Cond.fieldLink RX7 259 "CrossbarNet$Call" "number" "I" ∈ x_big := x_tb 198 (by decide +kernel) (by decide +kernel)
theorem wd_199 : Cond.fieldLink RX0 61 "CrossbarNet$Call" "place" "I" ∈ x_big := x_tb 199 (by decide +kernel) (by decide +kernel)
theorem wd_200 : Cond.fieldLink RX7 352 "CrossbarNet$Call" "place" "I" ∈ x_big := x_tb 200 (by decide +kernel) (by decide +kernel)
theorem wd_201 : Cond.fieldLink RX0 44 "CrossbarNet$Call" "officesSoFar" "I" ∈ x_big := x_tb 201 (by decide +kernel) (by decide +kernel)
theorem wd_202 : Cond.fieldLink RX0 55 "CrossbarNet$Call" "register" "I" ∈ x_big := x_tb 202 (by decide +kernel) (by decide +kernel)
theorem wd_203 : Cond.fieldLink RX7 253 "CrossbarNet$Call" "register" "I" ∈ x_big := x_tb 203 (by decide +kernel) (by decide +kernel)
theorem wd_204 : Cond.fieldLink RX7 340 "CrossbarNet$Call" "nextRegister" "I" ∈ x_big := x_tb 204 (by decide +kernel) (by decide +kernel)
theorem wd_205 : Cond.fieldLink RX7 331 "CrossbarNet$Call" "digitsToSend" "I" ∈ x_big := x_tb 205 (by decide +kernel) (by decide +kernel)
theorem wd_206 : Cond.fieldLink RX0 58 "CrossbarNet$Call" "ticksWaited" "I" ∈ x_big := x_tb 206 (by decide +kernel) (by decide +kernel)
theorem wd_207 : Cond.fieldLink RX7 260 "CrossbarNet$Call" "ticksWaited" "I" ∈ x_big := x_tb 207 (by decide +kernel) (by decide +kernel)
theorem wd_208 : Cond.fieldLink RX7 361 "CrossbarNet$Call" "ticksSinceCharge" "I" ∈ x_big := x_tb 208 (by decide +kernel) (by decide +kernel)
theorem wd_209 : Cond.fieldLink RX7 153 "CrossbarNet$Call" "ticksHungUp" "I" ∈ x_big := x_tb 209 (by decide +kernel) (by decide +kernel)
theorem wd_241 : Cond.fieldLink RX7 11 "CrossbarNet" "offices" "[LCrossbarNet$Office;" ∈ x_big := x_tb 241 (by decide +kernel) (by decide +kernel)
theorem wd_242 : Cond.fieldLink RX7 17 "CrossbarNet" "calls" "[LCrossbarNet$Call;" ∈ x_big := x_tb 242 (by decide +kernel) (by decide +kernel)
theorem wd_243 : Cond.fieldLink RX7 23 "CrossbarNet" "trunks" "[LCrossbarNet$Trunk;" ∈ x_big := x_tb 243 (by decide +kernel) (by decide +kernel)
theorem wd_244 : Cond.fieldLink RX7 29 "CrossbarNet" "overflows" "[[I" ∈ x_big := x_tb 244 (by decide +kernel) (by decide +kernel)
theorem wd_245 : Cond.fieldLink RX7 50 "CrossbarNet" "trunkCount" "I" ∈ x_big := x_tb 245 (by decide +kernel) (by decide +kernel)
theorem wd_266 : Cond.methodLink RX7 42 yX7_isOffice ∈ x_big := x_tb 266 (by decide +kernel) (by decide +kernel)
theorem wd_267 : Cond.static yX7_isOffice ∈ x_big := x_tb 267 (by decide +kernel) (by decide +kernel)
theorem wd_268 : Cond.code yX7_isOffice cX7_isOffice 1 (some .boolean) ∈ x_big := x_tb 268 (by decide +kernel) (by decide +kernel)
theorem wd_269 : Cond.methodLink RX7 63 yX7_isWithin ∈ x_big := x_tb 269 (by decide +kernel) (by decide +kernel)
theorem wd_270 : Cond.static yX7_isWithin ∈ x_big := x_tb 270 (by decide +kernel) (by decide +kernel)
theorem wd_271 : Cond.code yX7_isWithin cX7_isWithin 3 (some .boolean) ∈ x_big := x_tb 271 (by decide +kernel) (by decide +kernel)
theorem wd_272 : Cond.methodLink RX7 46 yX7_need ∈ x_big := x_tb 272 (by decide +kernel) (by decide +kernel)
theorem wd_273 : Cond.static yX7_need ∈ x_big := x_tb 273 (by decide +kernel) (by decide +kernel)
theorem wd_274 : Cond.code yX7_need cX7_need 1 none ∈ x_big := x_tb 274 (by decide +kernel) (by decide +kernel)
theorem wd_275 : Cond.classLink RX7 231 "java/lang/IllegalArgumentException" ∈ x_big := x_tb 275 (by decide +kernel) (by decide +kernel)
theorem wd_337 : Cond.methodLink RX7 54 yX7_allow ∈ x_big := x_tb 337 (by decide +kernel) (by decide +kernel)
theorem wd_338 : Cond.static yX7_allow ∈ x_big := x_tb 338 (by decide +kernel) (by decide +kernel)
theorem wd_339 : Cond.code yX7_allow cX7_allow 1 none ∈ x_big := x_tb 339 (by decide +kernel) (by decide +kernel)
theorem wd_340 : Cond.classLink RX7 234 "java/lang/IllegalStateException" ∈ x_big := x_tb 340 (by decide +kernel) (by decide +kernel)
theorem wd_355 : Cond.instantiable RX6 4 ∈ x_big := x_tb 355 (by decide +kernel) (by decide +kernel)
theorem wd_356 : Cond.methodLink RX7 57 yX6_init ∈ x_big := x_tb 356 (by decide +kernel) (by decide +kernel)
theorem wd_357 : Cond.instanceMethod yX6_init ∈ x_big := x_tb 357 (by decide +kernel) (by decide +kernel)
theorem wd_358 : Cond.code yX6_init cX6_init 3 none ∈ x_big := x_tb 358 (by decide +kernel) (by decide +kernel)
theorem wd_359 : Cond.methodLink RX6 1 Lib.objectInit ∈ x_big := x_tb 359 (by decide +kernel) (by decide +kernel)
theorem wd_360 : Cond.fieldLink RX6 7 "CrossbarNet$Trunk" "a" "I" ∈ x_big := x_tb 360 (by decide +kernel) (by decide +kernel)
theorem wd_361 : Cond.fieldLink RX6 13 "CrossbarNet$Trunk" "b" "I" ∈ x_big := x_tb 361 (by decide +kernel) (by decide +kernel)
theorem wd_362 : Cond.fieldLink RX6 16 "CrossbarNet$Trunk" "isOut" "Z" ∈ x_big := x_tb 362 (by decide +kernel) (by decide +kernel)
theorem wd_363 : Cond.fieldLink RX7 189 "CrossbarNet$Trunk" "isOut" "Z" ∈ x_big := x_tb 363 (by decide +kernel) (by decide +kernel)
theorem wd_364 : Cond.fieldLink RX6 20 "CrossbarNet$Trunk" "holder" "LCrossbarNet$Call;" ∈ x_big := x_tb 364 (by decide +kernel) (by decide +kernel)
theorem wd_365 : Cond.fieldLink RX7 192 "CrossbarNet$Trunk" "holder" "LCrossbarNet$Call;" ∈ x_big := x_tb 365 (by decide +kernel) (by decide +kernel)
theorem wd_382 : Cond.methodLink RX7 60 yX7_isPrefix ∈ x_big := x_tb 382 (by decide +kernel) (by decide +kernel)
theorem wd_383 : Cond.static yX7_isPrefix ∈ x_big := x_tb 383 (by decide +kernel) (by decide +kernel)
theorem wd_384 : Cond.code yX7_isPrefix cX7_isPrefix 1 (some .boolean) ∈ x_big := x_tb 384 (by decide +kernel) (by decide +kernel)
theorem wd_385 : Cond.methodLink RX7 67 yX2_routeNamed ∈ x_big := x_tb 385 (by decide +kernel) (by decide +kernel)
theorem wd_386 : Cond.instanceMethod yX2_routeNamed ∈ x_big := x_tb 386 (by decide +kernel) (by decide +kernel)
theorem wd_387 : Cond.selects RX2 yX2_routeNamed yX2_routeNamed ∈ x_big := x_tb 387 (by decide +kernel) (by decide +kernel)
theorem wd_388 : Cond.code yX2_routeNamed cX2_routeNamed 3 (some (.object "CrossbarNet$Route")) ∈ x_big := x_tb 388 (by decide +kernel) (by decide +kernel)
theorem wd_389 : Cond.methodLink RX7 71 yX2_hasRoomFor ∈ x_big := x_tb 389 (by decide +kernel) (by decide +kernel)
theorem wd_390 : Cond.instanceMethod yX2_hasRoomFor ∈ x_big := x_tb 390 (by decide +kernel) (by decide +kernel)
theorem wd_391 : Cond.selects RX2 yX2_hasRoomFor yX2_hasRoomFor ∈ x_big := x_tb 391 (by decide +kernel) (by decide +kernel)
theorem wd_392 : Cond.code yX2_hasRoomFor cX2_hasRoomFor 2 (some .boolean) ∈ x_big := x_tb 392 (by decide +kernel) (by decide +kernel)
theorem wd_393 : Cond.methodLink RX2 58 yX2_routeOf ∈ x_big := x_tb 393 (by decide +kernel) (by decide +kernel)
theorem wd_394 : Cond.instanceMethod yX2_routeOf ∈ x_big := x_tb 394 (by decide +kernel) (by decide +kernel)
theorem wd_395 : Cond.selects RX2 yX2_routeOf yX2_routeOf ∈ x_big := x_tb 395 (by decide +kernel) (by decide +kernel)
theorem wd_396 : Cond.code yX2_routeOf cX2_routeOf 3 (some (.object "CrossbarNet$Route")) ∈ x_big := x_tb 396 (by decide +kernel) (by decide +kernel)
theorem wd_398 : Cond.static yX7_beginsWith ∈ x_big := x_tb 398 (by decide +kernel) (by decide +kernel)
theorem wd_399 : Cond.code yX7_beginsWith cX7_beginsWith 3 (some .boolean) ∈ x_big := x_tb 399 (by decide +kernel) (by decide +kernel)
theorem wd_400 : Cond.methodLink RX2 62 yX2_canBecomePrefix ∈ x_big := x_tb 400 (by decide +kernel) (by decide +kernel)
theorem wd_401 : Cond.instanceMethod yX2_canBecomePrefix ∈ x_big := x_tb 401 (by decide +kernel) (by decide +kernel)
theorem wd_402 : Cond.selects RX2 yX2_canBecomePrefix yX2_canBecomePrefix ∈ x_big := x_tb 402 (by decide +kernel) (by decide +kernel)
theorem wd_403 : Cond.code yX2_canBecomePrefix cX2_canBecomePrefix 3 (some .boolean) ∈ x_big := x_tb 403 (by decide +kernel) (by decide +kernel)
theorem wd_404 : Cond.classLink RX7 74 RX3 ∈ x_big := x_tb 404 (by decide +kernel) (by decide +kernel)
theorem wd_405 : Cond.instantiable RX3 5 ∈ x_big := x_tb 405 (by decide +kernel) (by decide +kernel)
theorem wd_406 : Cond.methodLink RX7 76 yX3_init ∈ x_big := x_tb 406 (by decide +kernel) (by decide +kernel)
theorem wd_407 : Cond.instanceMethod yX3_init ∈ x_big := x_tb 407 (by decide +kernel) (by decide +kernel)
theorem wd_408 : Cond.code yX3_init cX3_init 3 none ∈ x_big := x_tb 408 (by decide +kernel) (by decide +kernel)
theorem wd_409 : Cond.methodLink RX3 3 Lib.objectInit ∈ x_big := x_tb 409 (by decide +kernel) (by decide +kernel)
theorem wd_410 : Cond.classLink RX3 9 RX4 ∈ x_big := x_tb 410 (by decide +kernel) (by decide +kernel)
theorem wd_411 : Cond.methodLink RX3 11 yX4_init ∈ x_big := x_tb 411 (by decide +kernel) (by decide +kernel)
theorem wd_412 : Cond.fieldLink RX3 20 "CrossbarNet$Route" "prefix" "I" ∈ x_big := x_tb 412 (by decide +kernel) (by decide +kernel)
theorem wd_413 : Cond.fieldLink RX2 55 "CrossbarNet$Route" "prefix" "I" ∈ x_big := x_tb 413 (by decide +kernel) (by decide +kernel)
theorem wd_414 : Cond.fieldLink RX3 24 "CrossbarNet$Route" "own" "Z" ∈ x_big := x_tb 414 (by decide +kernel) (by decide +kernel)
theorem wd_415 : Cond.fieldLink RX7 86 "CrossbarNet$Route" "own" "Z" ∈ x_big := x_tb 415 (by decide +kernel) (by decide +kernel)
theorem wd_416 : Cond.fieldLink RX3 14 "CrossbarNet$Route" "choices" "LCrossbarNet$Row;" ∈ x_big := x_tb 416 (by decide +kernel) (by decide +kernel)
theorem wd_417 : Cond.fieldLink RX7 90 "CrossbarNet$Route" "choices" "LCrossbarNet$Row;" ∈ x_big := x_tb 417 (by decide +kernel) (by decide +kernel)
theorem wd_418 : Cond.fieldLink RX7 99 "CrossbarNet$Route" "units" "I" ∈ x_big := x_tb 418 (by decide +kernel) (by decide +kernel)
theorem wd_419 : Cond.fieldLink RX0 71 "CrossbarNet$Route" "units" "I" ∈ x_big := x_tb 419 (by decide +kernel) (by decide +kernel)
theorem wd_420 : Cond.fieldLink RX7 102 "CrossbarNet$Route" "period" "I" ∈ x_big := x_tb 420 (by decide +kernel) (by decide +kernel)
theorem wd_421 : Cond.fieldLink RX0 76 "CrossbarNet$Route" "period" "I" ∈ x_big := x_tb 421 (by decide +kernel) (by decide +kernel)
theorem wd_433 : Cond.methodLink RX7 79 yX2_addRoute ∈ x_big := x_tb 433 (by decide +kernel) (by decide +kernel)
theorem wd_434 : Cond.instanceMethod yX2_addRoute ∈ x_big := x_tb 434 (by decide +kernel) (by decide +kernel)
theorem wd_435 : Cond.selects RX2 yX2_addRoute yX2_addRoute ∈ x_big := x_tb 435 (by decide +kernel) (by decide +kernel)
theorem wd_436 : Cond.code yX2_addRoute cX2_addRoute 2 none ∈ x_big := x_tb 436 (by decide +kernel) (by decide +kernel)
theorem wd_437 : Cond.methodLink RX7 83 yX3_canHave ∈ x_big := x_tb 437 (by decide +kernel) (by decide +kernel)
theorem wd_438 : Cond.instanceMethod yX3_canHave ∈ x_big := x_tb 438 (by decide +kernel) (by decide +kernel)
theorem wd_439 : Cond.selects RX3 yX3_canHave yX3_canHave ∈ x_big := x_tb 439 (by decide +kernel) (by decide +kernel)
theorem wd_440 : Cond.code yX3_canHave cX3_canHave 2 (some .boolean) ∈ x_big := x_tb 440 (by decide +kernel) (by decide +kernel)
theorem wd_441 : Cond.methodLink RX3 28 yX4_size ∈ x_big := x_tb 441 (by decide +kernel) (by decide +kernel)
theorem wd_442 : Cond.instanceMethod yX4_size ∈ x_big := x_tb 442 (by decide +kernel) (by decide +kernel)
theorem wd_443 : Cond.selects RX4 yX4_size yX4_size ∈ x_big := x_tb 443 (by decide +kernel) (by decide +kernel)
theorem wd_444 : Cond.code yX4_size cX4_size 1 (some .int) ∈ x_big := x_tb 444 (by decide +kernel) (by decide +kernel)
theorem wd_445 : Cond.methodLink RX3 32 yX4_has ∈ x_big := x_tb 445 (by decide +kernel) (by decide +kernel)
theorem wd_446 : Cond.instanceMethod yX4_has ∈ x_big := x_tb 446 (by decide +kernel) (by decide +kernel)
theorem wd_447 : Cond.selects RX4 yX4_has yX4_has ∈ x_big := x_tb 447 (by decide +kernel) (by decide +kernel)
theorem wd_448 : Cond.code yX4_has cX4_has 3 (some .boolean) ∈ x_big := x_tb 448 (by decide +kernel) (by decide +kernel)
theorem wd_449 : Cond.methodLink RX7 94 yX4_add ∈ x_big := x_tb 449 (by decide +kernel) (by decide +kernel)
theorem wd_450 : Cond.instanceMethod yX4_add ∈ x_big := x_tb 450 (by decide +kernel) (by decide +kernel)
theorem wd_451 : Cond.selects RX4 yX4_add yX4_add ∈ x_big := x_tb 451 (by decide +kernel) (by decide +kernel)
theorem wd_452 : Cond.code yX4_add cX4_add 2 none ∈ x_big := x_tb 452 (by decide +kernel) (by decide +kernel)
theorem wd_453 : Cond.methodLink RX7 105 yX4_size ∈ x_big := x_tb 453 (by decide +kernel) (by decide +kernel)
theorem wd_461 : Cond.methodLink RX7 109 yX7_isLine ∈ x_big := x_tb 461 (by decide +kernel) (by decide +kernel)
theorem wd_462 : Cond.static yX7_isLine ∈ x_big := x_tb 462 (by decide +kernel) (by decide +kernel)
theorem wd_463 : Cond.code yX7_isLine cX7_isLine 1 (some .boolean) ∈ x_big := x_tb 463 (by decide +kernel) (by decide +kernel)
theorem wd_464 : Cond.methodLink RX7 116 yX2_isInAHunt ∈ x_big := x_tb 464 (by decide +kernel) (by decide +kernel)
theorem wd_465 : Cond.instanceMethod yX2_isInAHunt ∈ x_big := x_tb 465 (by decide +kernel) (by decide +kernel)
theorem wd_466 : Cond.selects RX2 yX2_isInAHunt yX2_isInAHunt ∈ x_big := x_tb 466 (by decide +kernel) (by decide +kernel)
theorem wd_467 : Cond.code yX2_isInAHunt cX2_isInAHunt 3 (some .boolean) ∈ x_big := x_tb 467 (by decide +kernel) (by decide +kernel)
theorem wd_468 : Cond.methodLink RX2 70 yX4_has ∈ x_big := x_tb 468 (by decide +kernel) (by decide +kernel)
theorem wd_476 : Cond.methodLink RX7 119 yX7_lineOf ∈ x_big := x_tb 476 (by decide +kernel) (by decide +kernel)
theorem wd_478 : Cond.instanceMethod yX7_lineOf ∈ x_big := x_tb 478 (by decide +kernel) (by decide +kernel)
theorem wd_479 : Cond.code yX7_lineOf cX7_lineOf 3 (some (.object "CrossbarNet$Line")) ∈ x_big := x_tb 479 (by decide +kernel) (by decide +kernel)
theorem wd_480 : Cond.methodLink RX7 132 yX7_askForRegister ∈ x_big := x_tb 480 (by decide +kernel) (by decide +kernel)
theorem wd_482 : Cond.instanceMethod yX7_askForRegister ∈ x_big := x_tb 482 (by decide +kernel) (by decide +kernel)
theorem wd_483 : Cond.code yX7_askForRegister cX7_askForRegister 4 none ∈ x_big := x_tb 483 (by decide +kernel) (by decide +kernel)
theorem wd_484 : Cond.methodLink RX7 237 yX2_firstIdle ∈ x_big := x_tb 484 (by decide +kernel) (by decide +kernel)
theorem wd_485 : Cond.instanceMethod yX2_firstIdle ∈ x_big := x_tb 485 (by decide +kernel) (by decide +kernel)
theorem wd_486 : Cond.selects RX2 yX2_firstIdle yX2_firstIdle ∈ x_big := x_tb 486 (by decide +kernel) (by decide +kernel)
theorem wd_487 : Cond.code yX2_firstIdle cX2_firstIdle 4 (some .int) ∈ x_big := x_tb 487 (by decide +kernel) (by decide +kernel)
theorem wd_488 : Cond.methodLink RX7 243 yX7_beginCall ∈ x_big := x_tb 488 (by decide +kernel) (by decide +kernel)
theorem wd_490 : Cond.instanceMethod yX7_beginCall ∈ x_big := x_tb 490 (by decide +kernel) (by decide +kernel)
theorem wd_491 : Cond.code yX7_beginCall cX7_beginCall 5 none ∈ x_big := x_tb 491 (by decide +kernel) (by decide +kernel)
theorem wd_492 : Cond.methodLink RX7 208 yX1_name ∈ x_big := x_tb 492 (by decide +kernel) (by decide +kernel)
theorem wd_493 : Cond.instanceMethod yX1_name ∈ x_big := x_tb 493 (by decide +kernel) (by decide +kernel)
theorem wd_494 : Cond.selects RX1 yX1_name yX1_name ∈ x_big := x_tb 494 (by decide +kernel) (by decide +kernel)
theorem wd_495 : Cond.code yX1_name cX1_name 1 (some .int) ∈ x_big := x_tb 495 (by decide +kernel) (by decide +kernel)
theorem wd_496 : Cond.methodLink RX7 247 yX2_code ∈ x_big := x_tb 496 (by decide +kernel) (by decide +kernel)
theorem wd_497 : Cond.instanceMethod yX2_code ∈ x_big := x_tb 497 (by decide +kernel) (by decide +kernel)
theorem wd_498 : Cond.selects RX2 yX2_code yX2_code ∈ x_big := x_tb 498 (by decide +kernel) (by decide +kernel)
theorem wd_499 : Cond.code yX2_code cX2_code 2 (some .int) ∈ x_big := x_tb 499 (by decide +kernel) (by decide +kernel)
theorem wd_500 : Cond.methodLink RX7 250 yX0_startAnew ∈ x_big := x_tb 500 (by decide +kernel) (by decide +kernel)
theorem wd_501 : Cond.instanceMethod yX0_startAnew ∈ x_big := x_tb 501 (by decide +kernel) (by decide +kernel)
theorem wd_502 : Cond.selects RX0 yX0_startAnew yX0_startAnew ∈ x_big := x_tb 502 (by decide +kernel) (by decide +kernel)
theorem wd_503 : Cond.code yX0_startAnew cX0_startAnew 2 none ∈ x_big := x_tb 503 (by decide +kernel) (by decide +kernel)
theorem wd_504 : Cond.fieldLink RX0 33 "CrossbarNet$Stage" "DIALLING" "LCrossbarNet$Stage;" ∈ x_big := x_tb 504 (by decide +kernel) (by decide +kernel)
theorem wd_506 : Cond.methodLink RX0 52 yX0_goTo ∈ x_big := x_tb 506 (by decide +kernel) (by decide +kernel)
theorem wd_507 : Cond.instanceMethod yX0_goTo ∈ x_big := x_tb 507 (by decide +kernel) (by decide +kernel)
theorem wd_508 : Cond.selects RX0 yX0_goTo yX0_goTo ∈ x_big := x_tb 508 (by decide +kernel) (by decide +kernel)
theorem wd_509 : Cond.code yX0_goTo cX0_goTo 2 none ∈ x_big := x_tb 509 (by decide +kernel) (by decide +kernel)
theorem wd_510 : Cond.methodLink RX7 256 yX7_seize ∈ x_big := x_tb 510 (by decide +kernel) (by decide +kernel)
theorem wd_512 : Cond.instanceMethod yX7_seize ∈ x_big := x_tb 512 (by decide +kernel) (by decide +kernel)
theorem wd_513 : Cond.code yX7_seize cX7_seize 3 none ∈ x_big := x_tb 513 (by decide +kernel) (by decide +kernel)
theorem wd_514 : Cond.methodLink RX7 371 yX7_setHolder ∈ x_big := x_tb 514 (by decide +kernel) (by decide +kernel)
theorem wd_516 : Cond.instanceMethod yX7_setHolder ∈ x_big := x_tb 516 (by decide +kernel) (by decide +kernel)
theorem wd_517 : Cond.code yX7_setHolder cX7_setHolder 5 none ∈ x_big := x_tb 517 (by decide +kernel) (by decide +kernel)
theorem wd_518 : Cond.methodLink RX7 140 yX7_answer ∈ x_big := x_tb 518 (by decide +kernel) (by decide +kernel)
theorem wd_520 : Cond.instanceMethod yX7_answer ∈ x_big := x_tb 520 (by decide +kernel) (by decide +kernel)
theorem wd_521 : Cond.code yX7_answer cX7_answer 2 none ∈ x_big := x_tb 521 (by decide +kernel) (by decide +kernel)
theorem wd_522 : Cond.fieldLink RX7 201 "CrossbarNet$Stage" "RINGING" "LCrossbarNet$Stage;" ∈ x_big := x_tb 522 (by decide +kernel) (by decide +kernel)
theorem wd_524 : Cond.fieldLink RX7 195 "CrossbarNet$Stage" "TALKING" "LCrossbarNet$Stage;" ∈ x_big := x_tb 524 (by decide +kernel) (by decide +kernel)
theorem wd_526 : Cond.methodLink RX7 366 yX7_charge ∈ x_big := x_tb 526 (by decide +kernel) (by decide +kernel)
theorem wd_528 : Cond.instanceMethod yX7_charge ∈ x_big := x_tb 528 (by decide +kernel) (by decide +kernel)
theorem wd_529 : Cond.code yX7_charge cX7_charge 2 none ∈ x_big := x_tb 529 (by decide +kernel) (by decide +kernel)
theorem wd_530 : Cond.methodLink RX7 369 yX0_units ∈ x_big := x_tb 530 (by decide +kernel) (by decide +kernel)
theorem wd_531 : Cond.instanceMethod yX0_units ∈ x_big := x_tb 531 (by decide +kernel) (by decide +kernel)
theorem wd_532 : Cond.selects RX0 yX0_units yX0_units ∈ x_big := x_tb 532 (by decide +kernel) (by decide +kernel)
theorem wd_533 : Cond.code yX0_units cX0_units 1 (some .int) ∈ x_big := x_tb 533 (by decide +kernel) (by decide +kernel)
theorem wd_541 : Cond.methodLink RX7 150 yX4_remove ∈ x_big := x_tb 541 (by decide +kernel) (by decide +kernel)
theorem wd_542 : Cond.instanceMethod yX4_remove ∈ x_big := x_tb 542 (by decide +kernel) (by decide +kernel)
theorem wd_543 : Cond.selects RX4 yX4_remove yX4_remove ∈ x_big := x_tb 543 (by decide +kernel) (by decide +kernel)
theorem wd_544 : Cond.code yX4_remove cX4_remove 4 none ∈ x_big := x_tb 544 (by decide +kernel) (by decide +kernel)
theorem wd_545 : Cond.methodLink RX7 159 yX7_end ∈ x_big := x_tb 545 (by decide +kernel) (by decide +kernel)
theorem wd_547 : Cond.instanceMethod yX7_end ∈ x_big := x_tb 547 (by decide +kernel) (by decide +kernel)
theorem wd_548 : Cond.code yX7_end cX7_end 4 none ∈ x_big := x_tb 548 (by decide +kernel) (by decide +kernel)
theorem wd_549 : Cond.methodLink RX7 217 yX4_at ∈ x_big := x_tb 549 (by decide +kernel) (by decide +kernel)
theorem wd_550 : Cond.instanceMethod yX4_at ∈ x_big := x_tb 550 (by decide +kernel) (by decide +kernel)
theorem wd_551 : Cond.selects RX4 yX4_at yX4_at ∈ x_big := x_tb 551 (by decide +kernel) (by decide +kernel)
theorem wd_552 : Cond.code yX4_at cX4_at 2 (some .int) ∈ x_big := x_tb 552 (by decide +kernel) (by decide +kernel)
theorem wd_553 : Cond.methodLink RX7 375 yX4_clear ∈ x_big := x_tb 553 (by decide +kernel) (by decide +kernel)
theorem wd_554 : Cond.instanceMethod yX4_clear ∈ x_big := x_tb 554 (by decide +kernel) (by decide +kernel)
theorem wd_555 : Cond.selects RX4 yX4_clear yX4_clear ∈ x_big := x_tb 555 (by decide +kernel) (by decide +kernel)
theorem wd_556 : Cond.code yX4_clear cX4_clear 1 none ∈ x_big := x_tb 556 (by decide +kernel) (by decide +kernel)
theorem wd_557 : Cond.methodLink RX7 378 yX1_leaveCall ∈ x_big := x_tb 557 (by decide +kernel) (by decide +kernel)
theorem wd_558 : Cond.instanceMethod yX1_leaveCall ∈ x_big := x_tb 558 (by decide +kernel) (by decide +kernel)
theorem wd_559 : Cond.selects RX1 yX1_leaveCall yX1_leaveCall ∈ x_big := x_tb 559 (by decide +kernel) (by decide +kernel)
theorem wd_560 : Cond.code yX1_leaveCall cX1_leaveCall 2 none ∈ x_big := x_tb 560 (by decide +kernel) (by decide +kernel)
theorem wd_561 : Cond.fieldLink RX7 381 "CrossbarNet$Stage" "NO_CALL" "LCrossbarNet$Stage;" ∈ x_big := x_tb 561 (by decide +kernel) (by decide +kernel)
theorem wd_569 : Cond.fieldLink RX7 167 "CrossbarNet$Stage" "DIALLING" "LCrossbarNet$Stage;" ∈ x_big := x_tb 569 (by decide +kernel) (by decide +kernel)
theorem wd_570 : Cond.methodLink RX7 172 yX7_takeDigit ∈ x_big := x_tb 570 (by decide +kernel) (by decide +kernel)
theorem wd_572 : Cond.instanceMethod yX7_takeDigit ∈ x_big := x_tb 572 (by decide +kernel) (by decide +kernel)
theorem wd_573 : Cond.code yX7_takeDigit cX7_takeDigit 5 none ∈ x_big := x_tb 573 (by decide +kernel) (by decide +kernel)
theorem wd_574 : Cond.methodLink RX7 263 yX2_routeOf ∈ x_big := x_tb 574 (by decide +kernel) (by decide +kernel)
theorem wd_575 : Cond.methodLink RX7 266 yX2_canBecomePrefix ∈ x_big := x_tb 575 (by decide +kernel) (by decide +kernel)
theorem wd_576 : Cond.methodLink RX7 269 yX3_digitsBehind ∈ x_big := x_tb 576 (by decide +kernel) (by decide +kernel)
theorem wd_577 : Cond.instanceMethod yX3_digitsBehind ∈ x_big := x_tb 577 (by decide +kernel) (by decide +kernel)
theorem wd_578 : Cond.selects RX3 yX3_digitsBehind yX3_digitsBehind ∈ x_big := x_tb 578 (by decide +kernel) (by decide +kernel)
theorem wd_579 : Cond.code yX3_digitsBehind cX3_digitsBehind 2 (some .int) ∈ x_big := x_tb 579 (by decide +kernel) (by decide +kernel)
theorem wd_581 : Cond.static yX7_countDigits ∈ x_big := x_tb 581 (by decide +kernel) (by decide +kernel)
theorem wd_582 : Cond.code yX7_countDigits cX7_countDigits 3 (some .int) ∈ x_big := x_tb 582 (by decide +kernel) (by decide +kernel)
theorem wd_583 : Cond.methodLink RX7 276 yX7_makeJob ∈ x_big := x_tb 583 (by decide +kernel) (by decide +kernel)
theorem wd_585 : Cond.instanceMethod yX7_makeJob ∈ x_big := x_tb 585 (by decide +kernel) (by decide +kernel)
theorem wd_586 : Cond.code yX7_makeJob cX7_makeJob 3 none ∈ x_big := x_tb 586 (by decide +kernel) (by decide +kernel)
theorem wd_587 : Cond.fieldLink RX7 280 "CrossbarNet$Stage" "JOB" "LCrossbarNet$Stage;" ∈ x_big := x_tb 587 (by decide +kernel) (by decide +kernel)
theorem wd_596 : Cond.methodLink RX7 176 yX7_doOldestJob ∈ x_big := x_tb 596 (by decide +kernel) (by decide +kernel)
theorem wd_598 : Cond.instanceMethod yX7_doOldestJob ∈ x_big := x_tb 598 (by decide +kernel) (by decide +kernel)
theorem wd_599 : Cond.code yX7_doOldestJob cX7_doOldestJob 5 none ∈ x_big := x_tb 599 (by decide +kernel) (by decide +kernel)
theorem wd_600 : Cond.methodLink RX7 283 yX3_lineBehind ∈ x_big := x_tb 600 (by decide +kernel) (by decide +kernel)
theorem wd_601 : Cond.instanceMethod yX3_lineBehind ∈ x_big := x_tb 601 (by decide +kernel) (by decide +kernel)
theorem wd_602 : Cond.selects RX3 yX3_lineBehind yX3_lineBehind ∈ x_big := x_tb 602 (by decide +kernel) (by decide +kernel)
theorem wd_603 : Cond.code yX3_lineBehind cX3_lineBehind 4 (some .int) ∈ x_big := x_tb 603 (by decide +kernel) (by decide +kernel)
theorem wd_604 : Cond.methodLink RX3 40 yX3_digitsBehind ∈ x_big := x_tb 604 (by decide +kernel) (by decide +kernel)
theorem wd_605 : Cond.methodLink RX7 286 yX7_callLine ∈ x_big := x_tb 605 (by decide +kernel) (by decide +kernel)
theorem wd_607 : Cond.instanceMethod yX7_callLine ∈ x_big := x_tb 607 (by decide +kernel) (by decide +kernel)
theorem wd_608 : Cond.code yX7_callLine cX7_callLine 6 none ∈ x_big := x_tb 608 (by decide +kernel) (by decide +kernel)
theorem wd_609 : Cond.methodLink RX7 293 yX2_huntFrom ∈ x_big := x_tb 609 (by decide +kernel) (by decide +kernel)
theorem wd_610 : Cond.instanceMethod yX2_huntFrom ∈ x_big := x_tb 610 (by decide +kernel) (by decide +kernel)
theorem wd_611 : Cond.selects RX2 yX2_huntFrom yX2_huntFrom ∈ x_big := x_tb 611 (by decide +kernel) (by decide +kernel)
theorem wd_612 : Cond.code yX2_huntFrom cX2_huntFrom 3 (some .int) ∈ x_big := x_tb 612 (by decide +kernel) (by decide +kernel)
theorem wd_613 : Cond.methodLink RX2 73 yX4_at ∈ x_big := x_tb 613 (by decide +kernel) (by decide +kernel)
theorem wd_614 : Cond.methodLink RX2 77 yX2_firstFree ∈ x_big := x_tb 614 (by decide +kernel) (by decide +kernel)
theorem wd_616 : Cond.instanceMethod yX2_firstFree ∈ x_big := x_tb 616 (by decide +kernel) (by decide +kernel)
theorem wd_617 : Cond.code yX2_firstFree cX2_firstFree 5 (some .int) ∈ x_big := x_tb 617 (by decide +kernel) (by decide +kernel)
theorem wd_618 : Cond.methodLink RX2 81 yX4_size ∈ x_big := x_tb 618 (by decide +kernel) (by decide +kernel)
theorem wd_620 : Cond.methodLink RX2 88 yX1_isFree ∈ x_big := x_tb 620 (by decide +kernel) (by decide +kernel)
theorem wd_621 : Cond.instanceMethod yX1_isFree ∈ x_big := x_tb 621 (by decide +kernel) (by decide +kernel)
theorem wd_622 : Cond.selects RX1 yX1_isFree yX1_isFree ∈ x_big := x_tb 622 (by decide +kernel) (by decide +kernel)
theorem wd_623 : Cond.code yX1_isFree cX1_isFree 1 (some .boolean) ∈ x_big := x_tb 623 (by decide +kernel) (by decide +kernel)
theorem wd_624 : Cond.methodLink RX7 296 yX1_isFree ∈ x_big := x_tb 624 (by decide +kernel) (by decide +kernel)
theorem wd_625 : Cond.methodLink RX7 303 yX7_seizeWayWithin ∈ x_big := x_tb 625 (by decide +kernel) (by decide +kernel)
theorem wd_627 : Cond.instanceMethod yX7_seizeWayWithin ∈ x_big := x_tb 627 (by decide +kernel) (by decide +kernel)
theorem wd_628 : Cond.code yX7_seizeWayWithin cX7_seizeWayWithin 8 (some .boolean) ∈ x_big := x_tb 628 (by decide +kernel) (by decide +kernel)
theorem wd_629 : Cond.methodLink RX7 307 yX2_idleLink ∈ x_big := x_tb 629 (by decide +kernel) (by decide +kernel)
theorem wd_630 : Cond.instanceMethod yX2_idleLink ∈ x_big := x_tb 630 (by decide +kernel) (by decide +kernel)
theorem wd_631 : Cond.selects RX2 yX2_idleLink yX2_idleLink ∈ x_big := x_tb 631 (by decide +kernel) (by decide +kernel)
theorem wd_632 : Cond.code yX2_idleLink cX2_idleLink 6 (some .int) ∈ x_big := x_tb 632 (by decide +kernel) (by decide +kernel)
theorem wd_633 : Cond.methodLink RX2 92 yX1_firstLink ∈ x_big := x_tb 633 (by decide +kernel) (by decide +kernel)
theorem wd_634 : Cond.instanceMethod yX1_firstLink ∈ x_big := x_tb 634 (by decide +kernel) (by decide +kernel)
theorem wd_635 : Cond.selects RX1 yX1_firstLink yX1_firstLink ∈ x_big := x_tb 635 (by decide +kernel) (by decide +kernel)
theorem wd_636 : Cond.code yX1_firstLink cX1_firstLink 1 (some .int) ∈ x_big := x_tb 636 (by decide +kernel) (by decide +kernel)
theorem wd_637 : Cond.methodLink RX7 311 yX7_seizeLink ∈ x_big := x_tb 637 (by decide +kernel) (by decide +kernel)
theorem wd_639 : Cond.instanceMethod yX7_seizeLink ∈ x_big := x_tb 639 (by decide +kernel) (by decide +kernel)
theorem wd_640 : Cond.code yX7_seizeLink cX7_seizeLink 4 (some .boolean) ∈ x_big := x_tb 640 (by decide +kernel) (by decide +kernel)
theorem wd_641 : Cond.methodLink RX7 315 yX7_release ∈ x_big := x_tb 641 (by decide +kernel) (by decide +kernel)
theorem wd_643 : Cond.instanceMethod yX7_release ∈ x_big := x_tb 643 (by decide +kernel) (by decide +kernel)
theorem wd_644 : Cond.code yX7_release cX7_release 3 none ∈ x_big := x_tb 644 (by decide +kernel) (by decide +kernel)
theorem wd_645 : Cond.methodLink RX7 289 yX7_sendOnward ∈ x_big := x_tb 645 (by decide +kernel) (by decide +kernel)
theorem wd_647 : Cond.instanceMethod yX7_sendOnward ∈ x_big := x_tb 647 (by decide +kernel) (by decide +kernel)
theorem wd_648 : Cond.code yX7_sendOnward cX7_sendOnward 6 none ∈ x_big := x_tb 648 (by decide +kernel) (by decide +kernel)
theorem wd_649 : Cond.methodLink RX7 321 yX0_hasBeenAt ∈ x_big := x_tb 649 (by decide +kernel) (by decide +kernel)
theorem wd_650 : Cond.instanceMethod yX0_hasBeenAt ∈ x_big := x_tb 650 (by decide +kernel) (by decide +kernel)
theorem wd_651 : Cond.selects RX0 yX0_hasBeenAt yX0_hasBeenAt ∈ x_big := x_tb 651 (by decide +kernel) (by decide +kernel)
theorem wd_652 : Cond.code yX0_hasBeenAt cX0_hasBeenAt 2 (some .boolean) ∈ x_big := x_tb 652 (by decide +kernel) (by decide +kernel)
theorem wd_653 : Cond.methodLink RX7 324 yX7_seizeOnward ∈ x_big := x_tb 653 (by decide +kernel) (by decide +kernel)
theorem wd_655 : Cond.instanceMethod yX7_seizeOnward ∈ x_big := x_tb 655 (by decide +kernel) (by decide +kernel)
theorem wd_656 : Cond.code yX7_seizeOnward cX7_seizeOnward 6 (some .boolean) ∈ x_big := x_tb 656 (by decide +kernel) (by decide +kernel)
theorem wd_657 : Cond.methodLink RX7 337 yX7_firstIdleTrunk ∈ x_big := x_tb 657 (by decide +kernel) (by decide +kernel)
theorem wd_659 : Cond.instanceMethod yX7_firstIdleTrunk ∈ x_big := x_tb 659 (by decide +kernel) (by decide +kernel)
theorem wd_660 : Cond.code yX7_firstIdleTrunk cX7_firstIdleTrunk 4 (some .int) ∈ x_big := x_tb 660 (by decide +kernel) (by decide +kernel)
theorem wd_661 : Cond.methodLink RX7 384 yX6_isReady ∈ x_big := x_tb 661 (by decide +kernel) (by decide +kernel)
theorem wd_662 : Cond.instanceMethod yX6_isReady ∈ x_big := x_tb 662 (by decide +kernel) (by decide +kernel)
theorem wd_663 : Cond.selects RX6 yX6_isReady yX6_isReady ∈ x_big := x_tb 663 (by decide +kernel) (by decide +kernel)
theorem wd_664 : Cond.code yX6_isReady cX6_isReady 1 (some .boolean) ∈ x_big := x_tb 664 (by decide +kernel) (by decide +kernel)
theorem wd_665 : Cond.methodLink RX7 387 yX6_endsAt ∈ x_big := x_tb 665 (by decide +kernel) (by decide +kernel)
theorem wd_666 : Cond.instanceMethod yX6_endsAt ∈ x_big := x_tb 666 (by decide +kernel) (by decide +kernel)
theorem wd_667 : Cond.selects RX6 yX6_endsAt yX6_endsAt ∈ x_big := x_tb 667 (by decide +kernel) (by decide +kernel)
theorem wd_668 : Cond.code yX6_endsAt cX6_endsAt 2 (some .boolean) ∈ x_big := x_tb 668 (by decide +kernel) (by decide +kernel)
theorem wd_669 : Cond.methodLink RX7 343 yX0_goTo ∈ x_big := x_tb 669 (by decide +kernel) (by decide +kernel)
theorem wd_670 : Cond.methodLink RX7 328 yX7_countDigits ∈ x_big := x_tb 670 (by decide +kernel) (by decide +kernel)
theorem wd_671 : Cond.fieldLink RX7 334 "CrossbarNet$Stage" "SENDING" "LCrossbarNet$Stage;" ∈ x_big := x_tb 671 (by decide +kernel) (by decide +kernel)
theorem wd_673 : Cond.methodLink RX7 180 yX7_sendDigits ∈ x_big := x_tb 673 (by decide +kernel) (by decide +kernel)
theorem wd_675 : Cond.instanceMethod yX7_sendDigits ∈ x_big := x_tb 675 (by decide +kernel) (by decide +kernel)
theorem wd_676 : Cond.code yX7_sendDigits cX7_sendDigits 4 none ∈ x_big := x_tb 676 (by decide +kernel) (by decide +kernel)
theorem wd_677 : Cond.methodLink RX7 349 yX7_sendDigit ∈ x_big := x_tb 677 (by decide +kernel) (by decide +kernel)
theorem wd_679 : Cond.instanceMethod yX7_sendDigit ∈ x_big := x_tb 679 (by decide +kernel) (by decide +kernel)
theorem wd_680 : Cond.code yX7_sendDigit cX7_sendDigit 2 none ∈ x_big := x_tb 680 (by decide +kernel) (by decide +kernel)
theorem wd_681 : Cond.methodLink RX7 183 yX7_letTimePass ∈ x_big := x_tb 681 (by decide +kernel) (by decide +kernel)
theorem wd_683 : Cond.instanceMethod yX7_letTimePass ∈ x_big := x_tb 683 (by decide +kernel) (by decide +kernel)
theorem wd_684 : Cond.code yX7_letTimePass cX7_letTimePass 3 none ∈ x_big := x_tb 684 (by decide +kernel) (by decide +kernel)
theorem wd_685 : Cond.methodLink RX7 355 yX7_waitForDigit ∈ x_big := x_tb 685 (by decide +kernel) (by decide +kernel)
theorem wd_687 : Cond.instanceMethod yX7_waitForDigit ∈ x_big := x_tb 687 (by decide +kernel) (by decide +kernel)
theorem wd_688 : Cond.code yX7_waitForDigit cX7_waitForDigit 2 none ∈ x_big := x_tb 688 (by decide +kernel) (by decide +kernel)
theorem wd_689 : Cond.methodLink RX7 358 yX7_spendTalkTick ∈ x_big := x_tb 689 (by decide +kernel) (by decide +kernel)
theorem wd_691 : Cond.instanceMethod yX7_spendTalkTick ∈ x_big := x_tb 691 (by decide +kernel) (by decide +kernel)
theorem wd_692 : Cond.code yX7_spendTalkTick cX7_spendTalkTick 3 none ∈ x_big := x_tb 692 (by decide +kernel) (by decide +kernel)
theorem wd_693 : Cond.methodLink RX7 204 yX0_calledIsLifted ∈ x_big := x_tb 693 (by decide +kernel) (by decide +kernel)
theorem wd_694 : Cond.instanceMethod yX0_calledIsLifted ∈ x_big := x_tb 694 (by decide +kernel) (by decide +kernel)
theorem wd_695 : Cond.selects RX0 yX0_calledIsLifted yX0_calledIsLifted ∈ x_big := x_tb 695 (by decide +kernel) (by decide +kernel)
theorem wd_696 : Cond.code yX0_calledIsLifted cX0_calledIsLifted 1 (some .boolean) ∈ x_big := x_tb 696 (by decide +kernel) (by decide +kernel)
theorem wd_697 : Cond.methodLink RX7 364 yX0_period ∈ x_big := x_tb 697 (by decide +kernel) (by decide +kernel)
theorem wd_698 : Cond.instanceMethod yX0_period ∈ x_big := x_tb 698 (by decide +kernel) (by decide +kernel)
theorem wd_699 : Cond.selects RX0 yX0_period yX0_period ∈ x_big := x_tb 699 (by decide +kernel) (by decide +kernel)
theorem wd_700 : Cond.code yX0_period cX0_period 1 (some .int) ∈ x_big := x_tb 700 (by decide +kernel) (by decide +kernel)
theorem wd_701 : Cond.methodLink RX7 186 yX7_giveRegisters ∈ x_big := x_tb 701 (by decide +kernel) (by decide +kernel)
theorem wd_703 : Cond.instanceMethod yX7_giveRegisters ∈ x_big := x_tb 703 (by decide +kernel) (by decide +kernel)
theorem wd_704 : Cond.code yX7_giveRegisters cX7_giveRegisters 5 none ∈ x_big := x_tb 704 (by decide +kernel) (by decide +kernel)
theorem wd_761 : Cond.methodLink RX7 221 yX2_countIdle ∈ x_big := x_tb 761 (by decide +kernel) (by decide +kernel)
theorem wd_762 : Cond.instanceMethod yX2_countIdle ∈ x_big := x_tb 762 (by decide +kernel) (by decide +kernel)
theorem wd_763 : Cond.selects RX2 yX2_countIdle yX2_countIdle ∈ x_big := x_tb 763 (by decide +kernel) (by decide +kernel)
theorem wd_764 : Cond.code yX2_countIdle cX2_countIdle 5 (some .int) ∈ x_big := x_tb 764 (by decide +kernel) (by decide +kernel)
theorem wd_765 : Cond.methodLink RX7 225 yX7_countIdleTrunks ∈ x_big := x_tb 765 (by decide +kernel) (by decide +kernel)
theorem wd_767 : Cond.instanceMethod yX7_countIdleTrunks ∈ x_big := x_tb 767 (by decide +kernel) (by decide +kernel)
theorem wd_768 : Cond.code yX7_countIdleTrunks cX7_countIdleTrunks 4 (some .int) ∈ x_big := x_tb 768 (by decide +kernel) (by decide +kernel)
theorem wd_781 : Cond.methodLink RX8 1 Lib.objectInit ∈ x_big := x_tb 781 (by decide +kernel) (by decide +kernel)
theorem wd_782 : Cond.fieldLink RX8 140 "CrossbarNetModel" "refusal" "I" ∈ x_big := x_tb 782 (by decide +kernel) (by decide +kernel)
theorem wd_783 : Cond.fieldLink RX8 170 "CrossbarNetModel" "now" "I" ∈ x_big := x_tb 783 (by decide +kernel) (by decide +kernel)
theorem wd_784 : Cond.fieldLink RX8 195 "CrossbarNetModel" "stamps" "I" ∈ x_big := x_tb 784 (by decide +kernel) (by decide +kernel)
theorem wd_785 : Cond.fieldLink RX8 7 "CrossbarNetModel" "isLifted" "[Z" ∈ x_big := x_tb 785 (by decide +kernel) (by decide +kernel)
theorem wd_786 : Cond.fieldLink RX8 13 "CrossbarNetModel" "tones" "[I" ∈ x_big := x_tb 786 (by decide +kernel) (by decide +kernel)
theorem wd_787 : Cond.fieldLink RX8 17 "CrossbarNetModel" "waits" "[I" ∈ x_big := x_tb 787 (by decide +kernel) (by decide +kernel)
theorem wd_788 : Cond.fieldLink RX8 20 "CrossbarNetModel" "meters" "[I" ∈ x_big := x_tb 788 (by decide +kernel) (by decide +kernel)
theorem wd_789 : Cond.fieldLink RX8 23 "CrossbarNetModel" "huntSizes" "[I" ∈ x_big := x_tb 789 (by decide +kernel) (by decide +kernel)
theorem wd_790 : Cond.fieldLink RX8 26 "CrossbarNetModel" "huntLines" "[I" ∈ x_big := x_tb 790 (by decide +kernel) (by decide +kernel)
theorem wd_791 : Cond.fieldLink RX8 29 "CrossbarNetModel" "calledBy" "[I" ∈ x_big := x_tb 791 (by decide +kernel) (by decide +kernel)
theorem wd_792 : Cond.fieldLink RX8 32 "CrossbarNetModel" "prefixes" "[I" ∈ x_big := x_tb 792 (by decide +kernel) (by decide +kernel)
theorem wd_793 : Cond.fieldLink RX8 35 "CrossbarNetModel" "prefixOf" "[I" ∈ x_big := x_tb 793 (by decide +kernel) (by decide +kernel)
theorem wd_794 : Cond.fieldLink RX8 38 "CrossbarNetModel" "units" "[I" ∈ x_big := x_tb 794 (by decide +kernel) (by decide +kernel)
theorem wd_795 : Cond.fieldLink RX8 41 "CrossbarNetModel" "periods" "[I" ∈ x_big := x_tb 795 (by decide +kernel) (by decide +kernel)
theorem wd_796 : Cond.fieldLink RX8 44 "CrossbarNetModel" "choices" "[I" ∈ x_big := x_tb 796 (by decide +kernel) (by decide +kernel)
theorem wd_797 : Cond.fieldLink RX8 47 "CrossbarNetModel" "isOwn" "[Z" ∈ x_big := x_tb 797 (by decide +kernel) (by decide +kernel)
theorem wd_798 : Cond.fieldLink RX8 50 "CrossbarNetModel" "choiceOf" "[I" ∈ x_big := x_tb 798 (by decide +kernel) (by decide +kernel)
theorem wd_799 : Cond.fieldLink RX8 53 "CrossbarNetModel" "links" "[I" ∈ x_big := x_tb 799 (by decide +kernel) (by decide +kernel)
theorem wd_800 : Cond.fieldLink RX8 56 "CrossbarNetModel" "junctors" "[I" ∈ x_big := x_tb 800 (by decide +kernel) (by decide +kernel)
theorem wd_801 : Cond.fieldLink RX8 59 "CrossbarNetModel" "registers" "[I" ∈ x_big := x_tb 801 (by decide +kernel) (by decide +kernel)
theorem wd_802 : Cond.fieldLink RX8 148 "CrossbarNetModel" "trunks" "I" ∈ x_big := x_tb 802 (by decide +kernel) (by decide +kernel)
theorem wd_803 : Cond.fieldLink RX8 62 "CrossbarNetModel" "trunkFrom" "[I" ∈ x_big := x_tb 803 (by decide +kernel) (by decide +kernel)
theorem wd_804 : Cond.fieldLink RX8 65 "CrossbarNetModel" "trunkTo" "[I" ∈ x_big := x_tb 804 (by decide +kernel) (by decide +kernel)
theorem wd_805 : Cond.fieldLink RX8 68 "CrossbarNetModel" "trunkOf" "[I" ∈ x_big := x_tb 805 (by decide +kernel) (by decide +kernel)
theorem wd_806 : Cond.fieldLink RX8 71 "CrossbarNetModel" "isOut" "[Z" ∈ x_big := x_tb 806 (by decide +kernel) (by decide +kernel)
theorem wd_807 : Cond.fieldLink RX8 74 "CrossbarNetModel" "rotors" "[I" ∈ x_big := x_tb 807 (by decide +kernel) (by decide +kernel)
theorem wd_808 : Cond.fieldLink RX8 77 "CrossbarNetModel" "overflows" "[I" ∈ x_big := x_tb 808 (by decide +kernel) (by decide +kernel)
theorem wd_809 : Cond.fieldLink RX8 80 "CrossbarNetModel" "jobs" "[I" ∈ x_big := x_tb 809 (by decide +kernel) (by decide +kernel)
theorem wd_810 : Cond.fieldLink RX8 83 "CrossbarNetModel" "jobOf" "[I" ∈ x_big := x_tb 810 (by decide +kernel) (by decide +kernel)
theorem wd_811 : Cond.fieldLink RX8 86 "CrossbarNetModel" "state" "[I" ∈ x_big := x_tb 811 (by decide +kernel) (by decide +kernel)
theorem wd_812 : Cond.fieldLink RX8 89 "CrossbarNetModel" "digits" "[I" ∈ x_big := x_tb 812 (by decide +kernel) (by decide +kernel)
theorem wd_813 : Cond.fieldLink RX8 92 "CrossbarNetModel" "digitOf" "[I" ∈ x_big := x_tb 813 (by decide +kernel) (by decide +kernel)
theorem wd_814 : Cond.fieldLink RX8 95 "CrossbarNetModel" "office" "[I" ∈ x_big := x_tb 814 (by decide +kernel) (by decide +kernel)
theorem wd_815 : Cond.fieldLink RX8 98 "CrossbarNetModel" "register" "[I" ∈ x_big := x_tb 815 (by decide +kernel) (by decide +kernel)
theorem wd_816 : Cond.fieldLink RX8 101 "CrossbarNetModel" "left" "[I" ∈ x_big := x_tb 816 (by decide +kernel) (by decide +kernel)
theorem wd_817 : Cond.fieldLink RX8 104 "CrossbarNetModel" "next" "[I" ∈ x_big := x_tb 817 (by decide +kernel) (by decide +kernel)
theorem wd_818 : Cond.fieldLink RX8 107 "CrossbarNetModel" "nextRegister" "[I" ∈ x_big := x_tb 818 (by decide +kernel) (by decide +kernel)
theorem wd_819 : Cond.fieldLink RX8 110 "CrossbarNetModel" "visited" "[I" ∈ x_big := x_tb 819 (by decide +kernel) (by decide +kernel)
theorem wd_820 : Cond.fieldLink RX8 113 "CrossbarNetModel" "waited" "[I" ∈ x_big := x_tb 820 (by decide +kernel) (by decide +kernel)
theorem wd_821 : Cond.fieldLink RX8 116 "CrossbarNetModel" "called" "[I" ∈ x_big := x_tb 821 (by decide +kernel) (by decide +kernel)
theorem wd_822 : Cond.fieldLink RX8 119 "CrossbarNetModel" "dialled" "[I" ∈ x_big := x_tb 822 (by decide +kernel) (by decide +kernel)
theorem wd_823 : Cond.fieldLink RX8 122 "CrossbarNetModel" "jobAt" "[I" ∈ x_big := x_tb 823 (by decide +kernel) (by decide +kernel)
theorem wd_824 : Cond.fieldLink RX8 125 "CrossbarNetModel" "isHeld" "[Z" ∈ x_big := x_tb 824 (by decide +kernel) (by decide +kernel)
theorem wd_825 : Cond.fieldLink RX8 128 "CrossbarNetModel" "talked" "[I" ∈ x_big := x_tb 825 (by decide +kernel) (by decide +kernel)
theorem wd_826 : Cond.fieldLink RX8 131 "CrossbarNetModel" "hung" "[I" ∈ x_big := x_tb 826 (by decide +kernel) (by decide +kernel)
theorem wd_827 : Cond.fieldLink RX8 134 "CrossbarNetModel" "things" "[I" ∈ x_big := x_tb 827 (by decide +kernel) (by decide +kernel)
theorem wd_828 : Cond.fieldLink RX8 137 "CrossbarNetModel" "thingOf" "[I" ∈ x_big := x_tb 828 (by decide +kernel) (by decide +kernel)
theorem wd_829 : Cond.fieldLink RX8 224 "CrossbarNetModel" "wayFirst" "I" ∈ x_big := x_tb 829 (by decide +kernel) (by decide +kernel)
theorem wd_830 : Cond.fieldLink RX8 227 "CrossbarNetModel" "waySecond" "I" ∈ x_big := x_tb 830 (by decide +kernel) (by decide +kernel)
theorem wd_930 : Cond.arrayClass Jvm.ClassFile.FieldType.boolean ∈ x_big := x_tb 930 (by decide +kernel) (by decide +kernel)
theorem wd_939 : Cond.methodLink RX8 144 yX8_isIn ∈ x_big := x_tb 939 (by decide +kernel) (by decide +kernel)
theorem wd_940 : Cond.static yX8_isIn ∈ x_big := x_tb 940 (by decide +kernel) (by decide +kernel)
theorem wd_941 : Cond.code yX8_isIn cX8_isIn 3 (some .boolean) ∈ x_big := x_tb 941 (by decide +kernel) (by decide +kernel)
theorem wd_942 : Cond.methodLink RX8 151 yX8_refused ∈ x_big := x_tb 942 (by decide +kernel) (by decide +kernel)
theorem wd_944 : Cond.instanceMethod yX8_refused ∈ x_big := x_tb 944 (by decide +kernel) (by decide +kernel)
theorem wd_945 : Cond.code yX8_refused cX8_refused 2 (some .boolean) ∈ x_big := x_tb 945 (by decide +kernel) (by decide +kernel)
theorem wd_950 : Cond.methodLink RX8 159 yX8_overlap ∈ x_big := x_tb 950 (by decide +kernel) (by decide +kernel)
theorem wd_951 : Cond.static yX8_overlap ∈ x_big := x_tb 951 (by decide +kernel) (by decide +kernel)
theorem wd_952 : Cond.code yX8_overlap cX8_overlap 4 (some .boolean) ∈ x_big := x_tb 952 (by decide +kernel) (by decide +kernel)
theorem wd_953 : Cond.methodLink RX8 155 yX8_sizeOf ∈ x_big := x_tb 953 (by decide +kernel) (by decide +kernel)
theorem wd_954 : Cond.static yX8_sizeOf ∈ x_big := x_tb 954 (by decide +kernel) (by decide +kernel)
theorem wd_955 : Cond.code yX8_sizeOf cX8_sizeOf 1 (some .int) ∈ x_big := x_tb 955 (by decide +kernel) (by decide +kernel)
theorem wd_960 : Cond.methodLink RX8 163 yX8_isLine ∈ x_big := x_tb 960 (by decide +kernel) (by decide +kernel)
theorem wd_961 : Cond.static yX8_isLine ∈ x_big := x_tb 961 (by decide +kernel) (by decide +kernel)
theorem wd_962 : Cond.code yX8_isLine cX8_isLine 2 (some .boolean) ∈ x_big := x_tb 962 (by decide +kernel) (by decide +kernel)
theorem wd_967 : Cond.methodLink RX8 183 yX8_idleRegister ∈ x_big := x_tb 967 (by decide +kernel) (by decide +kernel)
theorem wd_969 : Cond.instanceMethod yX8_idleRegister ∈ x_big := x_tb 969 (by decide +kernel) (by decide +kernel)
theorem wd_970 : Cond.code yX8_idleRegister cX8_idleRegister 4 (some .int) ∈ x_big := x_tb 970 (by decide +kernel) (by decide +kernel)
theorem wd_971 : Cond.methodLink RX8 189 yX8_doesWait ∈ x_big := x_tb 971 (by decide +kernel) (by decide +kernel)
theorem wd_973 : Cond.instanceMethod yX8_doesWait ∈ x_big := x_tb 973 (by decide +kernel) (by decide +kernel)
theorem wd_974 : Cond.code yX8_doesWait cX8_doesWait 4 (some .boolean) ∈ x_big := x_tb 974 (by decide +kernel) (by decide +kernel)
theorem wd_975 : Cond.methodLink RX8 192 yX8_begin ∈ x_big := x_tb 975 (by decide +kernel) (by decide +kernel)
theorem wd_977 : Cond.instanceMethod yX8_begin ∈ x_big := x_tb 977 (by decide +kernel) (by decide +kernel)
theorem wd_978 : Cond.code yX8_begin cX8_begin 4 none ∈ x_big := x_tb 978 (by decide +kernel) (by decide +kernel)
theorem wd_979 : Cond.methodLink RX8 186 yX8_seize ∈ x_big := x_tb 979 (by decide +kernel) (by decide +kernel)
theorem wd_981 : Cond.instanceMethod yX8_seize ∈ x_big := x_tb 981 (by decide +kernel) (by decide +kernel)
theorem wd_982 : Cond.code yX8_seize cX8_seize 3 none ∈ x_big := x_tb 982 (by decide +kernel) (by decide +kernel)
theorem wd_983 : Cond.methodLink RX8 166 yX8_give ∈ x_big := x_tb 983 (by decide +kernel) (by decide +kernel)
theorem wd_985 : Cond.instanceMethod yX8_give ∈ x_big := x_tb 985 (by decide +kernel) (by decide +kernel)
theorem wd_986 : Cond.code yX8_give cX8_give 5 none ∈ x_big := x_tb 986 (by decide +kernel) (by decide +kernel)
theorem wd_991 : Cond.methodLink RX8 198 yX8_over ∈ x_big := x_tb 991 (by decide +kernel) (by decide +kernel)
theorem wd_993 : Cond.instanceMethod yX8_over ∈ x_big := x_tb 993 (by decide +kernel) (by decide +kernel)
theorem wd_994 : Cond.code yX8_over cX8_over 4 none ∈ x_big := x_tb 994 (by decide +kernel) (by decide +kernel)
theorem wd_995 : Cond.methodLink RX8 180 yX8_end ∈ x_big := x_tb 995 (by decide +kernel) (by decide +kernel)
theorem wd_997 : Cond.instanceMethod yX8_end ∈ x_big := x_tb 997 (by decide +kernel) (by decide +kernel)
theorem wd_998 : Cond.code yX8_end cX8_end 2 none ∈ x_big := x_tb 998 (by decide +kernel) (by decide +kernel)
theorem wd_999 : Cond.methodLink RX8 173 yX8_release ∈ x_big := x_tb 999 (by decide +kernel) (by decide +kernel)
theorem wd_1001 : Cond.instanceMethod yX8_release ∈ x_big := x_tb 1001 (by decide +kernel) (by decide +kernel)
theorem wd_1002 : Cond.code yX8_release cX8_release 5 none ∈ x_big := x_tb 1002 (by decide +kernel) (by decide +kernel)
theorem wd_1003 : Cond.methodLink RX8 176 yX8_dropJob ∈ x_big := x_tb 1003 (by decide +kernel) (by decide +kernel)
theorem wd_1005 : Cond.instanceMethod yX8_dropJob ∈ x_big := x_tb 1005 (by decide +kernel) (by decide +kernel)
theorem wd_1006 : Cond.code yX8_dropJob cX8_dropJob 5 none ∈ x_big := x_tb 1006 (by decide +kernel) (by decide +kernel)
theorem wd_1011 : Cond.methodLink RX8 204 yX8_prefixFor ∈ x_big := x_tb 1011 (by decide +kernel) (by decide +kernel)
theorem wd_1013 : Cond.instanceMethod yX8_prefixFor ∈ x_big := x_tb 1013 (by decide +kernel) (by decide +kernel)
theorem wd_1014 : Cond.code yX8_prefixFor cX8_prefixFor 5 (some .int) ∈ x_big := x_tb 1014 (by decide +kernel) (by decide +kernel)
theorem wd_1015 : Cond.methodLink RX8 201 yX8_fits ∈ x_big := x_tb 1015 (by decide +kernel) (by decide +kernel)
theorem wd_1017 : Cond.instanceMethod yX8_fits ∈ x_big := x_tb 1017 (by decide +kernel) (by decide +kernel)
theorem wd_1018 : Cond.code yX8_fits cX8_fits 7 (some .boolean) ∈ x_big := x_tb 1018 (by decide +kernel) (by decide +kernel)
theorem wd_1019 : Cond.methodLink RX8 208 yX8_mayBecome ∈ x_big := x_tb 1019 (by decide +kernel) (by decide +kernel)
theorem wd_1021 : Cond.instanceMethod yX8_mayBecome ∈ x_big := x_tb 1021 (by decide +kernel) (by decide +kernel)
theorem wd_1022 : Cond.code yX8_mayBecome cX8_mayBecome 4 (some .boolean) ∈ x_big := x_tb 1022 (by decide +kernel) (by decide +kernel)
theorem wd_1023 : Cond.methodLink RX8 211 yX8_fail ∈ x_big := x_tb 1023 (by decide +kernel) (by decide +kernel)
theorem wd_1025 : Cond.instanceMethod yX8_fail ∈ x_big := x_tb 1025 (by decide +kernel) (by decide +kernel)
theorem wd_1026 : Cond.code yX8_fail cX8_fail 3 none ∈ x_big := x_tb 1026 (by decide +kernel) (by decide +kernel)
theorem wd_1027 : Cond.methodLink RX8 214 yX8_addJob ∈ x_big := x_tb 1027 (by decide +kernel) (by decide +kernel)
theorem wd_1029 : Cond.instanceMethod yX8_addJob ∈ x_big := x_tb 1029 (by decide +kernel) (by decide +kernel)
theorem wd_1030 : Cond.code yX8_addJob cX8_addJob 3 none ∈ x_big := x_tb 1030 (by decide +kernel) (by decide +kernel)
theorem wd_1035 : Cond.methodLink RX8 261 yX8_one ∈ x_big := x_tb 1035 (by decide +kernel) (by decide +kernel)
theorem wd_1037 : Cond.instanceMethod yX8_one ∈ x_big := x_tb 1037 (by decide +kernel) (by decide +kernel)
theorem wd_1038 : Cond.code yX8_one cX8_one 2 none ∈ x_big := x_tb 1038 (by decide +kernel) (by decide +kernel)
theorem wd_1039 : Cond.methodLink RX8 249 yX8_doJob ∈ x_big := x_tb 1039 (by decide +kernel) (by decide +kernel)
theorem wd_1041 : Cond.instanceMethod yX8_doJob ∈ x_big := x_tb 1041 (by decide +kernel) (by decide +kernel)
theorem wd_1042 : Cond.code yX8_doJob cX8_doJob 5 none ∈ x_big := x_tb 1042 (by decide +kernel) (by decide +kernel)
theorem wd_1043 : Cond.methodLink RX8 242 yX8_complete ∈ x_big := x_tb 1043 (by decide +kernel) (by decide +kernel)
theorem wd_1045 : Cond.instanceMethod yX8_complete ∈ x_big := x_tb 1045 (by decide +kernel) (by decide +kernel)
theorem wd_1046 : Cond.code yX8_complete cX8_complete 7 none ∈ x_big := x_tb 1046 (by decide +kernel) (by decide +kernel)
theorem wd_1047 : Cond.methodLink RX8 230 yX8_hunted ∈ x_big := x_tb 1047 (by decide +kernel) (by decide +kernel)
theorem wd_1049 : Cond.instanceMethod yX8_hunted ∈ x_big := x_tb 1049 (by decide +kernel) (by decide +kernel)
theorem wd_1050 : Cond.code yX8_hunted cX8_hunted 5 (some .int) ∈ x_big := x_tb 1050 (by decide +kernel) (by decide +kernel)
theorem wd_1051 : Cond.methodLink RX8 217 yX8_isFree ∈ x_big := x_tb 1051 (by decide +kernel) (by decide +kernel)
theorem wd_1053 : Cond.instanceMethod yX8_isFree ∈ x_big := x_tb 1053 (by decide +kernel) (by decide +kernel)
theorem wd_1054 : Cond.code yX8_isFree cX8_isFree 2 (some .boolean) ∈ x_big := x_tb 1054 (by decide +kernel) (by decide +kernel)
theorem wd_1055 : Cond.methodLink RX8 233 yX8_idleJunctor ∈ x_big := x_tb 1055 (by decide +kernel) (by decide +kernel)
theorem wd_1057 : Cond.instanceMethod yX8_idleJunctor ∈ x_big := x_tb 1057 (by decide +kernel) (by decide +kernel)
theorem wd_1058 : Cond.code yX8_idleJunctor cX8_idleJunctor 4 (some .int) ∈ x_big := x_tb 1058 (by decide +kernel) (by decide +kernel)
theorem wd_1059 : Cond.methodLink RX8 236 yX8_findWay ∈ x_big := x_tb 1059 (by decide +kernel) (by decide +kernel)
theorem wd_1061 : Cond.instanceMethod yX8_findWay ∈ x_big := x_tb 1061 (by decide +kernel) (by decide +kernel)
theorem wd_1062 : Cond.code yX8_findWay cX8_findWay 10 (some .boolean) ∈ x_big := x_tb 1062 (by decide +kernel) (by decide +kernel)
theorem wd_1063 : Cond.methodLink RX8 220 yX8_link ∈ x_big := x_tb 1063 (by decide +kernel) (by decide +kernel)
theorem wd_1064 : Cond.static yX8_link ∈ x_big := x_tb 1064 (by decide +kernel) (by decide +kernel)
theorem wd_1065 : Cond.code yX8_link cX8_link 3 (some .int) ∈ x_big := x_tb 1065 (by decide +kernel) (by decide +kernel)
theorem wd_1066 : Cond.methodLink RX8 246 yX8_forward ∈ x_big := x_tb 1066 (by decide +kernel) (by decide +kernel)
theorem wd_1068 : Cond.instanceMethod yX8_forward ∈ x_big := x_tb 1068 (by decide +kernel) (by decide +kernel)
theorem wd_1069 : Cond.code yX8_forward cX8_forward 9 none ∈ x_big := x_tb 1069 (by decide +kernel) (by decide +kernel)
theorem wd_1070 : Cond.methodLink RX8 239 yX8_idleTrunk ∈ x_big := x_tb 1070 (by decide +kernel) (by decide +kernel)
theorem wd_1072 : Cond.instanceMethod yX8_idleTrunk ∈ x_big := x_tb 1072 (by decide +kernel) (by decide +kernel)
theorem wd_1073 : Cond.code yX8_idleTrunk cX8_idleTrunk 6 (some .int) ∈ x_big := x_tb 1073 (by decide +kernel) (by decide +kernel)
theorem wd_1074 : Cond.methodLink RX8 252 yX8_send ∈ x_big := x_tb 1074 (by decide +kernel) (by decide +kernel)
theorem wd_1076 : Cond.instanceMethod yX8_send ∈ x_big := x_tb 1076 (by decide +kernel) (by decide +kernel)
theorem wd_1077 : Cond.code yX8_send cX8_send 4 none ∈ x_big := x_tb 1077 (by decide +kernel) (by decide +kernel)
theorem wd_1078 : Cond.methodLink RX8 255 yX8_pass ∈ x_big := x_tb 1078 (by decide +kernel) (by decide +kernel)
theorem wd_1080 : Cond.instanceMethod yX8_pass ∈ x_big := x_tb 1080 (by decide +kernel) (by decide +kernel)
theorem wd_1081 : Cond.code yX8_pass cX8_pass 3 none ∈ x_big := x_tb 1081 (by decide +kernel) (by decide +kernel)
theorem wd_1082 : Cond.methodLink RX8 258 yX8_hand ∈ x_big := x_tb 1082 (by decide +kernel) (by decide +kernel)
theorem wd_1084 : Cond.instanceMethod yX8_hand ∈ x_big := x_tb 1084 (by decide +kernel) (by decide +kernel)
theorem wd_1085 : Cond.code yX8_hand cX8_hand 4 none ∈ x_big := x_tb 1085 (by decide +kernel) (by decide +kernel)
end
section
theorem x_okc {xm : Nat → xM} {M : xM} {pc nx : Nat} {f : xI} {r : List (Nat × xI)} (a : x_Snd xm M pc nx f) (b : x_okL xm M nx r) : x_okL xm M pc ((nx, f) :: r) := ⟨a, b⟩
theorem x_okn {xm : Nat → xM} {M : xM} {pc : Nat} : x_okL xm M pc [] := trivial
theorem o0_0 : x_okL x_xm xm_0 0 b0_0 := x_okc (snd_aload_n (k := 0) rfl (by decide +kernel)) (x_okc (snd_objinit wd_102 wd_76 wd_77 (Nat.le_of_ble_eq_true rfl) (Nat.le_of_ble_eq_true rfl) (by decide +kernel)) (x_okc (snd_aload_n (k := 0) rfl (by decide +kernel)) (x_okc (snd_iload_n (k := 1) rfl (by decide +kernel)) (x_okc (snd_newr (at9 := .int) ka_20 (by decide) rfl (Or.inl rfl) rfl rfl rfl wd_110 (by decide +kernel)) (x_okc (snd_pfr ko_5 (by decide) rfl (by decide) rfl wd_103 (Or.inr ⟨rfl, rfl, rfl⟩) (by decide +kernel)) (x_okc (snd_ret rfl (by decide +kernel)) x_okn))))))
theorem o0 : ∀ q ∈ t0, x_okL x_xm xm_0 q.1 q.2 := List.forall_mem_cons.mpr ⟨o0_0, fun _ h => absurd h List.not_mem_nil⟩
theorem p0 : x_okM xm_0 := ⟨by decide, rfl, fun _ => rfl⟩
theorem o1_0 : x_okL x_xm xm_1 0 b1_0 := x_okc (snd_aload_n (k := 0) rfl (by decide +kernel)) (x_okc (snd_objinit wd_181 wd_76 wd_77 (Nat.le_of_ble_eq_true rfl) (Nat.le_of_ble_eq_true rfl) (by decide +kernel)) (x_okc (snd_aload_n (k := 0) rfl (by decide +kernel)) (x_okc (snd_new ko_5 rfl rfl rfl wd_182 wd_98 wd_57 (by decide +kernel)) (x_okc (snd_dup (by decide +kernel)) (x_okc (snd_bipush (n := 8) (by decide) (by decide +kernel)) (x_okc (snd_calli (M' := xm_0) rfl rfl rfl rfl rfl rfl rfl wd_101 wd_183 wd_100 wd_57 (by decide +kernel) (Nat.le_of_ble_eq_true rfl) (Nat.le_of_ble_eq_true rfl) (by decide +kernel)) (x_okc (snd_pfr ko_1 (by decide) rfl (by decide) rfl wd_188 (Or.inr ⟨rfl, rfl, rfl⟩) (by decide +kernel)) (x_okc (snd_aload_n (k := 0) rfl (by decide +kernel)) (x_okc (snd_stage (by decide) (by decide) wd_184 (by decide +kernel)) (x_okc (snd_pfr ko_1 (by decide) rfl (by decide) rfl wd_190 (Or.inl rfl) (by decide +kernel)) (x_okc (snd_aload_n (k := 0) rfl (by decide +kernel)) (x_okc (snd_aload_n (k := 1) rfl (by decide +kernel)) (x_okc (snd_pfr ko_1 (by decide) rfl (by decide) rfl wd_186 (Or.inr ⟨rfl, rfl, rfl⟩) (by decide +kernel)) (x_okc (snd_ret rfl (by decide +kernel)) x_okn))))))))))))))
theorem o1 : ∀ q ∈ t1, x_okL x_xm xm_1 q.1 q.2 := List.forall_mem_cons.mpr ⟨o1_0, fun _ h => absurd h List.not_mem_nil⟩
theorem p1 : x_okM xm_1 := ⟨by decide, rfl, fun _ => rfl⟩
theorem o2_0 : x_okL x_xm xm_2 0 b2_0 := x_okc (snd_aload_n (k := 0) rfl (by decide +kernel)) (x_okc (snd_iload_n (k := 1) rfl (by decide +kernel)) (x_okc (snd_pfi ko_1 (by decide) rfl rfl wd_199 (Or.inl rfl) (by decide +kernel)) (x_okc (snd_aload_n (k := 0) rfl (by decide +kernel)) (x_okc (snd_dup (by decide +kernel)) (x_okc (snd_gfi ko_1 (by decide) rfl wd_201 (by decide +kernel)) (x_okc (snd_iconst (n := 1) (by decide) (by decide +kernel)) (x_okc (snd_iload_n (k := 1) rfl (by decide +kernel)) (x_okc (snd_ishl (by decide +kernel)) (x_okc (snd_ior (by decide +kernel)) (x_okc (snd_pfi ko_1 (by decide) rfl rfl wd_201 (Or.inl rfl) (by decide +kernel)) (x_okc (snd_ret rfl (by decide +kernel)) x_okn)))))))))))
theorem o2 : ∀ q ∈ t2, x_okL x_xm xm_2 q.1 q.2 := List.forall_mem_cons.mpr ⟨o2_0, fun _ h => absurd h List.not_mem_nil⟩
theorem p2 : x_okM xm_2 := ⟨by decide, rfl, fun h => by cases h⟩
theorem o3_0 : x_okL x_xm xm_3 0 b3_0 := x_okc (snd_aload_n (k := 0) rfl (by decide +kernel)) (x_okc (snd_stage (by decide) (by decide) wd_504 (by decide +kernel)) (x_okc (snd_pfr ko_1 (by decide) rfl (by decide) rfl wd_190 (Or.inl rfl) (by decide +kernel)) (x_okc (snd_aload_n (k := 0) rfl (by decide +kernel)) (x_okc (snd_null (by decide +kernel)) (x_okc (snd_pfr ko_1 (by decide) rfl (by decide) rfl wd_194 (Or.inl rfl) (by decide +kernel)) (x_okc (snd_aload_n (k := 0) rfl (by decide +kernel)) (x_okc (snd_iconst (n := 1) (by decide) (by decide +kernel)) (x_okc (snd_pfi ko_1 (by decide) rfl rfl wd_197 (Or.inl rfl) (by decide +kernel)) (x_okc (snd_aload_n (k := 0) rfl (by decide +kernel)) (x_okc (snd_iconst (n := 0) (by decide) (by decide +kernel)) (x_okc (snd_pfi ko_1 (by decide) rfl rfl wd_201 (Or.inl rfl) (by decide +kernel)) (x_okc (snd_aload_n (k := 0) rfl (by decide +kernel)) (x_okc (snd_aload_n (k := 0) rfl (by decide +kernel)) (x_okc (snd_gfr ko_1 (by decide) rfl (by decide) wd_186 (by decide +kernel)) (x_okc (snd_gfi ko_2 (by decide) rfl wd_117 (by decide +kernel)) (x_okc (snd_callv (M' := xm_2) rfl ko_1 rfl rfl rfl rfl wd_509 wd_506 wd_507 wd_59 wd_508 (by decide +kernel) (Nat.le_of_ble_eq_true rfl) (Nat.le_of_ble_eq_true rfl) (by decide +kernel)) (x_okc (snd_aload_n (k := 0) rfl (by decide +kernel)) (x_okc (snd_iload_n (k := 1) rfl (by decide +kernel)) (x_okc (snd_pfi ko_1 (by decide) rfl rfl wd_202 (Or.inl rfl) (by decide +kernel)) (x_okc (snd_aload_n (k := 0) rfl (by decide +kernel)) (x_okc (snd_iconst (n := 0) (by decide) (by decide +kernel)) (x_okc (snd_pfi ko_1 (by decide) rfl rfl wd_206 (Or.inl rfl) (by decide +kernel)) (x_okc (snd_ret rfl (by decide +kernel)) x_okn)))))))))))))))))))))))
theorem o3 : ∀ q ∈ t3, x_okL x_xm xm_3 q.1 q.2 := List.forall_mem_cons.mpr ⟨o3_0, fun _ h => absurd h List.not_mem_nil⟩
theorem p3 : x_okM xm_3 := ⟨by decide, rfl, fun h => by cases h⟩
theorem o4_0 : x_okL x_xm xm_4 0 b4_0 := x_okc (snd_aload_n (k := 0) rfl (by decide +kernel)) (x_okc (snd_gfi ko_1 (by decide) rfl wd_201 (by decide +kernel)) (x_okc (snd_iload_n (k := 1) rfl (by decide +kernel)) (x_okc (snd_ishr (by decide +kernel)) (x_okc (snd_iconst (n := 1) (by decide) (by decide +kernel)) (x_okc (snd_iand (by decide +kernel)) (x_okc (snd_if_eq (off := 7) (by decide) (by decide +kernel)) (x_okc (snd_iconst (n := 1) (by decide) (by decide +kernel)) (x_okc (snd_goto (off := 4) (by decide) (by decide +kernel)) x_okn))))))))
theorem o4_15 : x_okL x_xm xm_4 15 b4_15 := x_okc (snd_iconst (n := 0) (by decide) (by decide +kernel)) (x_okc (snd_to) x_okn)
theorem o4_16 : x_okL x_xm xm_4 16 b4_16 := x_okc (snd_zret rfl (by decide +kernel)) x_okn
theorem o4 : ∀ q ∈ t4, x_okL x_xm xm_4 q.1 q.2 := List.forall_mem_cons.mpr ⟨o4_0, List.forall_mem_cons.mpr ⟨o4_15, List.forall_mem_cons.mpr ⟨o4_16, fun _ h => absurd h List.not_mem_nil⟩⟩⟩
theorem p4 : x_okM xm_4 := ⟨by decide, rfl, fun h => by cases h⟩
theorem o5_0 : x_okL x_xm xm_5 0 b5_0 := x_okc (snd_aload_n (k := 0) rfl (by decide +kernel)) (x_okc (snd_gfr ko_1 (by decide) rfl (by decide) wd_192 (by decide +kernel)) (x_okc (snd_ifnull (off := 17) (by decide) (by decide +kernel)) (x_okc (snd_aload_n (k := 0) rfl (by decide +kernel)) (x_okc (snd_gfr ko_1 (by decide) rfl (by decide) wd_192 (by decide +kernel)) (x_okc (snd_gfi ko_2 (by decide) rfl wd_123 (by decide +kernel)) (x_okc (snd_if_eq (off := 7) (by decide) (by decide +kernel)) (x_okc (snd_iconst (n := 1) (by decide) (by decide +kernel)) (x_okc (snd_goto (off := 4) (by decide) (by decide +kernel)) x_okn))))))))
theorem o5_21 : x_okL x_xm xm_5 21 b5_21 := x_okc (snd_iconst (n := 0) (by decide) (by decide +kernel)) (x_okc (snd_to) x_okn)
theorem o5_22 : x_okL x_xm xm_5 22 b5_22 := x_okc (snd_zret rfl (by decide +kernel)) x_okn
theorem o5 : ∀ q ∈ t5, x_okL x_xm xm_5 q.1 q.2 := List.forall_mem_cons.mpr ⟨o5_0, List.forall_mem_cons.mpr ⟨o5_21, List.forall_mem_cons.mpr ⟨o5_22, fun _ h => absurd h List.not_mem_nil⟩⟩⟩
theorem p5 : x_okM xm_5 := ⟨by decide, rfl, fun h => by cases h⟩
theorem o6_0 : x_okL x_xm xm_6 0 b6_0 := x_okc (snd_aload_n (k := 0) rfl (by decide +kernel)) (x_okc (snd_gfr ko_1 (by decide) rfl (by decide) wd_194 (by decide +kernel)) (x_okc (snd_ifnonnull (off := 7) (by decide) (by decide +kernel)) (x_okc (snd_iconst (n := 0) (by decide) (by decide +kernel)) (x_okc (snd_goto (off := 10) (by decide) (by decide +kernel)) x_okn))))
theorem o6_11 : x_okL x_xm xm_6 11 b6_11 := x_okc (snd_aload_n (k := 0) rfl (by decide +kernel)) (x_okc (snd_gfr ko_1 (by decide) rfl (by decide) wd_194 (by decide +kernel)) (x_okc (snd_gfi ko_4 (by decide) rfl wd_419 (by decide +kernel)) (x_okc (snd_to) x_okn)))
theorem o6_18 : x_okL x_xm xm_6 18 b6_18 := x_okc (snd_iret rfl (by decide +kernel)) x_okn
theorem o6 : ∀ q ∈ t6, x_okL x_xm xm_6 q.1 q.2 := List.forall_mem_cons.mpr ⟨o6_0, List.forall_mem_cons.mpr ⟨o6_11, List.forall_mem_cons.mpr ⟨o6_18, fun _ h => absurd h List.not_mem_nil⟩⟩⟩
theorem p6 : x_okM xm_6 := ⟨by decide, rfl, fun h => by cases h⟩
theorem o7_0 : x_okL x_xm xm_7 0 b7_0 := x_okc (snd_aload_n (k := 0) rfl (by decide +kernel)) (x_okc (snd_gfr ko_1 (by decide) rfl (by decide) wd_194 (by decide +kernel)) (x_okc (snd_ifnonnull (off := 7) (by decide) (by decide +kernel)) (x_okc (snd_iconst (n := 0) (by decide) (by decide +kernel)) (x_okc (snd_goto (off := 10) (by decide) (by decide +kernel)) x_okn))))
theorem o7_11 : x_okL x_xm xm_7 11 b7_11 := x_okc (snd_aload_n (k := 0) rfl (by decide +kernel)) (x_okc (snd_gfr ko_1 (by decide) rfl (by decide) wd_194 (by decide +kernel)) (x_okc (snd_gfi ko_4 (by decide) rfl wd_421 (by decide +kernel)) (x_okc (snd_to) x_okn)))
theorem o7_18 : x_okL x_xm xm_7 18 b7_18 := x_okc (snd_iret rfl (by decide +kernel)) x_okn
theorem o7 : ∀ q ∈ t7, x_okL x_xm xm_7 q.1 q.2 := List.forall_mem_cons.mpr ⟨o7_0, List.forall_mem_cons.mpr ⟨o7_11, List.forall_mem_cons.mpr ⟨o7_18, fun _ h => absurd h List.not_mem_nil⟩⟩⟩
theorem p7 : x_okM xm_7 := ⟨by decide, rfl, fun h => by cases h⟩
theorem o8_0 : x_okL x_xm xm_8 0 b8_0 := x_okc (snd_aload_n (k := 0) rfl (by decide +kernel)) (x_okc (snd_objinit wd_115 wd_76 wd_77 (Nat.le_of_ble_eq_true rfl) (Nat.le_of_ble_eq_true rfl) (by decide +kernel)) (x_okc (snd_aload_n (k := 0) rfl (by decide +kernel)) (x_okc (snd_iconst (n := 0) (by decide) (by decide +kernel)) (x_okc (snd_pfi ko_2 (by decide) rfl rfl wd_124 (Or.inl rfl) (by decide +kernel)) (x_okc (snd_aload_n (k := 0) rfl (by decide +kernel)) (x_okc (snd_iload_n (k := 1) rfl (by decide +kernel)) (x_okc (snd_pfi ko_2 (by decide) rfl rfl wd_116 (Or.inr ⟨rfl, rfl, rfl⟩) (by decide +kernel)) (x_okc (snd_aload_n (k := 0) rfl (by decide +kernel)) (x_okc (snd_iload_n (k := 2) rfl (by decide +kernel)) (x_okc (snd_pfi ko_2 (by decide) rfl rfl wd_119 (Or.inr ⟨rfl, rfl, rfl⟩) (by decide +kernel)) (x_okc (snd_ret rfl (by decide +kernel)) x_okn)))))))))))
theorem o8 : ∀ q ∈ t8, x_okL x_xm xm_8 q.1 q.2 := List.forall_mem_cons.mpr ⟨o8_0, fun _ h => absurd h List.not_mem_nil⟩
theorem p8 : x_okM xm_8 := ⟨by decide, rfl, fun _ => rfl⟩
theorem o9_0 : x_okL x_xm xm_9 0 b9_0 := x_okc (snd_aload_n (k := 0) rfl (by decide +kernel)) (x_okc (snd_gfi ko_2 (by decide) rfl wd_116 (by decide +kernel)) (x_okc (snd_bipush (n := 24) (by decide) (by decide +kernel)) (x_okc (snd_imul (by decide +kernel)) (x_okc (snd_aload_n (k := 0) rfl (by decide +kernel)) (x_okc (snd_gfi ko_2 (by decide) rfl wd_119 (by decide +kernel)) (x_okc (snd_iadd (by decide +kernel)) (x_okc (snd_iret rfl (by decide +kernel)) x_okn)))))))
theorem o9 : ∀ q ∈ t9, x_okL x_xm xm_9 q.1 q.2 := List.forall_mem_cons.mpr ⟨o9_0, fun _ h => absurd h List.not_mem_nil⟩
theorem p9 : x_okM xm_9 := ⟨by decide, rfl, fun h => by cases h⟩
theorem o10_0 : x_okL x_xm xm_10 0 b10_0 := x_okc (snd_aload_n (k := 0) rfl (by decide +kernel)) (x_okc (snd_gfi ko_2 (by decide) rfl wd_119 (by decide +kernel)) (x_okc (snd_bipush (n := 8) (by decide) (by decide +kernel)) (x_okc (snd_idiv (by decide +kernel)) (x_okc (snd_iconst (n := 4) (by decide) (by decide +kernel)) (x_okc (snd_imul (by decide +kernel)) (x_okc (snd_iret rfl (by decide +kernel)) x_okn))))))
theorem o10 : ∀ q ∈ t10, x_okL x_xm xm_10 q.1 q.2 := List.forall_mem_cons.mpr ⟨o10_0, fun _ h => absurd h List.not_mem_nil⟩
theorem p10 : x_okM xm_10 := ⟨by decide, rfl, fun h => by cases h⟩
theorem o11_0 : x_okL x_xm xm_11 0 b11_0 := x_okc (snd_aload_n (k := 0) rfl (by decide +kernel)) (x_okc (snd_gfi ko_2 (by decide) rfl wd_121 (by decide +kernel)) (x_okc (snd_if_ne (off := 14) (by decide) (by decide +kernel)) (x_okc (snd_aload_n (k := 0) rfl (by decide +kernel)) (x_okc (snd_gfr ko_2 (by decide) rfl (by decide) wd_127 (by decide +kernel)) (x_okc (snd_ifnonnull (off := 7) (by decide) (by decide +kernel)) (x_okc (snd_iconst (n := 1) (by decide) (by decide +kernel)) (x_okc (snd_goto (off := 4) (by decide) (by decide +kernel)) x_okn)))))))
theorem o11_18 : x_okL x_xm xm_11 18 b11_18 := x_okc (snd_iconst (n := 0) (by decide) (by decide +kernel)) (x_okc (snd_to) x_okn)
theorem o11_19 : x_okL x_xm xm_11 19 b11_19 := x_okc (snd_zret rfl (by decide +kernel)) x_okn
theorem o11 : ∀ q ∈ t11, x_okL x_xm xm_11 q.1 q.2 := List.forall_mem_cons.mpr ⟨o11_0, List.forall_mem_cons.mpr ⟨o11_18, List.forall_mem_cons.mpr ⟨o11_19, fun _ h => absurd h List.not_mem_nil⟩⟩⟩
theorem p11 : x_okM xm_11 := ⟨by decide, rfl, fun h => by cases h⟩
theorem o12_0 : x_okL x_xm xm_12 0 b12_0 := x_okc (snd_aload_n (k := 0) rfl (by decide +kernel)) (x_okc (snd_null (by decide +kernel)) (x_okc (snd_pfr ko_2 (by decide) rfl (by decide) rfl wd_127 (Or.inl rfl) (by decide +kernel)) (x_okc (snd_aload_n (k := 0) rfl (by decide +kernel)) (x_okc (snd_aload_n (k := 0) rfl (by decide +kernel)) (x_okc (snd_gfi ko_2 (by decide) rfl wd_121 (by decide +kernel)) (x_okc (snd_if_eq (off := 7) (by decide) (by decide +kernel)) (x_okc (snd_iload_n (k := 1) rfl (by decide +kernel)) (x_okc (snd_goto (off := 4) (by decide) (by decide +kernel)) x_okn))))))))
theorem o12_17 : x_okL x_xm xm_12 17 b12_17 := x_okc (snd_iconst (n := 0) (by decide) (by decide +kernel)) (x_okc (snd_to) x_okn)
theorem o12_18 : x_okL x_xm xm_12 18 b12_18 := x_okc (snd_pfi ko_2 (by decide) rfl rfl wd_124 (Or.inl rfl) (by decide +kernel)) (x_okc (snd_ret rfl (by decide +kernel)) x_okn)
theorem o12 : ∀ q ∈ t12, x_okL x_xm xm_12 q.1 q.2 := List.forall_mem_cons.mpr ⟨o12_0, List.forall_mem_cons.mpr ⟨o12_17, List.forall_mem_cons.mpr ⟨o12_18, fun _ h => absurd h List.not_mem_nil⟩⟩⟩
theorem p12 : x_okM xm_12 := ⟨by decide, rfl, fun h => by cases h⟩
theorem o13_0 : x_okL x_xm xm_13 0 b13_0 := x_okc (snd_aload_n (k := 0) rfl (by decide +kernel)) (x_okc (snd_objinit wd_90 wd_76 wd_77 (Nat.le_of_ble_eq_true rfl) (Nat.le_of_ble_eq_true rfl) (by decide +kernel)) (x_okc (snd_aload_n (k := 0) rfl (by decide +kernel)) (x_okc (snd_bipush (n := 24) (by decide) (by decide +kernel)) (x_okc (snd_newq ka_16 (by decide) ko_2 rfl rfl rfl rfl wd_91 (by decide +kernel) (by decide +kernel)) (x_okc (snd_pfr ko_3 (by decide) rfl (by decide) rfl wd_144 (Or.inr ⟨rfl, rfl, rfl⟩) (by decide +kernel)) (x_okc (snd_aload_n (k := 0) rfl (by decide +kernel)) (x_okc (snd_bipush (n := 33) (by decide) (by decide +kernel)) (x_okc (snd_newq ka_17 (by decide) ko_1 rfl rfl rfl rfl wd_93 (by decide +kernel) (by decide +kernel)) (x_okc (snd_pfr ko_3 (by decide) rfl (by decide) rfl wd_146 (Or.inr ⟨rfl, rfl, rfl⟩) (by decide +kernel)) (x_okc (snd_aload_n (k := 0) rfl (by decide +kernel)) (x_okc (snd_bipush (n := 12) (by decide) (by decide +kernel)) (x_okc (snd_newq ka_18 (by decide) ko_4 rfl rfl rfl rfl wd_94 (by decide +kernel) (by decide +kernel)) (x_okc (snd_pfr ko_3 (by decide) rfl (by decide) rfl wd_148 (Or.inr ⟨rfl, rfl, rfl⟩) (by decide +kernel)) (x_okc (snd_aload_n (k := 0) rfl (by decide +kernel)) (x_okc (snd_iconst (n := 4) (by decide) (by decide +kernel)) (x_okc (snd_newq ka_19 (by decide) ko_5 rfl rfl rfl rfl wd_96 (by decide +kernel) (by decide +kernel)) (x_okc (snd_pfr ko_3 (by decide) rfl (by decide) rfl wd_149 (Or.inr ⟨rfl, rfl, rfl⟩) (by decide +kernel)) (x_okc (snd_aload_n (k := 0) rfl (by decide +kernel)) (x_okc (snd_new ko_5 rfl rfl rfl wd_96 wd_98 wd_57 (by decide +kernel)) (x_okc (snd_dup (by decide +kernel)) (x_okc (snd_bipush (n := 24) (by decide) (by decide +kernel)) (x_okc (snd_calli (M' := xm_0) rfl rfl rfl rfl rfl rfl rfl wd_101 wd_99 wd_100 wd_57 (by decide +kernel) (Nat.le_of_ble_eq_true rfl) (Nat.le_of_ble_eq_true rfl) (by decide +kernel)) (x_okc (snd_pfr ko_3 (by decide) rfl (by decide) rfl wd_151 (Or.inr ⟨rfl, rfl, rfl⟩) (by decide +kernel)) (x_okc (snd_aload_n (k := 0) rfl (by decide +kernel)) (x_okc (snd_new ko_5 rfl rfl rfl wd_96 wd_98 wd_57 (by decide +kernel)) (x_okc (snd_dup (by decide +kernel)) (x_okc (snd_iconst (n := 3) (by decide) (by decide +kernel)) (x_okc (snd_calli (M' := xm_0) rfl rfl rfl rfl rfl rfl rfl wd_101 wd_99 wd_100 wd_57 (by decide +kernel) (Nat.le_of_ble_eq_true rfl) (Nat.le_of_ble_eq_true rfl) (by decide +kernel)) (x_okc (snd_pfr ko_3 (by decide) rfl (by decide) rfl wd_153 (Or.inr ⟨rfl, rfl, rfl⟩) (by decide +kernel)) (x_okc (snd_aload_n (k := 0) rfl (by decide +kernel)) (x_okc (snd_iload_n (k := 1) rfl (by decide +kernel)) (x_okc (snd_pfi ko_3 (by decide) rfl rfl wd_142 (Or.inr ⟨rfl, rfl, rfl⟩) (by decide +kernel)) (x_okc (snd_iconst (n := 0) (by decide) (by decide +kernel)) (x_okc (snd_istore_n (k := 2) rfl (by decide +kernel)) (x_okc (snd_to) x_okn)))))))))))))))))))))))))))))))))))
theorem o13_71 : x_okL x_xm xm_13 71 b13_71 := x_okc (snd_iload_n (k := 2) rfl (by decide +kernel)) (x_okc (snd_bipush (n := 24) (by decide) (by decide +kernel)) (x_okc (snd_icmp_ge (off := 24) (by decide) (by decide +kernel)) (x_okc (snd_aload_n (k := 0) rfl (by decide +kernel)) (x_okc (snd_gfr ko_3 (by decide) rfl (by decide) wd_144 (by decide +kernel)) (x_okc (snd_iload_n (k := 2) rfl (by decide +kernel)) (x_okc (snd_new ko_2 rfl rfl rfl wd_91 wd_111 wd_58 (by decide +kernel)) (x_okc (snd_dup (by decide +kernel)) (x_okc (snd_iload_n (k := 1) rfl (by decide +kernel)) (x_okc (snd_iload_n (k := 2) rfl (by decide +kernel)) (x_okc (snd_calli (M' := xm_8) rfl rfl rfl rfl rfl rfl rfl wd_114 wd_112 wd_113 wd_58 (by decide +kernel) (Nat.le_of_ble_eq_true rfl) (Nat.le_of_ble_eq_true rfl) (by decide +kernel)) (x_okc (snd_aast ka_16 ko_2 rfl rfl (by decide) (by decide +kernel)) (x_okc (snd_iinc (n := 1) (by decide) (by decide +kernel)) (x_okc (snd_goto (off := -24) (by decide) (by decide +kernel)) x_okn)))))))))))))
theorem o13_98 : x_okL x_xm xm_13 98 b13_98 := x_okc (snd_iconst (n := 0) (by decide) (by decide +kernel)) (x_okc (snd_istore_n (k := 2) rfl (by decide +kernel)) (x_okc (snd_to) x_okn))
theorem o13_100 : x_okL x_xm xm_13 100 b13_100 := x_okc (snd_iload_n (k := 2) rfl (by decide +kernel)) (x_okc (snd_iconst (n := 4) (by decide) (by decide +kernel)) (x_okc (snd_icmp_ge (off := 24) (by decide) (by decide +kernel)) (x_okc (snd_aload_n (k := 0) rfl (by decide +kernel)) (x_okc (snd_gfr ko_3 (by decide) rfl (by decide) wd_149 (by decide +kernel)) (x_okc (snd_iload_n (k := 2) rfl (by decide +kernel)) (x_okc (snd_new ko_5 rfl rfl rfl wd_96 wd_98 wd_57 (by decide +kernel)) (x_okc (snd_dup (by decide +kernel)) (x_okc (snd_bipush (n := 6) (by decide) (by decide +kernel)) (x_okc (snd_calli (M' := xm_0) rfl rfl rfl rfl rfl rfl rfl wd_101 wd_99 wd_100 wd_57 (by decide +kernel) (Nat.le_of_ble_eq_true rfl) (Nat.le_of_ble_eq_true rfl) (by decide +kernel)) (x_okc (snd_aast ka_19 ko_5 rfl rfl (by decide) (by decide +kernel)) (x_okc (snd_iinc (n := 1) (by decide) (by decide +kernel)) (x_okc (snd_goto (off := -23) (by decide) (by decide +kernel)) x_okn))))))))))))
theorem o13_126 : x_okL x_xm xm_13 126 b13_126 := x_okc (snd_ret rfl (by decide +kernel)) x_okn
theorem o13 : ∀ q ∈ t13, x_okL x_xm xm_13 q.1 q.2 := List.forall_mem_cons.mpr ⟨o13_0, List.forall_mem_cons.mpr ⟨o13_71, List.forall_mem_cons.mpr ⟨o13_98, List.forall_mem_cons.mpr ⟨o13_100, List.forall_mem_cons.mpr ⟨o13_126, fun _ h => absurd h List.not_mem_nil⟩⟩⟩⟩⟩
theorem p13 : x_okM xm_13 := ⟨by decide, rfl, fun _ => rfl⟩
theorem o14_0 : x_okL x_xm xm_14 0 b14_0 := x_okc (snd_sipush (n := 1000) (by decide) (by decide +kernel)) (x_okc (snd_aload_n (k := 0) rfl (by decide +kernel)) (x_okc (snd_gfi ko_3 (by decide) rfl wd_142 (by decide +kernel)) (x_okc (snd_imul (by decide +kernel)) (x_okc (snd_iload_n (k := 1) rfl (by decide +kernel)) (x_okc (snd_iadd (by decide +kernel)) (x_okc (snd_iret rfl (by decide +kernel)) x_okn))))))
theorem o14 : ∀ q ∈ t14, x_okL x_xm xm_14 q.1 q.2 := List.forall_mem_cons.mpr ⟨o14_0, fun _ h => absurd h List.not_mem_nil⟩
theorem p14 : x_okM xm_14 := ⟨by decide, rfl, fun h => by cases h⟩
theorem o15_0 : x_okL x_xm xm_15 0 b15_0 := x_okc (snd_iconst (n := 0) (by decide) (by decide +kernel)) (x_okc (snd_istore_n (k := 2) rfl (by decide +kernel)) (x_okc (snd_to) x_okn))
theorem o15_2 : x_okL x_xm xm_15 2 b15_2 := x_okc (snd_iload_n (k := 2) rfl (by decide +kernel)) (x_okc (snd_aload_n (k := 0) rfl (by decide +kernel)) (x_okc (snd_gfi ko_3 (by decide) rfl wd_155 (by decide +kernel)) (x_okc (snd_icmp_ge (off := 29) (by decide) (by decide +kernel)) (x_okc (snd_aload_n (k := 0) rfl (by decide +kernel)) (x_okc (snd_gfr ko_3 (by decide) rfl (by decide) wd_148 (by decide +kernel)) (x_okc (snd_iload_n (k := 2) rfl (by decide +kernel)) (x_okc (snd_aald ka_18 rfl rfl (by decide) (by decide) (by decide +kernel)) (x_okc (snd_gfi ko_4 (by decide) rfl wd_413 (by decide +kernel)) (x_okc (snd_iload_n (k := 1) rfl (by decide +kernel)) (x_okc (snd_icmp_ne (off := 10) (by decide) (by decide +kernel)) (x_okc (snd_aload_n (k := 0) rfl (by decide +kernel)) (x_okc (snd_gfr ko_3 (by decide) rfl (by decide) wd_148 (by decide +kernel)) (x_okc (snd_iload_n (k := 2) rfl (by decide +kernel)) (x_okc (snd_aald ka_18 rfl rfl (by decide) (by decide) (by decide +kernel)) (x_okc (snd_aret rfl (Or.inl ⟨_, rfl⟩) (by decide +kernel)) x_okn)))))))))))))))
theorem o15_30 : x_okL x_xm xm_15 30 b15_30 := x_okc (snd_iinc (n := 1) (by decide) (by decide +kernel)) (x_okc (snd_goto (off := -31) (by decide) (by decide +kernel)) x_okn)
theorem o15_36 : x_okL x_xm xm_15 36 b15_36 := x_okc (snd_null (by decide +kernel)) (x_okc (snd_aret rfl (Or.inl ⟨_, rfl⟩) (by decide +kernel)) x_okn)
theorem o15 : ∀ q ∈ t15, x_okL x_xm xm_15 q.1 q.2 := List.forall_mem_cons.mpr ⟨o15_0, List.forall_mem_cons.mpr ⟨o15_2, List.forall_mem_cons.mpr ⟨o15_30, List.forall_mem_cons.mpr ⟨o15_36, fun _ h => absurd h List.not_mem_nil⟩⟩⟩⟩
theorem p15 : x_okM xm_15 := ⟨by decide, rfl, fun h => by cases h⟩
theorem o16_0 : x_okL x_xm xm_16 0 b16_0 := x_okc (snd_iload_n (k := 0) rfl (by decide +kernel)) (x_okc (snd_istore_n (k := 2) rfl (by decide +kernel)) (x_okc (snd_to) x_okn))
theorem o16_2 : x_okL x_xm xm_16 2 b16_2 := x_okc (snd_iload_n (k := 2) rfl (by decide +kernel)) (x_okc (snd_iload_n (k := 1) rfl (by decide +kernel)) (x_okc (snd_icmp_lt (off := 22) (by decide) (by decide +kernel)) (x_okc (snd_iload_n (k := 2) rfl (by decide +kernel)) (x_okc (snd_if_le (off := 18) (by decide) (by decide +kernel)) (x_okc (snd_iload_n (k := 2) rfl (by decide +kernel)) (x_okc (snd_iload_n (k := 1) rfl (by decide +kernel)) (x_okc (snd_icmp_ne (off := 5) (by decide) (by decide +kernel)) (x_okc (snd_iconst (n := 1) (by decide) (by decide +kernel)) (x_okc (snd_zret rfl (by decide +kernel)) x_okn)))))))))
theorem o16_18 : x_okL x_xm xm_16 18 b16_18 := x_okc (snd_iload_n (k := 2) rfl (by decide +kernel)) (x_okc (snd_bipush (n := 10) (by decide) (by decide +kernel)) (x_okc (snd_idiv (by decide +kernel)) (x_okc (snd_istore_n (k := 2) rfl (by decide +kernel)) (x_okc (snd_goto (off := -21) (by decide) (by decide +kernel)) x_okn))))
theorem o16_26 : x_okL x_xm xm_16 26 b16_26 := x_okc (snd_iconst (n := 0) (by decide) (by decide +kernel)) (x_okc (snd_zret rfl (by decide +kernel)) x_okn)
theorem o16 : ∀ q ∈ t16, x_okL x_xm xm_16 q.1 q.2 := List.forall_mem_cons.mpr ⟨o16_0, List.forall_mem_cons.mpr ⟨o16_2, List.forall_mem_cons.mpr ⟨o16_18, List.forall_mem_cons.mpr ⟨o16_26, fun _ h => absurd h List.not_mem_nil⟩⟩⟩⟩
theorem p16 : x_okM xm_16 := ⟨by decide, rfl, fun h => by cases h⟩
theorem o17_0 : x_okL x_xm xm_17 0 b17_0 := x_okc (snd_iconst (n := 0) (by decide) (by decide +kernel)) (x_okc (snd_istore_n (k := 2) rfl (by decide +kernel)) (x_okc (snd_to) x_okn))
theorem o17_2 : x_okL x_xm xm_17 2 b17_2 := x_okc (snd_iload_n (k := 2) rfl (by decide +kernel)) (x_okc (snd_aload_n (k := 0) rfl (by decide +kernel)) (x_okc (snd_gfi ko_3 (by decide) rfl wd_155 (by decide +kernel)) (x_okc (snd_icmp_ge (off := 32) (by decide) (by decide +kernel)) (x_okc (snd_iload_n (k := 1) rfl (by decide +kernel)) (x_okc (snd_aload_n (k := 0) rfl (by decide +kernel)) (x_okc (snd_gfr ko_3 (by decide) rfl (by decide) wd_148 (by decide +kernel)) (x_okc (snd_iload_n (k := 2) rfl (by decide +kernel)) (x_okc (snd_aald ka_18 rfl rfl (by decide) (by decide) (by decide +kernel)) (x_okc (snd_gfi ko_4 (by decide) rfl wd_413 (by decide +kernel)) (x_okc (snd_calln (M' := xm_16) (host := RX7) (idx := 66) rfl rfl rfl rfl rfl wd_399 (by decide +kernel) wd_398 wd_55 (by decide +kernel) (Nat.le_of_ble_eq_true rfl) (Nat.le_of_ble_eq_true rfl) (by decide +kernel)) (x_okc (snd_if_eq (off := 10) (by decide) (by decide +kernel)) (x_okc (snd_aload_n (k := 0) rfl (by decide +kernel)) (x_okc (snd_gfr ko_3 (by decide) rfl (by decide) wd_148 (by decide +kernel)) (x_okc (snd_iload_n (k := 2) rfl (by decide +kernel)) (x_okc (snd_aald ka_18 rfl rfl (by decide) (by decide) (by decide +kernel)) (x_okc (snd_aret rfl (Or.inl ⟨_, rfl⟩) (by decide +kernel)) x_okn))))))))))))))))
theorem o17_33 : x_okL x_xm xm_17 33 b17_33 := x_okc (snd_iinc (n := 1) (by decide) (by decide +kernel)) (x_okc (snd_goto (off := -34) (by decide) (by decide +kernel)) x_okn)
theorem o17_39 : x_okL x_xm xm_17 39 b17_39 := x_okc (snd_null (by decide +kernel)) (x_okc (snd_aret rfl (Or.inl ⟨_, rfl⟩) (by decide +kernel)) x_okn)
theorem o17 : ∀ q ∈ t17, x_okL x_xm xm_17 q.1 q.2 := List.forall_mem_cons.mpr ⟨o17_0, List.forall_mem_cons.mpr ⟨o17_2, List.forall_mem_cons.mpr ⟨o17_33, List.forall_mem_cons.mpr ⟨o17_39, fun _ h => absurd h List.not_mem_nil⟩⟩⟩⟩
theorem p17 : x_okM xm_17 := ⟨by decide, rfl, fun h => by cases h⟩
theorem o18_0 : x_okL x_xm xm_18 0 b18_0 := x_okc (snd_iconst (n := 0) (by decide) (by decide +kernel)) (x_okc (snd_istore_n (k := 2) rfl (by decide +kernel)) (x_okc (snd_to) x_okn))
theorem o18_2 : x_okL x_xm xm_18 2 b18_2 := x_okc (snd_iload_n (k := 2) rfl (by decide +kernel)) (x_okc (snd_aload_n (k := 0) rfl (by decide +kernel)) (x_okc (snd_gfi ko_3 (by decide) rfl wd_155 (by decide +kernel)) (x_okc (snd_icmp_ge (off := 27) (by decide) (by decide +kernel)) (x_okc (snd_aload_n (k := 0) rfl (by decide +kernel)) (x_okc (snd_gfr ko_3 (by decide) rfl (by decide) wd_148 (by decide +kernel)) (x_okc (snd_iload_n (k := 2) rfl (by decide +kernel)) (x_okc (snd_aald ka_18 rfl rfl (by decide) (by decide) (by decide +kernel)) (x_okc (snd_gfi ko_4 (by decide) rfl wd_413 (by decide +kernel)) (x_okc (snd_iload_n (k := 1) rfl (by decide +kernel)) (x_okc (snd_calln (M' := xm_16) (host := RX7) (idx := 66) rfl rfl rfl rfl rfl wd_399 (by decide +kernel) wd_398 wd_55 (by decide +kernel) (Nat.le_of_ble_eq_true rfl) (Nat.le_of_ble_eq_true rfl) (by decide +kernel)) (x_okc (snd_if_eq (off := 5) (by decide) (by decide +kernel)) (x_okc (snd_iconst (n := 1) (by decide) (by decide +kernel)) (x_okc (snd_zret rfl (by decide +kernel)) x_okn)))))))))))))
theorem o18_28 : x_okL x_xm xm_18 28 b18_28 := x_okc (snd_iinc (n := 1) (by decide) (by decide +kernel)) (x_okc (snd_goto (off := -29) (by decide) (by decide +kernel)) x_okn)
theorem o18_34 : x_okL x_xm xm_18 34 b18_34 := x_okc (snd_iconst (n := 0) (by decide) (by decide +kernel)) (x_okc (snd_zret rfl (by decide +kernel)) x_okn)
theorem o18 : ∀ q ∈ t18, x_okL x_xm xm_18 q.1 q.2 := List.forall_mem_cons.mpr ⟨o18_0, List.forall_mem_cons.mpr ⟨o18_2, List.forall_mem_cons.mpr ⟨o18_28, List.forall_mem_cons.mpr ⟨o18_34, fun _ h => absurd h List.not_mem_nil⟩⟩⟩⟩
theorem p18 : x_okM xm_18 := ⟨by decide, rfl, fun h => by cases h⟩
theorem o19_0 : x_okL x_xm xm_19 0 b19_0 := x_okc (snd_aload_n (k := 0) rfl (by decide +kernel)) (x_okc (snd_gfi ko_3 (by decide) rfl wd_155 (by decide +kernel)) (x_okc (snd_bipush (n := 12) (by decide) (by decide +kernel)) (x_okc (snd_icmp_ge (off := 23) (by decide) (by decide +kernel)) (x_okc (snd_aload_n (k := 0) rfl (by decide +kernel)) (x_okc (snd_iload_n (k := 1) rfl (by decide +kernel)) (x_okc (snd_callv (M' := xm_17) rfl ko_3 rfl rfl rfl rfl wd_396 wd_393 wd_394 wd_56 wd_395 (by decide +kernel) (Nat.le_of_ble_eq_true rfl) (Nat.le_of_ble_eq_true rfl) (by decide +kernel)) (x_okc (snd_ifnonnull (off := 15) (by decide) (by decide +kernel)) (x_okc (snd_aload_n (k := 0) rfl (by decide +kernel)) (x_okc (snd_iload_n (k := 1) rfl (by decide +kernel)) (x_okc (snd_callv (M' := xm_18) rfl ko_3 rfl rfl rfl rfl wd_403 wd_400 wd_401 wd_56 wd_402 (by decide +kernel) (Nat.le_of_ble_eq_true rfl) (Nat.le_of_ble_eq_true rfl) (by decide +kernel)) (x_okc (snd_if_ne (off := 7) (by decide) (by decide +kernel)) (x_okc (snd_iconst (n := 1) (by decide) (by decide +kernel)) (x_okc (snd_goto (off := 4) (by decide) (by decide +kernel)) x_okn)))))))))))))
theorem o19_29 : x_okL x_xm xm_19 29 b19_29 := x_okc (snd_iconst (n := 0) (by decide) (by decide +kernel)) (x_okc (snd_to) x_okn)
theorem o19_30 : x_okL x_xm xm_19 30 b19_30 := x_okc (snd_zret rfl (by decide +kernel)) x_okn
theorem o19 : ∀ q ∈ t19, x_okL x_xm xm_19 q.1 q.2 := List.forall_mem_cons.mpr ⟨o19_0, List.forall_mem_cons.mpr ⟨o19_29, List.forall_mem_cons.mpr ⟨o19_30, fun _ h => absurd h List.not_mem_nil⟩⟩⟩
theorem p19 : x_okM xm_19 := ⟨by decide, rfl, fun h => by cases h⟩
theorem o20_0 : x_okL x_xm xm_20 0 b20_0 := x_okc (snd_aload_n (k := 0) rfl (by decide +kernel)) (x_okc (snd_gfi ko_3 (by decide) rfl wd_155 (by decide +kernel)) (x_okc (snd_bipush (n := 12) (by decide) (by decide +kernel)) (x_okc (snd_icmp_ge (off := 23) (by decide) (by decide +kernel)) (x_okc (snd_aload_n (k := 0) rfl (by decide +kernel)) (x_okc (snd_gfr ko_3 (by decide) rfl (by decide) wd_148 (by decide +kernel)) (x_okc (snd_aload_n (k := 0) rfl (by decide +kernel)) (x_okc (snd_gfi ko_3 (by decide) rfl wd_155 (by decide +kernel)) (x_okc (snd_aload_n (k := 1) rfl (by decide +kernel)) (x_okc (snd_aast ka_18 ko_4 rfl rfl (by decide) (by decide +kernel)) (x_okc (snd_aload_n (k := 0) rfl (by decide +kernel)) (x_okc (snd_dup (by decide +kernel)) (x_okc (snd_gfi ko_3 (by decide) rfl wd_155 (by decide +kernel)) (x_okc (snd_iconst (n := 1) (by decide) (by decide +kernel)) (x_okc (snd_iadd (by decide +kernel)) (x_okc (snd_pfi ko_3 (by decide) rfl rfl wd_155 (Or.inl rfl) (by decide +kernel)) (x_okc (snd_to) x_okn))))))))))))))))
theorem o20_29 : x_okL x_xm xm_20 29 b20_29 := x_okc (snd_ret rfl (by decide +kernel)) x_okn
theorem o20 : ∀ q ∈ t20, x_okL x_xm xm_20 q.1 q.2 := List.forall_mem_cons.mpr ⟨o20_0, List.forall_mem_cons.mpr ⟨o20_29, fun _ h => absurd h List.not_mem_nil⟩⟩
theorem p20 : x_okM xm_20 := ⟨by decide, rfl, fun h => by cases h⟩
theorem o21_0 : x_okL x_xm xm_21 0 b21_0 := x_okc (snd_iconst (n := 0) (by decide) (by decide +kernel)) (x_okc (snd_istore_n (k := 2) rfl (by decide +kernel)) (x_okc (snd_to) x_okn))
theorem o21_2 : x_okL x_xm xm_21 2 b21_2 := x_okc (snd_iload_n (k := 2) rfl (by decide +kernel)) (x_okc (snd_aload_n (k := 0) rfl (by decide +kernel)) (x_okc (snd_gfi ko_5 (by decide) rfl wd_104 (by decide +kernel)) (x_okc (snd_icmp_ge (off := 21) (by decide) (by decide +kernel)) (x_okc (snd_aload_n (k := 0) rfl (by decide +kernel)) (x_okc (snd_gfr ko_5 (by decide) rfl (by decide) wd_103 (by decide +kernel)) (x_okc (snd_iload_n (k := 2) rfl (by decide +kernel)) (x_okc (snd_ald ka_20 rfl rfl (by decide) (by decide +kernel)) (x_okc (snd_iload_n (k := 1) rfl (by decide +kernel)) (x_okc (snd_icmp_ne (off := 5) (by decide) (by decide +kernel)) (x_okc (snd_iconst (n := 1) (by decide) (by decide +kernel)) (x_okc (snd_zret rfl (by decide +kernel)) x_okn)))))))))))
theorem o21_22 : x_okL x_xm xm_21 22 b21_22 := x_okc (snd_iinc (n := 1) (by decide) (by decide +kernel)) (x_okc (snd_goto (off := -23) (by decide) (by decide +kernel)) x_okn)
theorem o21_28 : x_okL x_xm xm_21 28 b21_28 := x_okc (snd_iconst (n := 0) (by decide) (by decide +kernel)) (x_okc (snd_zret rfl (by decide +kernel)) x_okn)
theorem o21 : ∀ q ∈ t21, x_okL x_xm xm_21 q.1 q.2 := List.forall_mem_cons.mpr ⟨o21_0, List.forall_mem_cons.mpr ⟨o21_2, List.forall_mem_cons.mpr ⟨o21_22, List.forall_mem_cons.mpr ⟨o21_28, fun _ h => absurd h List.not_mem_nil⟩⟩⟩⟩
theorem p21 : x_okM xm_21 := ⟨by decide, rfl, fun h => by cases h⟩
theorem o22_0 : x_okL x_xm xm_22 0 b22_0 := x_okc (snd_iconst (n := 0) (by decide) (by decide +kernel)) (x_okc (snd_istore_n (k := 2) rfl (by decide +kernel)) (x_okc (snd_to) x_okn))
theorem o22_2 : x_okL x_xm xm_22 2 b22_2 := x_okc (snd_iload_n (k := 2) rfl (by decide +kernel)) (x_okc (snd_iconst (n := 4) (by decide) (by decide +kernel)) (x_okc (snd_icmp_ge (off := 24) (by decide) (by decide +kernel)) (x_okc (snd_aload_n (k := 0) rfl (by decide +kernel)) (x_okc (snd_gfr ko_3 (by decide) rfl (by decide) wd_149 (by decide +kernel)) (x_okc (snd_iload_n (k := 2) rfl (by decide +kernel)) (x_okc (snd_aald ka_19 rfl rfl (by decide) (by decide) (by decide +kernel)) (x_okc (snd_iload_n (k := 1) rfl (by decide +kernel)) (x_okc (snd_callv (M' := xm_21) rfl ko_5 rfl rfl rfl rfl wd_448 wd_468 wd_446 wd_57 wd_447 (by decide +kernel) (Nat.le_of_ble_eq_true rfl) (Nat.le_of_ble_eq_true rfl) (by decide +kernel)) (x_okc (snd_if_eq (off := 5) (by decide) (by decide +kernel)) (x_okc (snd_iconst (n := 1) (by decide) (by decide +kernel)) (x_okc (snd_zret rfl (by decide +kernel)) x_okn)))))))))))
theorem o22_22 : x_okL x_xm xm_22 22 b22_22 := x_okc (snd_iinc (n := 1) (by decide) (by decide +kernel)) (x_okc (snd_goto (off := -23) (by decide) (by decide +kernel)) x_okn)
theorem o22_28 : x_okL x_xm xm_22 28 b22_28 := x_okc (snd_iconst (n := 0) (by decide) (by decide +kernel)) (x_okc (snd_zret rfl (by decide +kernel)) x_okn)
theorem o22 : ∀ q ∈ t22, x_okL x_xm xm_22 q.1 q.2 := List.forall_mem_cons.mpr ⟨o22_0, List.forall_mem_cons.mpr ⟨o22_2, List.forall_mem_cons.mpr ⟨o22_22, List.forall_mem_cons.mpr ⟨o22_28, fun _ h => absurd h List.not_mem_nil⟩⟩⟩⟩
theorem p22 : x_okM xm_22 := ⟨by decide, rfl, fun h => by cases h⟩
theorem o23_0 : x_okL x_xm xm_23 0 b23_0 := x_okc (snd_iload_n (k := 1) rfl (by decide +kernel)) (x_okc (snd_if_lt (off := 20) (by decide) (by decide +kernel)) (x_okc (snd_iload_n (k := 1) rfl (by decide +kernel)) (x_okc (snd_aload_n (k := 0) rfl (by decide +kernel)) (x_okc (snd_gfi ko_5 (by decide) rfl wd_104 (by decide +kernel)) (x_okc (snd_icmp_ge (off := 12) (by decide) (by decide +kernel)) (x_okc (snd_aload_n (k := 0) rfl (by decide +kernel)) (x_okc (snd_gfr ko_5 (by decide) rfl (by decide) wd_103 (by decide +kernel)) (x_okc (snd_iload_n (k := 1) rfl (by decide +kernel)) (x_okc (snd_ald ka_20 rfl rfl (by decide) (by decide +kernel)) (x_okc (snd_goto (off := 4) (by decide) (by decide +kernel)) x_okn))))))))))
theorem o23_21 : x_okL x_xm xm_23 21 b23_21 := x_okc (snd_iconst (n := -1) (by decide) (by decide +kernel)) (x_okc (snd_to) x_okn)
theorem o23_22 : x_okL x_xm xm_23 22 b23_22 := x_okc (snd_iret rfl (by decide +kernel)) x_okn
theorem o23 : ∀ q ∈ t23, x_okL x_xm xm_23 q.1 q.2 := List.forall_mem_cons.mpr ⟨o23_0, List.forall_mem_cons.mpr ⟨o23_21, List.forall_mem_cons.mpr ⟨o23_22, fun _ h => absurd h List.not_mem_nil⟩⟩⟩
theorem p23 : x_okM xm_23 := ⟨by decide, rfl, fun h => by cases h⟩
theorem o24_0 : x_okL x_xm xm_24 0 b24_0 := x_okc (snd_aload_n (k := 0) rfl (by decide +kernel)) (x_okc (snd_gfi ko_5 (by decide) rfl wd_104 (by decide +kernel)) (x_okc (snd_iret rfl (by decide +kernel)) x_okn))
theorem o24 : ∀ q ∈ t24, x_okL x_xm xm_24 q.1 q.2 := List.forall_mem_cons.mpr ⟨o24_0, fun _ h => absurd h List.not_mem_nil⟩
theorem p24 : x_okM xm_24 := ⟨by decide, rfl, fun h => by cases h⟩
theorem o25_0 : x_okL x_xm xm_25 0 b25_0 := x_okc (snd_iload_n (k := 0) rfl (by decide +kernel)) (x_okc (snd_iload_n (k := 1) rfl (by decide +kernel)) (x_okc (snd_icmp_lt (off := 12) (by decide) (by decide +kernel)) (x_okc (snd_iload_n (k := 0) rfl (by decide +kernel)) (x_okc (snd_iload_n (k := 2) rfl (by decide +kernel)) (x_okc (snd_icmp_gt (off := 7) (by decide) (by decide +kernel)) (x_okc (snd_iconst (n := 1) (by decide) (by decide +kernel)) (x_okc (snd_goto (off := 4) (by decide) (by decide +kernel)) x_okn)))))))
theorem o25_14 : x_okL x_xm xm_25 14 b25_14 := x_okc (snd_iconst (n := 0) (by decide) (by decide +kernel)) (x_okc (snd_to) x_okn)
theorem o25_15 : x_okL x_xm xm_25 15 b25_15 := x_okc (snd_zret rfl (by decide +kernel)) x_okn
theorem o25 : ∀ q ∈ t25, x_okL x_xm xm_25 q.1 q.2 := List.forall_mem_cons.mpr ⟨o25_0, List.forall_mem_cons.mpr ⟨o25_14, List.forall_mem_cons.mpr ⟨o25_15, fun _ h => absurd h List.not_mem_nil⟩⟩⟩
theorem p25 : x_okM xm_25 := ⟨by decide, rfl, fun h => by cases h⟩
theorem o26_0 : x_okL x_xm xm_26 0 b26_0 := x_okc (snd_iload_n (k := 0) rfl (by decide +kernel)) (x_okc (snd_iconst (n := 0) (by decide) (by decide +kernel)) (x_okc (snd_bipush (n := 23) (by decide) (by decide +kernel)) (x_okc (snd_calls (M' := xm_25) rfl rfl rfl rfl rfl wd_271 wd_269 wd_270 wd_55 (by decide +kernel) (Nat.le_of_ble_eq_true rfl) (Nat.le_of_ble_eq_true rfl) (by decide +kernel)) (x_okc (snd_zret rfl (by decide +kernel)) x_okn))))
theorem o26 : ∀ q ∈ t26, x_okL x_xm xm_26 q.1 q.2 := List.forall_mem_cons.mpr ⟨o26_0, fun _ h => absurd h List.not_mem_nil⟩
theorem p26 : x_okM xm_26 := ⟨by decide, rfl, fun h => by cases h⟩
theorem o27_0 : x_okL x_xm xm_27 0 b27_0 := x_okc (snd_iconst (n := 0) (by decide) (by decide +kernel)) (x_okc (snd_istore_n (k := 3) rfl (by decide +kernel)) (x_okc (snd_to) x_okn))
theorem o27_2 : x_okL x_xm xm_27 2 b27_2 := x_okc (snd_iload_n (k := 3) rfl (by decide +kernel)) (x_okc (snd_aload_n (k := 1) rfl (by decide +kernel)) (x_okc (snd_callv (M' := xm_24) rfl ko_5 rfl rfl rfl rfl wd_444 wd_618 wd_442 wd_57 wd_443 (by decide +kernel) (Nat.le_of_ble_eq_true rfl) (Nat.le_of_ble_eq_true rfl) (by decide +kernel)) (x_okc (snd_icmp_ge (off := 40) (by decide) (by decide +kernel)) (x_okc (snd_aload_n (k := 1) rfl (by decide +kernel)) (x_okc (snd_iload_n (k := 3) rfl (by decide +kernel)) (x_okc (snd_callv (M' := xm_23) rfl ko_5 rfl rfl rfl rfl wd_552 wd_613 wd_550 wd_57 wd_551 (by decide +kernel) (Nat.le_of_ble_eq_true rfl) (Nat.le_of_ble_eq_true rfl) (by decide +kernel)) (x_okc (snd_istore (by decide +kernel)) (x_okc (snd_iload (by decide +kernel)) (x_okc (snd_calln (M' := xm_26) (host := RX7) (idx := 85) rfl rfl rfl rfl rfl wd_463 (by decide +kernel) wd_462 wd_55 (by decide +kernel) (Nat.le_of_ble_eq_true rfl) (Nat.le_of_ble_eq_true rfl) (by decide +kernel)) (x_okc (snd_if_eq (off := 19) (by decide) (by decide +kernel)) (x_okc (snd_aload_n (k := 0) rfl (by decide +kernel)) (x_okc (snd_gfr ko_3 (by decide) rfl (by decide) wd_144 (by decide +kernel)) (x_okc (snd_iload (by decide +kernel)) (x_okc (snd_aald ka_16 rfl rfl (by decide) (by decide) (by decide +kernel)) (x_okc (snd_callv (M' := xm_11) rfl ko_2 rfl rfl rfl rfl wd_623 wd_620 wd_621 wd_58 wd_622 (by decide +kernel) (Nat.le_of_ble_eq_true rfl) (Nat.le_of_ble_eq_true rfl) (by decide +kernel)) (x_okc (snd_if_eq (off := 6) (by decide) (by decide +kernel)) (x_okc (snd_iload (by decide +kernel)) (x_okc (snd_iret rfl (by decide +kernel)) x_okn))))))))))))))))))
theorem o27_41 : x_okL x_xm xm_27 41 b27_41 := x_okc (snd_iinc (n := 1) (by decide) (by decide +kernel)) (x_okc (snd_goto (off := -42) (by decide) (by decide +kernel)) x_okn)
theorem o27_47 : x_okL x_xm xm_27 47 b27_47 := x_okc (snd_iload_n (k := 2) rfl (by decide +kernel)) (x_okc (snd_iret rfl (by decide +kernel)) x_okn)
theorem o27 : ∀ q ∈ t27, x_okL x_xm xm_27 q.1 q.2 := List.forall_mem_cons.mpr ⟨o27_0, List.forall_mem_cons.mpr ⟨o27_2, List.forall_mem_cons.mpr ⟨o27_41, List.forall_mem_cons.mpr ⟨o27_47, fun _ h => absurd h List.not_mem_nil⟩⟩⟩⟩
theorem p27 : x_okM xm_27 := ⟨by decide, rfl, fun h => by cases h⟩
theorem o28_0 : x_okL x_xm xm_28 0 b28_0 := x_okc (snd_iconst (n := 0) (by decide) (by decide +kernel)) (x_okc (snd_istore_n (k := 2) rfl (by decide +kernel)) (x_okc (snd_to) x_okn))
theorem o28_2 : x_okL x_xm xm_28 2 b28_2 := x_okc (snd_iload_n (k := 2) rfl (by decide +kernel)) (x_okc (snd_iconst (n := 4) (by decide) (by decide +kernel)) (x_okc (snd_icmp_ge (off := 35) (by decide) (by decide +kernel)) (x_okc (snd_aload_n (k := 0) rfl (by decide +kernel)) (x_okc (snd_gfr ko_3 (by decide) rfl (by decide) wd_149 (by decide +kernel)) (x_okc (snd_iload_n (k := 2) rfl (by decide +kernel)) (x_okc (snd_aald ka_19 rfl rfl (by decide) (by decide) (by decide +kernel)) (x_okc (snd_iconst (n := 0) (by decide) (by decide +kernel)) (x_okc (snd_callv (M' := xm_23) rfl ko_5 rfl rfl rfl rfl wd_552 wd_613 wd_550 wd_57 wd_551 (by decide +kernel) (Nat.le_of_ble_eq_true rfl) (Nat.le_of_ble_eq_true rfl) (by decide +kernel)) (x_okc (snd_iload_n (k := 1) rfl (by decide +kernel)) (x_okc (snd_icmp_ne (off := 15) (by decide) (by decide +kernel)) (x_okc (snd_aload_n (k := 0) rfl (by decide +kernel)) (x_okc (snd_aload_n (k := 0) rfl (by decide +kernel)) (x_okc (snd_gfr ko_3 (by decide) rfl (by decide) wd_149 (by decide +kernel)) (x_okc (snd_iload_n (k := 2) rfl (by decide +kernel)) (x_okc (snd_aald ka_19 rfl rfl (by decide) (by decide) (by decide +kernel)) (x_okc (snd_iload_n (k := 1) rfl (by decide +kernel)) (x_okc (snd_callv (M' := xm_27) rfl ko_3 rfl rfl rfl rfl wd_617 wd_614 wd_616 wd_56 wd_13 (by decide +kernel) (Nat.le_of_ble_eq_true rfl) (Nat.le_of_ble_eq_true rfl) (by decide +kernel)) (x_okc (snd_iret rfl (by decide +kernel)) x_okn))))))))))))))))))
theorem o28_33 : x_okL x_xm xm_28 33 b28_33 := x_okc (snd_iinc (n := 1) (by decide) (by decide +kernel)) (x_okc (snd_goto (off := -34) (by decide) (by decide +kernel)) x_okn)
theorem o28_39 : x_okL x_xm xm_28 39 b28_39 := x_okc (snd_iload_n (k := 1) rfl (by decide +kernel)) (x_okc (snd_iret rfl (by decide +kernel)) x_okn)
theorem o28 : ∀ q ∈ t28, x_okL x_xm xm_28 q.1 q.2 := List.forall_mem_cons.mpr ⟨o28_0, List.forall_mem_cons.mpr ⟨o28_2, List.forall_mem_cons.mpr ⟨o28_33, List.forall_mem_cons.mpr ⟨o28_39, fun _ h => absurd h List.not_mem_nil⟩⟩⟩⟩
theorem p28 : x_okM xm_28 := ⟨by decide, rfl, fun h => by cases h⟩
theorem o29_0 : x_okL x_xm xm_29 0 b29_0 := x_okc (snd_iload_n (k := 1) rfl (by decide +kernel)) (x_okc (snd_istore_n (k := 3) rfl (by decide +kernel)) (x_okc (snd_to) x_okn))
theorem o29_2 : x_okL x_xm xm_29 2 b29_2 := x_okc (snd_iload_n (k := 3) rfl (by decide +kernel)) (x_okc (snd_iload_n (k := 2) rfl (by decide +kernel)) (x_okc (snd_icmp_ge (off := 20) (by decide) (by decide +kernel)) (x_okc (snd_aload_n (k := 0) rfl (by decide +kernel)) (x_okc (snd_gfr ko_3 (by decide) rfl (by decide) wd_146 (by decide +kernel)) (x_okc (snd_iload_n (k := 3) rfl (by decide +kernel)) (x_okc (snd_aald ka_17 rfl rfl (by decide) (by decide) (by decide +kernel)) (x_okc (snd_ifnonnull (off := 5) (by decide) (by decide +kernel)) (x_okc (snd_iload_n (k := 3) rfl (by decide +kernel)) (x_okc (snd_iret rfl (by decide +kernel)) x_okn)))))))))
theorem o29_18 : x_okL x_xm xm_29 18 b29_18 := x_okc (snd_iinc (n := 1) (by decide) (by decide +kernel)) (x_okc (snd_goto (off := -19) (by decide) (by decide +kernel)) x_okn)
theorem o29_24 : x_okL x_xm xm_29 24 b29_24 := x_okc (snd_iconst (n := -1) (by decide) (by decide +kernel)) (x_okc (snd_iret rfl (by decide +kernel)) x_okn)
theorem o29 : ∀ q ∈ t29, x_okL x_xm xm_29 q.1 q.2 := List.forall_mem_cons.mpr ⟨o29_0, List.forall_mem_cons.mpr ⟨o29_2, List.forall_mem_cons.mpr ⟨o29_18, List.forall_mem_cons.mpr ⟨o29_24, fun _ h => absurd h List.not_mem_nil⟩⟩⟩⟩
theorem p29 : x_okM xm_29 := ⟨by decide, rfl, fun h => by cases h⟩
theorem o30_0 : x_okL x_xm xm_30 0 b30_0 := x_okc (snd_iconst (n := 0) (by decide) (by decide +kernel)) (x_okc (snd_istore_n (k := 3) rfl (by decide +kernel)) (x_okc (snd_iload_n (k := 1) rfl (by decide +kernel)) (x_okc (snd_istore (by decide +kernel)) (x_okc (snd_to) x_okn))))
theorem o30_5 : x_okL x_xm xm_30 5 b30_5 := x_okc (snd_iload (by decide +kernel)) (x_okc (snd_iload_n (k := 2) rfl (by decide +kernel)) (x_okc (snd_icmp_ge (off := 22) (by decide) (by decide +kernel)) (x_okc (snd_aload_n (k := 0) rfl (by decide +kernel)) (x_okc (snd_gfr ko_3 (by decide) rfl (by decide) wd_146 (by decide +kernel)) (x_okc (snd_iload (by decide +kernel)) (x_okc (snd_aald ka_17 rfl rfl (by decide) (by decide) (by decide +kernel)) (x_okc (snd_ifnonnull (off := 6) (by decide) (by decide +kernel)) (x_okc (snd_iinc (n := 1) (by decide) (by decide +kernel)) (x_okc (snd_to) x_okn)))))))))
theorem o30_24 : x_okL x_xm xm_30 24 b30_24 := x_okc (snd_iinc (n := 1) (by decide) (by decide +kernel)) (x_okc (snd_goto (off := -22) (by decide) (by decide +kernel)) x_okn)
theorem o30_30 : x_okL x_xm xm_30 30 b30_30 := x_okc (snd_iload_n (k := 3) rfl (by decide +kernel)) (x_okc (snd_iret rfl (by decide +kernel)) x_okn)
theorem o30 : ∀ q ∈ t30, x_okL x_xm xm_30 q.1 q.2 := List.forall_mem_cons.mpr ⟨o30_0, List.forall_mem_cons.mpr ⟨o30_5, List.forall_mem_cons.mpr ⟨o30_24, List.forall_mem_cons.mpr ⟨o30_30, fun _ h => absurd h List.not_mem_nil⟩⟩⟩⟩
theorem p30 : x_okM xm_30 := ⟨by decide, rfl, fun h => by cases h⟩
theorem o31_0 : x_okL x_xm xm_31 0 b31_0 := x_okc (snd_iload_n (k := 2) rfl (by decide +kernel)) (x_okc (snd_istore (by decide +kernel)) (x_okc (snd_to) x_okn))
theorem o31_3 : x_okL x_xm xm_31 3 b31_3 := x_okc (snd_iload (by decide +kernel)) (x_okc (snd_iconst (n := 4) (by decide) (by decide +kernel)) (x_okc (snd_icmp_ge (off := 44) (by decide) (by decide +kernel)) (x_okc (snd_aload_n (k := 1) rfl (by decide +kernel)) (x_okc (snd_callv (M' := xm_10) rfl ko_2 rfl rfl rfl rfl wd_636 wd_633 wd_634 wd_58 wd_635 (by decide +kernel) (Nat.le_of_ble_eq_true rfl) (Nat.le_of_ble_eq_true rfl) (by decide +kernel)) (x_okc (snd_aload_n (k := 0) rfl (by decide +kernel)) (x_okc (snd_gfi ko_3 (by decide) rfl wd_156 (by decide +kernel)) (x_okc (snd_iload (by decide +kernel)) (x_okc (snd_iadd (by decide +kernel)) (x_okc (snd_iconst (n := 4) (by decide) (by decide +kernel)) (x_okc (snd_irem (by decide +kernel)) (x_okc (snd_iadd (by decide +kernel)) (x_okc (snd_istore (by decide +kernel)) (x_okc (snd_iload (by decide +kernel)) (x_okc (snd_iload_n (k := 3) rfl (by decide +kernel)) (x_okc (snd_icmp_eq (off := 16) (by decide) (by decide +kernel)) (x_okc (snd_aload_n (k := 0) rfl (by decide +kernel)) (x_okc (snd_gfr ko_3 (by decide) rfl (by decide) wd_146 (by decide +kernel)) (x_okc (snd_iload (by decide +kernel)) (x_okc (snd_aald ka_17 rfl rfl (by decide) (by decide) (by decide +kernel)) (x_okc (snd_ifnonnull (off := 6) (by decide) (by decide +kernel)) (x_okc (snd_iload (by decide +kernel)) (x_okc (snd_iret rfl (by decide +kernel)) x_okn))))))))))))))))))))))
theorem o31_44 : x_okL x_xm xm_31 44 b31_44 := x_okc (snd_iinc (n := 1) (by decide) (by decide +kernel)) (x_okc (snd_goto (off := -44) (by decide) (by decide +kernel)) x_okn)
theorem o31_50 : x_okL x_xm xm_31 50 b31_50 := x_okc (snd_iconst (n := -1) (by decide) (by decide +kernel)) (x_okc (snd_iret rfl (by decide +kernel)) x_okn)
theorem o31 : ∀ q ∈ t31, x_okL x_xm xm_31 q.1 q.2 := List.forall_mem_cons.mpr ⟨o31_0, List.forall_mem_cons.mpr ⟨o31_3, List.forall_mem_cons.mpr ⟨o31_44, List.forall_mem_cons.mpr ⟨o31_50, fun _ h => absurd h List.not_mem_nil⟩⟩⟩⟩
theorem p31 : x_okM xm_31 := ⟨by decide, rfl, fun h => by cases h⟩
theorem o32_0 : x_okL x_xm xm_32 0 b32_0 := x_okc (snd_aload_n (k := 0) rfl (by decide +kernel)) (x_okc (snd_objinit wd_409 wd_76 wd_77 (Nat.le_of_ble_eq_true rfl) (Nat.le_of_ble_eq_true rfl) (by decide +kernel)) (x_okc (snd_aload_n (k := 0) rfl (by decide +kernel)) (x_okc (snd_new ko_5 rfl rfl rfl wd_410 wd_98 wd_57 (by decide +kernel)) (x_okc (snd_dup (by decide +kernel)) (x_okc (snd_iconst (n := 3) (by decide) (by decide +kernel)) (x_okc (snd_calli (M' := xm_0) rfl rfl rfl rfl rfl rfl rfl wd_101 wd_411 wd_100 wd_57 (by decide +kernel) (Nat.le_of_ble_eq_true rfl) (Nat.le_of_ble_eq_true rfl) (by decide +kernel)) (x_okc (snd_pfr ko_4 (by decide) rfl (by decide) rfl wd_416 (Or.inr ⟨rfl, rfl, rfl⟩) (by decide +kernel)) (x_okc (snd_aload_n (k := 0) rfl (by decide +kernel)) (x_okc (snd_iload_n (k := 1) rfl (by decide +kernel)) (x_okc (snd_pfi ko_4 (by decide) rfl rfl wd_412 (Or.inr ⟨rfl, rfl, rfl⟩) (by decide +kernel)) (x_okc (snd_aload_n (k := 0) rfl (by decide +kernel)) (x_okc (snd_iload_n (k := 2) rfl (by decide +kernel)) (x_okc (snd_pfz ko_4 (by decide) rfl rfl wd_414 (Or.inr ⟨rfl, rfl, rfl⟩) (by decide +kernel)) (x_okc (snd_ret rfl (by decide +kernel)) x_okn))))))))))))))
theorem o32 : ∀ q ∈ t32, x_okL x_xm xm_32 q.1 q.2 := List.forall_mem_cons.mpr ⟨o32_0, fun _ h => absurd h List.not_mem_nil⟩
theorem p32 : x_okM xm_32 := ⟨by decide, rfl, fun _ => rfl⟩
theorem o33_0 : x_okL x_xm xm_33 0 b33_0 := x_okc (snd_aload_n (k := 0) rfl (by decide +kernel)) (x_okc (snd_gfi ko_4 (by decide) rfl wd_414 (by decide +kernel)) (x_okc (snd_if_ne (off := 29) (by decide) (by decide +kernel)) (x_okc (snd_aload_n (k := 0) rfl (by decide +kernel)) (x_okc (snd_gfr ko_4 (by decide) rfl (by decide) wd_416 (by decide +kernel)) (x_okc (snd_callv (M' := xm_24) rfl ko_5 rfl rfl rfl rfl wd_444 wd_441 wd_442 wd_57 wd_443 (by decide +kernel) (Nat.le_of_ble_eq_true rfl) (Nat.le_of_ble_eq_true rfl) (by decide +kernel)) (x_okc (snd_iconst (n := 3) (by decide) (by decide +kernel)) (x_okc (snd_icmp_ge (off := 18) (by decide) (by decide +kernel)) (x_okc (snd_aload_n (k := 0) rfl (by decide +kernel)) (x_okc (snd_gfr ko_4 (by decide) rfl (by decide) wd_416 (by decide +kernel)) (x_okc (snd_iload_n (k := 1) rfl (by decide +kernel)) (x_okc (snd_callv (M' := xm_21) rfl ko_5 rfl rfl rfl rfl wd_448 wd_445 wd_446 wd_57 wd_447 (by decide +kernel) (Nat.le_of_ble_eq_true rfl) (Nat.le_of_ble_eq_true rfl) (by decide +kernel)) (x_okc (snd_if_ne (off := 7) (by decide) (by decide +kernel)) (x_okc (snd_iconst (n := 1) (by decide) (by decide +kernel)) (x_okc (snd_goto (off := 4) (by decide) (by decide +kernel)) x_okn))))))))))))))
theorem o33_33 : x_okL x_xm xm_33 33 b33_33 := x_okc (snd_iconst (n := 0) (by decide) (by decide +kernel)) (x_okc (snd_to) x_okn)
theorem o33_34 : x_okL x_xm xm_33 34 b33_34 := x_okc (snd_zret rfl (by decide +kernel)) x_okn
theorem o33 : ∀ q ∈ t33, x_okL x_xm xm_33 q.1 q.2 := List.forall_mem_cons.mpr ⟨o33_0, List.forall_mem_cons.mpr ⟨o33_33, List.forall_mem_cons.mpr ⟨o33_34, fun _ h => absurd h List.not_mem_nil⟩⟩⟩
theorem p33 : x_okM xm_33 := ⟨by decide, rfl, fun h => by cases h⟩
theorem o34_0 : x_okL x_xm xm_34 0 b34_0 := x_okc (snd_iconst (n := 0) (by decide) (by decide +kernel)) (x_okc (snd_istore_n (k := 1) rfl (by decide +kernel)) (x_okc (snd_iload_n (k := 0) rfl (by decide +kernel)) (x_okc (snd_istore_n (k := 2) rfl (by decide +kernel)) (x_okc (snd_to) x_okn))))
theorem o34_4 : x_okL x_xm xm_34 4 b34_4 := x_okc (snd_iload_n (k := 2) rfl (by decide +kernel)) (x_okc (snd_bipush (n := 10) (by decide) (by decide +kernel)) (x_okc (snd_icmp_lt (off := 14) (by decide) (by decide +kernel)) (x_okc (snd_iinc (n := 1) (by decide) (by decide +kernel)) (x_okc (snd_iload_n (k := 2) rfl (by decide +kernel)) (x_okc (snd_bipush (n := 10) (by decide) (by decide +kernel)) (x_okc (snd_idiv (by decide +kernel)) (x_okc (snd_istore_n (k := 2) rfl (by decide +kernel)) (x_okc (snd_goto (off := -14) (by decide) (by decide +kernel)) x_okn))))))))
theorem o34_21 : x_okL x_xm xm_34 21 b34_21 := x_okc (snd_iload_n (k := 1) rfl (by decide +kernel)) (x_okc (snd_iret rfl (by decide +kernel)) x_okn)
theorem o34 : ∀ q ∈ t34, x_okL x_xm xm_34 q.1 q.2 := List.forall_mem_cons.mpr ⟨o34_0, List.forall_mem_cons.mpr ⟨o34_4, List.forall_mem_cons.mpr ⟨o34_21, fun _ h => absurd h List.not_mem_nil⟩⟩⟩
theorem p34 : x_okM xm_34 := ⟨by decide, rfl, fun h => by cases h⟩
theorem o35_0 : x_okL x_xm xm_35 0 b35_0 := x_okc (snd_iload_n (k := 1) rfl (by decide +kernel)) (x_okc (snd_calln (M' := xm_34) (host := RX7) (idx := 36) rfl rfl rfl rfl rfl wd_582 (by decide +kernel) wd_581 wd_55 (by decide +kernel) (Nat.le_of_ble_eq_true rfl) (Nat.le_of_ble_eq_true rfl) (by decide +kernel)) (x_okc (snd_aload_n (k := 0) rfl (by decide +kernel)) (x_okc (snd_gfi ko_4 (by decide) rfl wd_412 (by decide +kernel)) (x_okc (snd_calln (M' := xm_34) (host := RX7) (idx := 36) rfl rfl rfl rfl rfl wd_582 (by decide +kernel) wd_581 wd_55 (by decide +kernel) (Nat.le_of_ble_eq_true rfl) (Nat.le_of_ble_eq_true rfl) (by decide +kernel)) (x_okc (snd_isub (by decide +kernel)) (x_okc (snd_iret rfl (by decide +kernel)) x_okn))))))
theorem o35 : ∀ q ∈ t35, x_okL x_xm xm_35 q.1 q.2 := List.forall_mem_cons.mpr ⟨o35_0, fun _ h => absurd h List.not_mem_nil⟩
theorem p35 : x_okM xm_35 := ⟨by decide, rfl, fun h => by cases h⟩
theorem o36_0 : x_okL x_xm xm_36 0 b36_0 := x_okc (snd_iload_n (k := 1) rfl (by decide +kernel)) (x_okc (snd_istore_n (k := 2) rfl (by decide +kernel)) (x_okc (snd_aload_n (k := 0) rfl (by decide +kernel)) (x_okc (snd_iload_n (k := 1) rfl (by decide +kernel)) (x_okc (snd_callv (M' := xm_35) rfl ko_4 rfl rfl rfl rfl wd_579 wd_604 wd_577 wd_69 wd_578 (by decide +kernel) (Nat.le_of_ble_eq_true rfl) (Nat.le_of_ble_eq_true rfl) (by decide +kernel)) (x_okc (snd_istore_n (k := 3) rfl (by decide +kernel)) (x_okc (snd_to) x_okn))))))
theorem o36_8 : x_okL x_xm xm_36 8 b36_8 := x_okc (snd_iload_n (k := 3) rfl (by decide +kernel)) (x_okc (snd_iconst (n := 2) (by decide) (by decide +kernel)) (x_okc (snd_icmp_le (off := 14) (by decide) (by decide +kernel)) (x_okc (snd_iload_n (k := 2) rfl (by decide +kernel)) (x_okc (snd_bipush (n := 10) (by decide) (by decide +kernel)) (x_okc (snd_idiv (by decide +kernel)) (x_okc (snd_istore_n (k := 2) rfl (by decide +kernel)) (x_okc (snd_iinc (n := -1) (by decide) (by decide +kernel)) (x_okc (snd_goto (off := -13) (by decide) (by decide +kernel)) x_okn))))))))
theorem o36_24 : x_okL x_xm xm_36 24 b36_24 := x_okc (snd_iload_n (k := 2) rfl (by decide +kernel)) (x_okc (snd_bipush (n := 100) (by decide) (by decide +kernel)) (x_okc (snd_irem (by decide +kernel)) (x_okc (snd_iret rfl (by decide +kernel)) x_okn)))
theorem o36 : ∀ q ∈ t36, x_okL x_xm xm_36 q.1 q.2 := List.forall_mem_cons.mpr ⟨o36_0, List.forall_mem_cons.mpr ⟨o36_8, List.forall_mem_cons.mpr ⟨o36_24, fun _ h => absurd h List.not_mem_nil⟩⟩⟩
theorem p36 : x_okM xm_36 := ⟨by decide, rfl, fun h => by cases h⟩
theorem o37_0 : x_okL x_xm xm_37 0 b37_0 := x_okc (snd_aload_n (k := 0) rfl (by decide +kernel)) (x_okc (snd_gfi ko_5 (by decide) rfl wd_104 (by decide +kernel)) (x_okc (snd_aload_n (k := 0) rfl (by decide +kernel)) (x_okc (snd_gfr ko_5 (by decide) rfl (by decide) wd_103 (by decide +kernel)) (x_okc (snd_alen ka_20 (by decide +kernel)) (x_okc (snd_icmp_ge (off := 23) (by decide) (by decide +kernel)) (x_okc (snd_aload_n (k := 0) rfl (by decide +kernel)) (x_okc (snd_gfr ko_5 (by decide) rfl (by decide) wd_103 (by decide +kernel)) (x_okc (snd_aload_n (k := 0) rfl (by decide +kernel)) (x_okc (snd_gfi ko_5 (by decide) rfl wd_104 (by decide +kernel)) (x_okc (snd_iload_n (k := 1) rfl (by decide +kernel)) (x_okc (snd_ast ka_20 rfl rfl (by decide) (by decide +kernel)) (x_okc (snd_aload_n (k := 0) rfl (by decide +kernel)) (x_okc (snd_dup (by decide +kernel)) (x_okc (snd_gfi ko_5 (by decide) rfl wd_104 (by decide +kernel)) (x_okc (snd_iconst (n := 1) (by decide) (by decide +kernel)) (x_okc (snd_iadd (by decide +kernel)) (x_okc (snd_pfi ko_5 (by decide) rfl rfl wd_104 (Or.inl rfl) (by decide +kernel)) (x_okc (snd_to) x_okn))))))))))))))))))
theorem o37_32 : x_okL x_xm xm_37 32 b37_32 := x_okc (snd_ret rfl (by decide +kernel)) x_okn
theorem o37 : ∀ q ∈ t37, x_okL x_xm xm_37 q.1 q.2 := List.forall_mem_cons.mpr ⟨o37_0, List.forall_mem_cons.mpr ⟨o37_32, fun _ h => absurd h List.not_mem_nil⟩⟩
theorem p37 : x_okM xm_37 := ⟨by decide, rfl, fun h => by cases h⟩
theorem o38_0 : x_okL x_xm xm_38 0 b38_0 := x_okc (snd_iconst (n := 0) (by decide) (by decide +kernel)) (x_okc (snd_istore_n (k := 2) rfl (by decide +kernel)) (x_okc (snd_iconst (n := 0) (by decide) (by decide +kernel)) (x_okc (snd_istore_n (k := 3) rfl (by decide +kernel)) (x_okc (snd_to) x_okn))))
theorem o38_4 : x_okL x_xm xm_38 4 b38_4 := x_okc (snd_iload_n (k := 3) rfl (by decide +kernel)) (x_okc (snd_aload_n (k := 0) rfl (by decide +kernel)) (x_okc (snd_gfi ko_5 (by decide) rfl wd_104 (by decide +kernel)) (x_okc (snd_icmp_ge (off := 34) (by decide) (by decide +kernel)) (x_okc (snd_aload_n (k := 0) rfl (by decide +kernel)) (x_okc (snd_gfr ko_5 (by decide) rfl (by decide) wd_103 (by decide +kernel)) (x_okc (snd_iload_n (k := 3) rfl (by decide +kernel)) (x_okc (snd_ald ka_20 rfl rfl (by decide) (by decide +kernel)) (x_okc (snd_iload_n (k := 1) rfl (by decide +kernel)) (x_okc (snd_icmp_eq (off := 18) (by decide) (by decide +kernel)) (x_okc (snd_aload_n (k := 0) rfl (by decide +kernel)) (x_okc (snd_gfr ko_5 (by decide) rfl (by decide) wd_103 (by decide +kernel)) (x_okc (snd_iload_n (k := 2) rfl (by decide +kernel)) (x_okc (snd_aload_n (k := 0) rfl (by decide +kernel)) (x_okc (snd_gfr ko_5 (by decide) rfl (by decide) wd_103 (by decide +kernel)) (x_okc (snd_iload_n (k := 3) rfl (by decide +kernel)) (x_okc (snd_ald ka_20 rfl rfl (by decide) (by decide +kernel)) (x_okc (snd_ast ka_20 rfl rfl (by decide) (by decide +kernel)) (x_okc (snd_iinc (n := 1) (by decide) (by decide +kernel)) (x_okc (snd_to) x_okn)))))))))))))))))))
theorem o38_37 : x_okL x_xm xm_38 37 b38_37 := x_okc (snd_iinc (n := 1) (by decide) (by decide +kernel)) (x_okc (snd_goto (off := -36) (by decide) (by decide +kernel)) x_okn)
theorem o38_43 : x_okL x_xm xm_38 43 b38_43 := x_okc (snd_aload_n (k := 0) rfl (by decide +kernel)) (x_okc (snd_iload_n (k := 2) rfl (by decide +kernel)) (x_okc (snd_pfi ko_5 (by decide) rfl rfl wd_104 (Or.inl rfl) (by decide +kernel)) (x_okc (snd_ret rfl (by decide +kernel)) x_okn)))
theorem o38 : ∀ q ∈ t38, x_okL x_xm xm_38 q.1 q.2 := List.forall_mem_cons.mpr ⟨o38_0, List.forall_mem_cons.mpr ⟨o38_4, List.forall_mem_cons.mpr ⟨o38_37, List.forall_mem_cons.mpr ⟨o38_43, fun _ h => absurd h List.not_mem_nil⟩⟩⟩⟩
theorem p38 : x_okM xm_38 := ⟨by decide, rfl, fun h => by cases h⟩
theorem o39_0 : x_okL x_xm xm_39 0 b39_0 := x_okc (snd_aload_n (k := 0) rfl (by decide +kernel)) (x_okc (snd_iconst (n := 0) (by decide) (by decide +kernel)) (x_okc (snd_pfi ko_5 (by decide) rfl rfl wd_104 (Or.inl rfl) (by decide +kernel)) (x_okc (snd_ret rfl (by decide +kernel)) x_okn)))
theorem o39 : ∀ q ∈ t39, x_okL x_xm xm_39 q.1 q.2 := List.forall_mem_cons.mpr ⟨o39_0, fun _ h => absurd h List.not_mem_nil⟩
theorem p39 : x_okM xm_39 := ⟨by decide, rfl, fun h => by cases h⟩
theorem o40_0 : x_okL x_xm xm_40 0 b40_0 := x_okc (snd_aload_n (k := 0) rfl (by decide +kernel)) (x_okc (snd_objinit wd_359 wd_76 wd_77 (Nat.le_of_ble_eq_true rfl) (Nat.le_of_ble_eq_true rfl) (by decide +kernel)) (x_okc (snd_aload_n (k := 0) rfl (by decide +kernel)) (x_okc (snd_iload_n (k := 1) rfl (by decide +kernel)) (x_okc (snd_pfi ko_6 (by decide) rfl rfl wd_360 (Or.inr ⟨rfl, rfl, rfl⟩) (by decide +kernel)) (x_okc (snd_aload_n (k := 0) rfl (by decide +kernel)) (x_okc (snd_iload_n (k := 2) rfl (by decide +kernel)) (x_okc (snd_pfi ko_6 (by decide) rfl rfl wd_361 (Or.inr ⟨rfl, rfl, rfl⟩) (by decide +kernel)) (x_okc (snd_ret rfl (by decide +kernel)) x_okn))))))))
theorem o40 : ∀ q ∈ t40, x_okL x_xm xm_40 q.1 q.2 := List.forall_mem_cons.mpr ⟨o40_0, fun _ h => absurd h List.not_mem_nil⟩
theorem p40 : x_okM xm_40 := ⟨by decide, rfl, fun _ => rfl⟩
theorem o41_0 : x_okL x_xm xm_41 0 b41_0 := x_okc (snd_aload_n (k := 0) rfl (by decide +kernel)) (x_okc (snd_gfi ko_6 (by decide) rfl wd_362 (by decide +kernel)) (x_okc (snd_if_ne (off := 14) (by decide) (by decide +kernel)) (x_okc (snd_aload_n (k := 0) rfl (by decide +kernel)) (x_okc (snd_gfr ko_6 (by decide) rfl (by decide) wd_364 (by decide +kernel)) (x_okc (snd_ifnonnull (off := 7) (by decide) (by decide +kernel)) (x_okc (snd_iconst (n := 1) (by decide) (by decide +kernel)) (x_okc (snd_goto (off := 4) (by decide) (by decide +kernel)) x_okn)))))))
theorem o41_18 : x_okL x_xm xm_41 18 b41_18 := x_okc (snd_iconst (n := 0) (by decide) (by decide +kernel)) (x_okc (snd_to) x_okn)
theorem o41_19 : x_okL x_xm xm_41 19 b41_19 := x_okc (snd_zret rfl (by decide +kernel)) x_okn
theorem o41 : ∀ q ∈ t41, x_okL x_xm xm_41 q.1 q.2 := List.forall_mem_cons.mpr ⟨o41_0, List.forall_mem_cons.mpr ⟨o41_18, List.forall_mem_cons.mpr ⟨o41_19, fun _ h => absurd h List.not_mem_nil⟩⟩⟩
theorem p41 : x_okM xm_41 := ⟨by decide, rfl, fun h => by cases h⟩
theorem o42_0 : x_okL x_xm xm_42 0 b42_0 := x_okc (snd_aload_n (k := 0) rfl (by decide +kernel)) (x_okc (snd_gfi ko_6 (by decide) rfl wd_360 (by decide +kernel)) (x_okc (snd_iload_n (k := 1) rfl (by decide +kernel)) (x_okc (snd_icmp_eq (off := 11) (by decide) (by decide +kernel)) (x_okc (snd_aload_n (k := 0) rfl (by decide +kernel)) (x_okc (snd_gfi ko_6 (by decide) rfl wd_361 (by decide +kernel)) (x_okc (snd_iload_n (k := 1) rfl (by decide +kernel)) (x_okc (snd_icmp_ne (off := 7) (by decide) (by decide +kernel)) (x_okc (snd_to) x_okn))))))))
theorem o42_16 : x_okL x_xm xm_42 16 b42_16 := x_okc (snd_iconst (n := 1) (by decide) (by decide +kernel)) (x_okc (snd_goto (off := 4) (by decide) (by decide +kernel)) x_okn)
theorem o42_20 : x_okL x_xm xm_42 20 b42_20 := x_okc (snd_iconst (n := 0) (by decide) (by decide +kernel)) (x_okc (snd_to) x_okn)
theorem o42_21 : x_okL x_xm xm_42 21 b42_21 := x_okc (snd_zret rfl (by decide +kernel)) x_okn
theorem o42 : ∀ q ∈ t42, x_okL x_xm xm_42 q.1 q.2 := List.forall_mem_cons.mpr ⟨o42_0, List.forall_mem_cons.mpr ⟨o42_16, List.forall_mem_cons.mpr ⟨o42_20, List.forall_mem_cons.mpr ⟨o42_21, fun _ h => absurd h List.not_mem_nil⟩⟩⟩⟩
theorem p42 : x_okM xm_42 := ⟨by decide, rfl, fun h => by cases h⟩
end
section
theorem o43_0 : x_okL x_xm xm_43 0 b43_0 := x_okc (snd_aload_n (k := 0) rfl (by decide +kernel)) (x_okc (snd_objinit wd_75 wd_76 wd_77 (Nat.le_of_ble_eq_true rfl) (Nat.le_of_ble_eq_true rfl) (by decide +kernel)) (x_okc (snd_aload_n (k := 0) rfl (by decide +kernel)) (x_okc (snd_iconst (n := 3) (by decide) (by decide +kernel)) (x_okc (snd_newq ka_11 (by decide) ko_3 rfl rfl rfl rfl wd_78 (by decide +kernel) (by decide +kernel)) (x_okc (snd_pfr ko_7 (by decide) rfl (by decide) rfl wd_241 (Or.inr ⟨rfl, rfl, rfl⟩) (by decide +kernel)) (x_okc (snd_aload_n (k := 0) rfl (by decide +kernel)) (x_okc (snd_bipush (n := 72) (by decide) (by decide +kernel)) (x_okc (snd_newq ka_12 (by decide) ko_1 rfl rfl rfl rfl wd_80 (by decide +kernel) (by decide +kernel)) (x_okc (snd_pfr ko_7 (by decide) rfl (by decide) rfl wd_242 (Or.inr ⟨rfl, rfl, rfl⟩) (by decide +kernel)) (x_okc (snd_aload_n (k := 0) rfl (by decide +kernel)) (x_okc (snd_bipush (n := 16) (by decide) (by decide +kernel)) (x_okc (snd_newq ka_13 (by decide) ko_6 rfl rfl rfl rfl wd_82 (by decide +kernel) (by decide +kernel)) (x_okc (snd_pfr ko_7 (by decide) rfl (by decide) rfl wd_243 (Or.inr ⟨rfl, rfl, rfl⟩) (by decide +kernel)) (x_okc (snd_aload_n (k := 0) rfl (by decide +kernel)) (x_okc (snd_iconst (n := 3) (by decide) (by decide +kernel)) (x_okc (snd_iconst (n := 3) (by decide) (by decide +kernel)) (x_okc (snd_newm rfl rfl wd_84 wd_110 (by decide +kernel)) (x_okc (snd_pfr ko_7 (by decide) rfl (by decide) rfl wd_244 (Or.inr ⟨rfl, rfl, rfl⟩) (by decide +kernel)) (x_okc (snd_iconst (n := 0) (by decide) (by decide +kernel)) (x_okc (snd_istore_n (k := 1) rfl (by decide +kernel)) (x_okc (snd_to) x_okn)))))))))))))))))))))
theorem o43_42 : x_okL x_xm xm_43 42 b43_42 := x_okc (snd_iload_n (k := 1) rfl (by decide +kernel)) (x_okc (snd_iconst (n := 3) (by decide) (by decide +kernel)) (x_okc (snd_icmp_ge (off := 66) (by decide) (by decide +kernel)) (x_okc (snd_aload_n (k := 0) rfl (by decide +kernel)) (x_okc (snd_gfr ko_7 (by decide) rfl (by decide) wd_241 (by decide +kernel)) (x_okc (snd_iload_n (k := 1) rfl (by decide +kernel)) (x_okc (snd_new ko_3 rfl rfl rfl wd_78 wd_86 wd_56 (by decide +kernel)) (x_okc (snd_dup (by decide +kernel)) (x_okc (snd_iload_n (k := 1) rfl (by decide +kernel)) (x_okc (snd_calli (M' := xm_13) rfl rfl rfl rfl rfl rfl rfl wd_89 wd_87 wd_88 wd_56 (by decide +kernel) (Nat.le_of_ble_eq_true rfl) (Nat.le_of_ble_eq_true rfl) (by decide +kernel)) (x_okc (snd_aast ka_11 ko_3 rfl rfl (by decide) (by decide +kernel)) (x_okc (snd_iconst (n := 0) (by decide) (by decide +kernel)) (x_okc (snd_istore_n (k := 2) rfl (by decide +kernel)) (x_okc (snd_to) x_okn)))))))))))))
theorem o43_63 : x_okL x_xm xm_43 63 b43_63 := x_okc (snd_iload_n (k := 2) rfl (by decide +kernel)) (x_okc (snd_bipush (n := 24) (by decide) (by decide +kernel)) (x_okc (snd_icmp_ge (off := 38) (by decide) (by decide +kernel)) (x_okc (snd_aload_n (k := 0) rfl (by decide +kernel)) (x_okc (snd_gfr ko_7 (by decide) rfl (by decide) wd_242 (by decide +kernel)) (x_okc (snd_iload_n (k := 1) rfl (by decide +kernel)) (x_okc (snd_bipush (n := 24) (by decide) (by decide +kernel)) (x_okc (snd_imul (by decide +kernel)) (x_okc (snd_iload_n (k := 2) rfl (by decide +kernel)) (x_okc (snd_iadd (by decide +kernel)) (x_okc (snd_new ko_1 rfl rfl rfl wd_80 wd_177 wd_59 (by decide +kernel)) (x_okc (snd_dup (by decide +kernel)) (x_okc (snd_aload_n (k := 0) rfl (by decide +kernel)) (x_okc (snd_gfr ko_7 (by decide) rfl (by decide) wd_241 (by decide +kernel)) (x_okc (snd_iload_n (k := 1) rfl (by decide +kernel)) (x_okc (snd_aald ka_11 rfl rfl (by decide) (by decide) (by decide +kernel)) (x_okc (snd_gfr ko_3 (by decide) rfl (by decide) wd_145 (by decide +kernel)) (x_okc (snd_iload_n (k := 2) rfl (by decide +kernel)) (x_okc (snd_aald ka_16 rfl rfl (by decide) (by decide) (by decide +kernel)) (x_okc (snd_calli (M' := xm_1) rfl rfl rfl rfl rfl rfl rfl wd_180 wd_178 wd_179 wd_59 (by decide +kernel) (Nat.le_of_ble_eq_true rfl) (Nat.le_of_ble_eq_true rfl) (by decide +kernel)) (x_okc (snd_aast ka_12 ko_1 rfl rfl (by decide) (by decide +kernel)) (x_okc (snd_iinc (n := 1) (by decide) (by decide +kernel)) (x_okc (snd_goto (off := -38) (by decide) (by decide +kernel)) x_okn))))))))))))))))))))))
theorem o43_104 : x_okL x_xm xm_43 104 b43_104 := x_okc (snd_iinc (n := 1) (by decide) (by decide +kernel)) (x_okc (snd_goto (off := -65) (by decide) (by decide +kernel)) x_okn)
theorem o43_110 : x_okL x_xm xm_43 110 b43_110 := x_okc (snd_ret rfl (by decide +kernel)) x_okn
theorem o43 : ∀ q ∈ t43, x_okL x_xm xm_43 q.1 q.2 := List.forall_mem_cons.mpr ⟨o43_0, List.forall_mem_cons.mpr ⟨o43_42, List.forall_mem_cons.mpr ⟨o43_63, List.forall_mem_cons.mpr ⟨o43_104, List.forall_mem_cons.mpr ⟨o43_110, fun _ h => absurd h List.not_mem_nil⟩⟩⟩⟩⟩
theorem p43 : x_okM xm_43 := ⟨by decide, rfl, fun _ => rfl⟩
theorem o44_0 : x_okL x_xm xm_44 0 b44_0 := x_okc (snd_iload_n (k := 0) rfl (by decide +kernel)) (x_okc (snd_iconst (n := 0) (by decide) (by decide +kernel)) (x_okc (snd_iconst (n := 2) (by decide) (by decide +kernel)) (x_okc (snd_calls (M' := xm_25) rfl rfl rfl rfl rfl wd_271 wd_269 wd_270 wd_55 (by decide +kernel) (Nat.le_of_ble_eq_true rfl) (Nat.le_of_ble_eq_true rfl) (by decide +kernel)) (x_okc (snd_zret rfl (by decide +kernel)) x_okn))))
theorem o44 : ∀ q ∈ t44, x_okL x_xm xm_44 q.1 q.2 := List.forall_mem_cons.mpr ⟨o44_0, fun _ h => absurd h List.not_mem_nil⟩
theorem p44 : x_okM xm_44 := ⟨by decide, rfl, fun h => by cases h⟩
theorem o45_0 : x_okL x_xm xm_45 0 b45_0 := x_okc (snd_iload_n (k := 0) rfl (by decide +kernel)) (x_okc (snd_if_ne (off := 11) (by decide) (by decide +kernel)) (x_okc (snd_throw (E := 1) (ik := 231) (ic := 233) rfl rfl (Nat.le_of_ble_eq_true rfl) (Nat.le_of_ble_eq_true rfl) (by decide +kernel) (by decide +kernel) wd_275 wd_66 (xk_mem (by decide +kernel)) (by decide +kernel) (by decide +kernel) (by decide +kernel) (by decide +kernel) (by decide +kernel) (by decide +kernel)) x_okn))
theorem o45_12 : x_okL x_xm xm_45 12 b45_12 := x_okc (snd_ret rfl (by decide +kernel)) x_okn
theorem o45 : ∀ q ∈ t45, x_okL x_xm xm_45 q.1 q.2 := List.forall_mem_cons.mpr ⟨o45_0, List.forall_mem_cons.mpr ⟨o45_12, fun _ h => absurd h List.not_mem_nil⟩⟩
theorem p45 : x_okM xm_45 := ⟨by decide, rfl, fun h => by cases h⟩
theorem o46_0 : x_okL x_xm xm_46 0 b46_0 := x_okc (snd_iload_n (k := 0) rfl (by decide +kernel)) (x_okc (snd_if_ne (off := 11) (by decide) (by decide +kernel)) (x_okc (snd_throw (E := 2) (ik := 234) (ic := 236) rfl rfl (Nat.le_of_ble_eq_true rfl) (Nat.le_of_ble_eq_true rfl) (by decide +kernel) (by decide +kernel) wd_340 wd_67 (xk_mem (by decide +kernel)) (by decide +kernel) (by decide +kernel) (by decide +kernel) (by decide +kernel) (by decide +kernel) (by decide +kernel)) x_okn))
theorem o46_12 : x_okL x_xm xm_46 12 b46_12 := x_okc (snd_ret rfl (by decide +kernel)) x_okn
theorem o46 : ∀ q ∈ t46, x_okL x_xm xm_46 q.1 q.2 := List.forall_mem_cons.mpr ⟨o46_0, List.forall_mem_cons.mpr ⟨o46_12, fun _ h => absurd h List.not_mem_nil⟩⟩
theorem p46 : x_okM xm_46 := ⟨by decide, rfl, fun h => by cases h⟩
theorem o47_0 : x_okL x_xm xm_47 0 b47_0 := x_okc (snd_iload_n (k := 1) rfl (by decide +kernel)) (x_okc (snd_calls (M' := xm_44) rfl rfl rfl rfl rfl wd_268 wd_266 wd_267 wd_55 (by decide +kernel) (Nat.le_of_ble_eq_true rfl) (Nat.le_of_ble_eq_true rfl) (by decide +kernel)) (x_okc (snd_if_eq (off := 19) (by decide) (by decide +kernel)) (x_okc (snd_iload_n (k := 2) rfl (by decide +kernel)) (x_okc (snd_calls (M' := xm_44) rfl rfl rfl rfl rfl wd_268 wd_266 wd_267 wd_55 (by decide +kernel) (Nat.le_of_ble_eq_true rfl) (Nat.le_of_ble_eq_true rfl) (by decide +kernel)) (x_okc (snd_if_eq (off := 12) (by decide) (by decide +kernel)) (x_okc (snd_iload_n (k := 1) rfl (by decide +kernel)) (x_okc (snd_iload_n (k := 2) rfl (by decide +kernel)) (x_okc (snd_icmp_eq (off := 7) (by decide) (by decide +kernel)) (x_okc (snd_iconst (n := 1) (by decide) (by decide +kernel)) (x_okc (snd_goto (off := 4) (by decide) (by decide +kernel)) x_okn))))))))))
theorem o47_23 : x_okL x_xm xm_47 23 b47_23 := x_okc (snd_iconst (n := 0) (by decide) (by decide +kernel)) (x_okc (snd_to) x_okn)
theorem o47_24 : x_okL x_xm xm_47 24 b47_24 := x_okc (snd_calls (M' := xm_45) rfl rfl rfl rfl rfl wd_274 wd_272 wd_273 wd_55 (by decide +kernel) (Nat.le_of_ble_eq_true rfl) (Nat.le_of_ble_eq_true rfl) (by decide +kernel)) (x_okc (snd_aload_n (k := 0) rfl (by decide +kernel)) (x_okc (snd_gfi ko_7 (by decide) rfl wd_245 (by decide +kernel)) (x_okc (snd_bipush (n := 16) (by decide) (by decide +kernel)) (x_okc (snd_icmp_ge (off := 7) (by decide) (by decide +kernel)) (x_okc (snd_iconst (n := 1) (by decide) (by decide +kernel)) (x_okc (snd_goto (off := 4) (by decide) (by decide +kernel)) x_okn))))))
theorem o47_40 : x_okL x_xm xm_47 40 b47_40 := x_okc (snd_iconst (n := 0) (by decide) (by decide +kernel)) (x_okc (snd_to) x_okn)
theorem o47_41 : x_okL x_xm xm_47 41 b47_41 := x_okc (snd_calls (M' := xm_46) rfl rfl rfl rfl rfl wd_339 wd_337 wd_338 wd_55 (by decide +kernel) (Nat.le_of_ble_eq_true rfl) (Nat.le_of_ble_eq_true rfl) (by decide +kernel)) (x_okc (snd_aload_n (k := 0) rfl (by decide +kernel)) (x_okc (snd_gfr ko_7 (by decide) rfl (by decide) wd_243 (by decide +kernel)) (x_okc (snd_aload_n (k := 0) rfl (by decide +kernel)) (x_okc (snd_gfi ko_7 (by decide) rfl wd_245 (by decide +kernel)) (x_okc (snd_new ko_6 rfl rfl rfl wd_82 wd_355 wd_68 (by decide +kernel)) (x_okc (snd_dup (by decide +kernel)) (x_okc (snd_iload_n (k := 1) rfl (by decide +kernel)) (x_okc (snd_iload_n (k := 2) rfl (by decide +kernel)) (x_okc (snd_calli (M' := xm_40) rfl rfl rfl rfl rfl rfl rfl wd_358 wd_356 wd_357 wd_68 (by decide +kernel) (Nat.le_of_ble_eq_true rfl) (Nat.le_of_ble_eq_true rfl) (by decide +kernel)) (x_okc (snd_aast ka_13 ko_6 rfl rfl (by decide) (by decide +kernel)) (x_okc (snd_aload_n (k := 0) rfl (by decide +kernel)) (x_okc (snd_dup (by decide +kernel)) (x_okc (snd_gfi ko_7 (by decide) rfl wd_245 (by decide +kernel)) (x_okc (snd_iconst (n := 1) (by decide) (by decide +kernel)) (x_okc (snd_iadd (by decide +kernel)) (x_okc (snd_pfi ko_7 (by decide) rfl rfl wd_245 (Or.inl rfl) (by decide +kernel)) (x_okc (snd_aload_n (k := 0) rfl (by decide +kernel)) (x_okc (snd_gfi ko_7 (by decide) rfl wd_245 (by decide +kernel)) (x_okc (snd_iconst (n := 1) (by decide) (by decide +kernel)) (x_okc (snd_isub (by decide +kernel)) (x_okc (snd_iret rfl (by decide +kernel)) x_okn)))))))))))))))))))))
theorem o47 : ∀ q ∈ t47, x_okL x_xm xm_47 q.1 q.2 := List.forall_mem_cons.mpr ⟨o47_0, List.forall_mem_cons.mpr ⟨o47_23, List.forall_mem_cons.mpr ⟨o47_24, List.forall_mem_cons.mpr ⟨o47_40, List.forall_mem_cons.mpr ⟨o47_41, fun _ h => absurd h List.not_mem_nil⟩⟩⟩⟩⟩
theorem p47 : x_okM xm_47 := ⟨by decide, rfl, fun h => by cases h⟩
theorem o48_0 : x_okL x_xm xm_48 0 b48_0 := x_okc (snd_iload_n (k := 0) rfl (by decide +kernel)) (x_okc (snd_bipush (n := 10) (by decide) (by decide +kernel)) (x_okc (snd_bipush (n := 19) (by decide) (by decide +kernel)) (x_okc (snd_calls (M' := xm_25) rfl rfl rfl rfl rfl wd_271 wd_269 wd_270 wd_55 (by decide +kernel) (Nat.le_of_ble_eq_true rfl) (Nat.le_of_ble_eq_true rfl) (by decide +kernel)) (x_okc (snd_if_ne (off := 28) (by decide) (by decide +kernel)) (x_okc (snd_iload_n (k := 0) rfl (by decide +kernel)) (x_okc (snd_bipush (n := 100) (by decide) (by decide +kernel)) (x_okc (snd_sipush (n := 199) (by decide) (by decide +kernel)) (x_okc (snd_calls (M' := xm_25) rfl rfl rfl rfl rfl wd_271 wd_269 wd_270 wd_55 (by decide +kernel) (Nat.le_of_ble_eq_true rfl) (Nat.le_of_ble_eq_true rfl) (by decide +kernel)) (x_okc (snd_if_ne (off := 16) (by decide) (by decide +kernel)) (x_okc (snd_iload_n (k := 0) rfl (by decide +kernel)) (x_okc (snd_sipush (n := 1000) (by decide) (by decide +kernel)) (x_okc (snd_sipush (n := 1999) (by decide) (by decide +kernel)) (x_okc (snd_calls (M' := xm_25) rfl rfl rfl rfl rfl wd_271 wd_269 wd_270 wd_55 (by decide +kernel) (Nat.le_of_ble_eq_true rfl) (Nat.le_of_ble_eq_true rfl) (by decide +kernel)) (x_okc (snd_if_eq (off := 7) (by decide) (by decide +kernel)) (x_okc (snd_to) x_okn)))))))))))))))
theorem o48_36 : x_okL x_xm xm_48 36 b48_36 := x_okc (snd_iconst (n := 1) (by decide) (by decide +kernel)) (x_okc (snd_goto (off := 4) (by decide) (by decide +kernel)) x_okn)
theorem o48_40 : x_okL x_xm xm_48 40 b48_40 := x_okc (snd_iconst (n := 0) (by decide) (by decide +kernel)) (x_okc (snd_to) x_okn)
theorem o48_41 : x_okL x_xm xm_48 41 b48_41 := x_okc (snd_zret rfl (by decide +kernel)) x_okn
theorem o48 : ∀ q ∈ t48, x_okL x_xm xm_48 q.1 q.2 := List.forall_mem_cons.mpr ⟨o48_0, List.forall_mem_cons.mpr ⟨o48_36, List.forall_mem_cons.mpr ⟨o48_40, List.forall_mem_cons.mpr ⟨o48_41, fun _ h => absurd h List.not_mem_nil⟩⟩⟩⟩
theorem p48 : x_okM xm_48 := ⟨by decide, rfl, fun h => by cases h⟩
theorem o49_0 : x_okL x_xm xm_49 0 b49_0 := x_okc (snd_iload_n (k := 1) rfl (by decide +kernel)) (x_okc (snd_calls (M' := xm_44) rfl rfl rfl rfl rfl wd_268 wd_266 wd_267 wd_55 (by decide +kernel) (Nat.le_of_ble_eq_true rfl) (Nat.le_of_ble_eq_true rfl) (by decide +kernel)) (x_okc (snd_if_eq (off := 21) (by decide) (by decide +kernel)) (x_okc (snd_iload_n (k := 3) rfl (by decide +kernel)) (x_okc (snd_calls (M' := xm_44) rfl rfl rfl rfl rfl wd_268 wd_266 wd_267 wd_55 (by decide +kernel) (Nat.le_of_ble_eq_true rfl) (Nat.le_of_ble_eq_true rfl) (by decide +kernel)) (x_okc (snd_if_eq (off := 14) (by decide) (by decide +kernel)) (x_okc (snd_iload_n (k := 2) rfl (by decide +kernel)) (x_okc (snd_calls (M' := xm_48) rfl rfl rfl rfl rfl wd_384 wd_382 wd_383 wd_55 (by decide +kernel) (Nat.le_of_ble_eq_true rfl) (Nat.le_of_ble_eq_true rfl) (by decide +kernel)) (x_okc (snd_if_eq (off := 7) (by decide) (by decide +kernel)) (x_okc (snd_iconst (n := 1) (by decide) (by decide +kernel)) (x_okc (snd_goto (off := 4) (by decide) (by decide +kernel)) x_okn))))))))))
theorem o49_25 : x_okL x_xm xm_49 25 b49_25 := x_okc (snd_iconst (n := 0) (by decide) (by decide +kernel)) (x_okc (snd_to) x_okn)
theorem o49_26 : x_okL x_xm xm_49 26 b49_26 := x_okc (snd_calls (M' := xm_45) rfl rfl rfl rfl rfl wd_274 wd_272 wd_273 wd_55 (by decide +kernel) (Nat.le_of_ble_eq_true rfl) (Nat.le_of_ble_eq_true rfl) (by decide +kernel)) (x_okc (snd_iload (by decide +kernel)) (x_okc (snd_iconst (n := 0) (by decide) (by decide +kernel)) (x_okc (snd_bipush (n := 99) (by decide) (by decide +kernel)) (x_okc (snd_calls (M' := xm_25) rfl rfl rfl rfl rfl wd_271 wd_269 wd_270 wd_55 (by decide +kernel) (Nat.le_of_ble_eq_true rfl) (Nat.le_of_ble_eq_true rfl) (by decide +kernel)) (x_okc (snd_if_eq (off := 19) (by decide) (by decide +kernel)) (x_okc (snd_iload (by decide +kernel)) (x_okc (snd_iconst (n := 0) (by decide) (by decide +kernel)) (x_okc (snd_sipush (n := 1000) (by decide) (by decide +kernel)) (x_okc (snd_calls (M' := xm_25) rfl rfl rfl rfl rfl wd_271 wd_269 wd_270 wd_55 (by decide +kernel) (Nat.le_of_ble_eq_true rfl) (Nat.le_of_ble_eq_true rfl) (by decide +kernel)) (x_okc (snd_if_eq (off := 7) (by decide) (by decide +kernel)) (x_okc (snd_iconst (n := 1) (by decide) (by decide +kernel)) (x_okc (snd_goto (off := 4) (by decide) (by decide +kernel)) x_okn))))))))))))
theorem o49_56 : x_okL x_xm xm_49 56 b49_56 := x_okc (snd_iconst (n := 0) (by decide) (by decide +kernel)) (x_okc (snd_to) x_okn)
theorem o49_57 : x_okL x_xm xm_49 57 b49_57 := x_okc (snd_calls (M' := xm_45) rfl rfl rfl rfl rfl wd_274 wd_272 wd_273 wd_55 (by decide +kernel) (Nat.le_of_ble_eq_true rfl) (Nat.le_of_ble_eq_true rfl) (by decide +kernel)) (x_okc (snd_aload_n (k := 0) rfl (by decide +kernel)) (x_okc (snd_gfr ko_7 (by decide) rfl (by decide) wd_241 (by decide +kernel)) (x_okc (snd_iload_n (k := 1) rfl (by decide +kernel)) (x_okc (snd_aald ka_11 rfl rfl (by decide) (by decide) (by decide +kernel)) (x_okc (snd_astore (by decide +kernel)) (x_okc (snd_aload (by decide +kernel)) (x_okc (snd_iload_n (k := 2) rfl (by decide +kernel)) (x_okc (snd_callv (M' := xm_15) rfl ko_3 rfl rfl rfl rfl wd_388 wd_385 wd_386 wd_56 wd_387 (by decide +kernel) (Nat.le_of_ble_eq_true rfl) (Nat.le_of_ble_eq_true rfl) (by decide +kernel)) (x_okc (snd_astore (by decide +kernel)) (x_okc (snd_aload (by decide +kernel)) (x_okc (snd_ifnonnull (off := 42) (by decide) (by decide +kernel)) (x_okc (snd_aload (by decide +kernel)) (x_okc (snd_iload_n (k := 2) rfl (by decide +kernel)) (x_okc (snd_callv (M' := xm_19) rfl ko_3 rfl rfl rfl rfl wd_392 wd_389 wd_390 wd_56 wd_391 (by decide +kernel) (Nat.le_of_ble_eq_true rfl) (Nat.le_of_ble_eq_true rfl) (by decide +kernel)) (x_okc (snd_calls (M' := xm_46) rfl rfl rfl rfl rfl wd_339 wd_337 wd_338 wd_55 (by decide +kernel) (Nat.le_of_ble_eq_true rfl) (Nat.le_of_ble_eq_true rfl) (by decide +kernel)) (x_okc (snd_new ko_4 rfl rfl rfl wd_404 wd_405 wd_69 (by decide +kernel)) (x_okc (snd_dup (by decide +kernel)) (x_okc (snd_iload_n (k := 2) rfl (by decide +kernel)) (x_okc (snd_iload_n (k := 3) rfl (by decide +kernel)) (x_okc (snd_iload_n (k := 1) rfl (by decide +kernel)) (x_okc (snd_icmp_ne (off := 7) (by decide) (by decide +kernel)) (x_okc (snd_iconst (n := 1) (by decide) (by decide +kernel)) (x_okc (snd_goto (off := 4) (by decide) (by decide +kernel)) x_okn)))))))))))))))))))))))
theorem o49_104 : x_okL x_xm xm_49 104 b49_104 := x_okc (snd_iconst (n := 0) (by decide) (by decide +kernel)) (x_okc (snd_to) x_okn)
theorem o49_105 : x_okL x_xm xm_49 105 b49_105 := x_okc (snd_calli (M' := xm_32) rfl rfl rfl rfl rfl rfl rfl wd_408 wd_406 wd_407 wd_69 (by decide +kernel) (Nat.le_of_ble_eq_true rfl) (Nat.le_of_ble_eq_true rfl) (by decide +kernel)) (x_okc (snd_astore (by decide +kernel)) (x_okc (snd_aload (by decide +kernel)) (x_okc (snd_aload (by decide +kernel)) (x_okc (snd_callv (M' := xm_20) rfl ko_3 rfl rfl rfl rfl wd_436 wd_433 wd_434 wd_56 wd_435 (by decide +kernel) (Nat.le_of_ble_eq_true rfl) (Nat.le_of_ble_eq_true rfl) (by decide +kernel)) (x_okc (snd_goto (off := 25) (by decide) (by decide +kernel)) x_okn)))))
theorem o49_120 : x_okL x_xm xm_49 120 b49_120 := x_okc (snd_iload_n (k := 3) rfl (by decide +kernel)) (x_okc (snd_iload_n (k := 1) rfl (by decide +kernel)) (x_okc (snd_icmp_eq (off := 16) (by decide) (by decide +kernel)) (x_okc (snd_aload (by decide +kernel)) (x_okc (snd_iload_n (k := 3) rfl (by decide +kernel)) (x_okc (snd_callv (M' := xm_33) rfl ko_4 rfl rfl rfl rfl wd_440 wd_437 wd_438 wd_69 wd_439 (by decide +kernel) (Nat.le_of_ble_eq_true rfl) (Nat.le_of_ble_eq_true rfl) (by decide +kernel)) (x_okc (snd_if_eq (off := 7) (by decide) (by decide +kernel)) (x_okc (snd_iconst (n := 1) (by decide) (by decide +kernel)) (x_okc (snd_goto (off := 4) (by decide) (by decide +kernel)) x_okn))))))))
theorem o49_138 : x_okL x_xm xm_49 138 b49_138 := x_okc (snd_iconst (n := 0) (by decide) (by decide +kernel)) (x_okc (snd_to) x_okn)
theorem o49_139 : x_okL x_xm xm_49 139 b49_139 := x_okc (snd_calls (M' := xm_46) rfl rfl rfl rfl rfl wd_339 wd_337 wd_338 wd_55 (by decide +kernel) (Nat.le_of_ble_eq_true rfl) (Nat.le_of_ble_eq_true rfl) (by decide +kernel)) (x_okc (snd_to) x_okn)
theorem o49_142 : x_okL x_xm xm_49 142 b49_142 := x_okc (snd_aload (by decide +kernel)) (x_okc (snd_gfi ko_4 (by decide) rfl wd_415 (by decide +kernel)) (x_okc (snd_if_ne (off := 12) (by decide) (by decide +kernel)) (x_okc (snd_aload (by decide +kernel)) (x_okc (snd_gfr ko_4 (by decide) rfl (by decide) wd_417 (by decide +kernel)) (x_okc (snd_iload_n (k := 3) rfl (by decide +kernel)) (x_okc (snd_callv (M' := xm_37) rfl ko_5 rfl rfl rfl rfl wd_452 wd_449 wd_450 wd_57 wd_451 (by decide +kernel) (Nat.le_of_ble_eq_true rfl) (Nat.le_of_ble_eq_true rfl) (by decide +kernel)) (x_okc (snd_to) x_okn)))))))
theorem o49_159 : x_okL x_xm xm_49 159 b49_159 := x_okc (snd_aload (by decide +kernel)) (x_okc (snd_iload (by decide +kernel)) (x_okc (snd_pfi ko_4 (by decide) rfl rfl wd_418 (Or.inl rfl) (by decide +kernel)) (x_okc (snd_aload (by decide +kernel)) (x_okc (snd_iload (by decide +kernel)) (x_okc (snd_pfi ko_4 (by decide) rfl rfl wd_420 (Or.inl rfl) (by decide +kernel)) (x_okc (snd_aload (by decide +kernel)) (x_okc (snd_gfr ko_4 (by decide) rfl (by decide) wd_417 (by decide +kernel)) (x_okc (snd_callv (M' := xm_24) rfl ko_5 rfl rfl rfl rfl wd_444 wd_453 wd_442 wd_57 wd_443 (by decide +kernel) (Nat.le_of_ble_eq_true rfl) (Nat.le_of_ble_eq_true rfl) (by decide +kernel)) (x_okc (snd_iret rfl (by decide +kernel)) x_okn)))))))))
theorem o49 : ∀ q ∈ t49, x_okL x_xm xm_49 q.1 q.2 := List.forall_mem_cons.mpr ⟨o49_0, List.forall_mem_cons.mpr ⟨o49_25, List.forall_mem_cons.mpr ⟨o49_26, List.forall_mem_cons.mpr ⟨o49_56, List.forall_mem_cons.mpr ⟨o49_57, List.forall_mem_cons.mpr ⟨o49_104, List.forall_mem_cons.mpr ⟨o49_105, List.forall_mem_cons.mpr ⟨o49_120, List.forall_mem_cons.mpr ⟨o49_138, List.forall_mem_cons.mpr ⟨o49_139, List.forall_mem_cons.mpr ⟨o49_142, List.forall_mem_cons.mpr ⟨o49_159, fun _ h => absurd h List.not_mem_nil⟩⟩⟩⟩⟩⟩⟩⟩⟩⟩⟩⟩
theorem p49 : x_okM xm_49 := ⟨by decide, rfl, fun h => by cases h⟩
theorem o50_0 : x_okL x_xm xm_50 0 b50_0 := x_okc (snd_iload_n (k := 1) rfl (by decide +kernel)) (x_okc (snd_calls (M' := xm_44) rfl rfl rfl rfl rfl wd_268 wd_266 wd_267 wd_55 (by decide +kernel) (Nat.le_of_ble_eq_true rfl) (Nat.le_of_ble_eq_true rfl) (by decide +kernel)) (x_okc (snd_if_eq (off := 23) (by decide) (by decide +kernel)) (x_okc (snd_iload_n (k := 2) rfl (by decide +kernel)) (x_okc (snd_iconst (n := 0) (by decide) (by decide +kernel)) (x_okc (snd_iconst (n := 3) (by decide) (by decide +kernel)) (x_okc (snd_calls (M' := xm_25) rfl rfl rfl rfl rfl wd_271 wd_269 wd_270 wd_55 (by decide +kernel) (Nat.le_of_ble_eq_true rfl) (Nat.le_of_ble_eq_true rfl) (by decide +kernel)) (x_okc (snd_if_eq (off := 14) (by decide) (by decide +kernel)) (x_okc (snd_iload_n (k := 3) rfl (by decide +kernel)) (x_okc (snd_calls (M' := xm_26) rfl rfl rfl rfl rfl wd_463 wd_461 wd_462 wd_55 (by decide +kernel) (Nat.le_of_ble_eq_true rfl) (Nat.le_of_ble_eq_true rfl) (by decide +kernel)) (x_okc (snd_if_eq (off := 7) (by decide) (by decide +kernel)) (x_okc (snd_iconst (n := 1) (by decide) (by decide +kernel)) (x_okc (snd_goto (off := 4) (by decide) (by decide +kernel)) x_okn))))))))))))
theorem o50_27 : x_okL x_xm xm_50 27 b50_27 := x_okc (snd_iconst (n := 0) (by decide) (by decide +kernel)) (x_okc (snd_to) x_okn)
theorem o50_28 : x_okL x_xm xm_50 28 b50_28 := x_okc (snd_calls (M' := xm_45) rfl rfl rfl rfl rfl wd_274 wd_272 wd_273 wd_55 (by decide +kernel) (Nat.le_of_ble_eq_true rfl) (Nat.le_of_ble_eq_true rfl) (by decide +kernel)) (x_okc (snd_aload_n (k := 0) rfl (by decide +kernel)) (x_okc (snd_gfr ko_7 (by decide) rfl (by decide) wd_241 (by decide +kernel)) (x_okc (snd_iload_n (k := 1) rfl (by decide +kernel)) (x_okc (snd_aald ka_11 rfl rfl (by decide) (by decide) (by decide +kernel)) (x_okc (snd_gfr ko_3 (by decide) rfl (by decide) wd_150 (by decide +kernel)) (x_okc (snd_iload_n (k := 2) rfl (by decide +kernel)) (x_okc (snd_aald ka_19 rfl rfl (by decide) (by decide) (by decide +kernel)) (x_okc (snd_astore (by decide +kernel)) (x_okc (snd_aload (by decide +kernel)) (x_okc (snd_callv (M' := xm_24) rfl ko_5 rfl rfl rfl rfl wd_444 wd_453 wd_442 wd_57 wd_443 (by decide +kernel) (Nat.le_of_ble_eq_true rfl) (Nat.le_of_ble_eq_true rfl) (by decide +kernel)) (x_okc (snd_bipush (n := 6) (by decide) (by decide +kernel)) (x_okc (snd_icmp_ge (off := 20) (by decide) (by decide +kernel)) (x_okc (snd_aload_n (k := 0) rfl (by decide +kernel)) (x_okc (snd_gfr ko_7 (by decide) rfl (by decide) wd_241 (by decide +kernel)) (x_okc (snd_iload_n (k := 1) rfl (by decide +kernel)) (x_okc (snd_aald ka_11 rfl rfl (by decide) (by decide) (by decide +kernel)) (x_okc (snd_iload_n (k := 3) rfl (by decide +kernel)) (x_okc (snd_callv (M' := xm_22) rfl ko_3 rfl rfl rfl rfl wd_467 wd_464 wd_465 wd_56 wd_466 (by decide +kernel) (Nat.le_of_ble_eq_true rfl) (Nat.le_of_ble_eq_true rfl) (by decide +kernel)) (x_okc (snd_if_ne (off := 7) (by decide) (by decide +kernel)) (x_okc (snd_iconst (n := 1) (by decide) (by decide +kernel)) (x_okc (snd_goto (off := 4) (by decide) (by decide +kernel)) x_okn)))))))))))))))))))))
theorem o50_71 : x_okL x_xm xm_50 71 b50_71 := x_okc (snd_iconst (n := 0) (by decide) (by decide +kernel)) (x_okc (snd_to) x_okn)
theorem o50_72 : x_okL x_xm xm_50 72 b50_72 := x_okc (snd_calls (M' := xm_46) rfl rfl rfl rfl rfl wd_339 wd_337 wd_338 wd_55 (by decide +kernel) (Nat.le_of_ble_eq_true rfl) (Nat.le_of_ble_eq_true rfl) (by decide +kernel)) (x_okc (snd_aload (by decide +kernel)) (x_okc (snd_iload_n (k := 3) rfl (by decide +kernel)) (x_okc (snd_callv (M' := xm_37) rfl ko_5 rfl rfl rfl rfl wd_452 wd_449 wd_450 wd_57 wd_451 (by decide +kernel) (Nat.le_of_ble_eq_true rfl) (Nat.le_of_ble_eq_true rfl) (by decide +kernel)) (x_okc (snd_aload (by decide +kernel)) (x_okc (snd_callv (M' := xm_24) rfl ko_5 rfl rfl rfl rfl wd_444 wd_453 wd_442 wd_57 wd_443 (by decide +kernel) (Nat.le_of_ble_eq_true rfl) (Nat.le_of_ble_eq_true rfl) (by decide +kernel)) (x_okc (snd_iret rfl (by decide +kernel)) x_okn))))))
theorem o50 : ∀ q ∈ t50, x_okL x_xm xm_50 q.1 q.2 := List.forall_mem_cons.mpr ⟨o50_0, List.forall_mem_cons.mpr ⟨o50_27, List.forall_mem_cons.mpr ⟨o50_28, List.forall_mem_cons.mpr ⟨o50_71, List.forall_mem_cons.mpr ⟨o50_72, fun _ h => absurd h List.not_mem_nil⟩⟩⟩⟩⟩
theorem p50 : x_okM xm_50 := ⟨by decide, rfl, fun h => by cases h⟩
theorem o51_0 : x_okL x_xm xm_51 0 b51_0 := x_okc (snd_iload_n (k := 1) rfl (by decide +kernel)) (x_okc (snd_calls (M' := xm_44) rfl rfl rfl rfl rfl wd_268 wd_266 wd_267 wd_55 (by decide +kernel) (Nat.le_of_ble_eq_true rfl) (Nat.le_of_ble_eq_true rfl) (by decide +kernel)) (x_okc (snd_if_eq (off := 14) (by decide) (by decide +kernel)) (x_okc (snd_iload_n (k := 2) rfl (by decide +kernel)) (x_okc (snd_calls (M' := xm_26) rfl rfl rfl rfl rfl wd_463 wd_461 wd_462 wd_55 (by decide +kernel) (Nat.le_of_ble_eq_true rfl) (Nat.le_of_ble_eq_true rfl) (by decide +kernel)) (x_okc (snd_if_eq (off := 7) (by decide) (by decide +kernel)) (x_okc (snd_iconst (n := 1) (by decide) (by decide +kernel)) (x_okc (snd_goto (off := 4) (by decide) (by decide +kernel)) x_okn)))))))
theorem o51_18 : x_okL x_xm xm_51 18 b51_18 := x_okc (snd_iconst (n := 0) (by decide) (by decide +kernel)) (x_okc (snd_to) x_okn)
theorem o51_19 : x_okL x_xm xm_51 19 b51_19 := x_okc (snd_calls (M' := xm_45) rfl rfl rfl rfl rfl wd_274 wd_272 wd_273 wd_55 (by decide +kernel) (Nat.le_of_ble_eq_true rfl) (Nat.le_of_ble_eq_true rfl) (by decide +kernel)) (x_okc (snd_aload_n (k := 0) rfl (by decide +kernel)) (x_okc (snd_gfr ko_7 (by decide) rfl (by decide) wd_241 (by decide +kernel)) (x_okc (snd_iload_n (k := 1) rfl (by decide +kernel)) (x_okc (snd_aald ka_11 rfl rfl (by decide) (by decide) (by decide +kernel)) (x_okc (snd_gfr ko_3 (by decide) rfl (by decide) wd_145 (by decide +kernel)) (x_okc (snd_iload_n (k := 2) rfl (by decide +kernel)) (x_okc (snd_aald ka_16 rfl rfl (by decide) (by decide) (by decide +kernel)) (x_okc (snd_aret rfl (Or.inl ⟨_, rfl⟩) (by decide +kernel)) x_okn))))))))
theorem o51 : ∀ q ∈ t51, x_okL x_xm xm_51 q.1 q.2 := List.forall_mem_cons.mpr ⟨o51_0, List.forall_mem_cons.mpr ⟨o51_18, List.forall_mem_cons.mpr ⟨o51_19, fun _ h => absurd h List.not_mem_nil⟩⟩⟩
theorem p51 : x_okM xm_51 := ⟨by decide, rfl, fun h => by cases h⟩
theorem o52_0 : x_okL x_xm xm_52 0 b52_0 := x_okc (snd_iload_n (k := 1) rfl (by decide +kernel)) (x_okc (snd_sipush (n := 1000) (by decide) (by decide +kernel)) (x_okc (snd_idiv (by decide +kernel)) (x_okc (snd_istore_n (k := 3) rfl (by decide +kernel)) (x_okc (snd_iload_n (k := 1) rfl (by decide +kernel)) (x_okc (snd_sipush (n := 1000) (by decide) (by decide +kernel)) (x_okc (snd_irem (by decide +kernel)) (x_okc (snd_istore (by decide +kernel)) (x_okc (snd_iload_n (k := 1) rfl (by decide +kernel)) (x_okc (snd_sipush (n := 5000) (by decide) (by decide +kernel)) (x_okc (snd_icmp_lt (off := 32) (by decide) (by decide +kernel)) (x_okc (snd_iload_n (k := 1) rfl (by decide +kernel)) (x_okc (snd_sipush (n := 5000) (by decide) (by decide +kernel)) (x_okc (snd_isub (by decide +kernel)) (x_okc (snd_aload_n (k := 0) rfl (by decide +kernel)) (x_okc (snd_gfi ko_7 (by decide) rfl wd_245 (by decide +kernel)) (x_okc (snd_icmp_ge (off := 49) (by decide) (by decide +kernel)) (x_okc (snd_aload_n (k := 0) rfl (by decide +kernel)) (x_okc (snd_gfr ko_7 (by decide) rfl (by decide) wd_243 (by decide +kernel)) (x_okc (snd_iload_n (k := 1) rfl (by decide +kernel)) (x_okc (snd_sipush (n := 5000) (by decide) (by decide +kernel)) (x_okc (snd_isub (by decide +kernel)) (x_okc (snd_aald ka_13 rfl rfl (by decide) (by decide) (by decide +kernel)) (x_okc (snd_aload_n (k := 2) rfl (by decide +kernel)) (x_okc (snd_pfr ko_6 (by decide) rfl (by decide) rfl wd_365 (Or.inl rfl) (by decide +kernel)) (x_okc (snd_goto (off := 32) (by decide) (by decide +kernel)) x_okn)))))))))))))))))))))))))
theorem o52_49 : x_okL x_xm xm_52 49 b52_49 := x_okc (snd_iload_n (k := 1) rfl (by decide +kernel)) (x_okc (snd_if_lt (off := 28) (by decide) (by decide +kernel)) (x_okc (snd_iload_n (k := 3) rfl (by decide +kernel)) (x_okc (snd_iconst (n := 3) (by decide) (by decide +kernel)) (x_okc (snd_icmp_ge (off := 23) (by decide) (by decide +kernel)) (x_okc (snd_iload (by decide +kernel)) (x_okc (snd_bipush (n := 33) (by decide) (by decide +kernel)) (x_okc (snd_icmp_ge (off := 16) (by decide) (by decide +kernel)) (x_okc (snd_aload_n (k := 0) rfl (by decide +kernel)) (x_okc (snd_gfr ko_7 (by decide) rfl (by decide) wd_241 (by decide +kernel)) (x_okc (snd_iload_n (k := 3) rfl (by decide +kernel)) (x_okc (snd_aald ka_11 rfl rfl (by decide) (by decide) (by decide +kernel)) (x_okc (snd_gfr ko_3 (by decide) rfl (by decide) wd_147 (by decide +kernel)) (x_okc (snd_iload (by decide +kernel)) (x_okc (snd_aload_n (k := 2) rfl (by decide +kernel)) (x_okc (snd_aast ka_17 ko_1 rfl rfl (by decide) (by decide +kernel)) (x_okc (snd_to) x_okn))))))))))))))))
theorem o52_78 : x_okL x_xm xm_52 78 b52_78 := x_okc (snd_ret rfl (by decide +kernel)) x_okn
theorem o52 : ∀ q ∈ t52, x_okL x_xm xm_52 q.1 q.2 := List.forall_mem_cons.mpr ⟨o52_0, List.forall_mem_cons.mpr ⟨o52_49, List.forall_mem_cons.mpr ⟨o52_78, fun _ h => absurd h List.not_mem_nil⟩⟩⟩
theorem p52 : x_okM xm_52 := ⟨by decide, rfl, fun h => by cases h⟩
theorem o53_0 : x_okL x_xm xm_53 0 b53_0 := x_okc (snd_aload_n (k := 0) rfl (by decide +kernel)) (x_okc (snd_iload_n (k := 2) rfl (by decide +kernel)) (x_okc (snd_aload_n (k := 1) rfl (by decide +kernel)) (x_okc (snd_callv (M' := xm_52) rfl ko_7 rfl rfl rfl rfl wd_517 wd_514 wd_516 wd_55 wd_5 (by decide +kernel) (Nat.le_of_ble_eq_true rfl) (Nat.le_of_ble_eq_true rfl) (by decide +kernel)) (x_okc (snd_aload_n (k := 1) rfl (by decide +kernel)) (x_okc (snd_gfr ko_1 (by decide) rfl (by decide) wd_189 (by decide +kernel)) (x_okc (snd_iload_n (k := 2) rfl (by decide +kernel)) (x_okc (snd_callv (M' := xm_37) rfl ko_5 rfl rfl rfl rfl wd_452 wd_449 wd_450 wd_57 wd_451 (by decide +kernel) (Nat.le_of_ble_eq_true rfl) (Nat.le_of_ble_eq_true rfl) (by decide +kernel)) (x_okc (snd_ret rfl (by decide +kernel)) x_okn))))))))
theorem o53 : ∀ q ∈ t53, x_okL x_xm xm_53 q.1 q.2 := List.forall_mem_cons.mpr ⟨o53_0, fun _ h => absurd h List.not_mem_nil⟩
theorem p53 : x_okM xm_53 := ⟨by decide, rfl, fun h => by cases h⟩
theorem o54_0 : x_okL x_xm xm_54 0 b54_0 := x_okc (snd_aload_n (k := 0) rfl (by decide +kernel)) (x_okc (snd_gfr ko_7 (by decide) rfl (by decide) wd_242 (by decide +kernel)) (x_okc (snd_aload_n (k := 2) rfl (by decide +kernel)) (x_okc (snd_callv (M' := xm_9) rfl ko_2 rfl rfl rfl rfl wd_495 wd_492 wd_493 wd_58 wd_494 (by decide +kernel) (Nat.le_of_ble_eq_true rfl) (Nat.le_of_ble_eq_true rfl) (by decide +kernel)) (x_okc (snd_aald ka_12 rfl rfl (by decide) (by decide) (by decide +kernel)) (x_okc (snd_astore (by decide +kernel)) (x_okc (snd_aload (by decide +kernel)) (x_okc (snd_aload_n (k := 1) rfl (by decide +kernel)) (x_okc (snd_iload_n (k := 3) rfl (by decide +kernel)) (x_okc (snd_callv (M' := xm_14) rfl ko_3 rfl rfl rfl rfl wd_499 wd_496 wd_497 wd_56 wd_498 (by decide +kernel) (Nat.le_of_ble_eq_true rfl) (Nat.le_of_ble_eq_true rfl) (by decide +kernel)) (x_okc (snd_callv (M' := xm_3) rfl ko_1 rfl rfl rfl rfl wd_503 wd_500 wd_501 wd_59 wd_502 (by decide +kernel) (Nat.le_of_ble_eq_true rfl) (Nat.le_of_ble_eq_true rfl) (by decide +kernel)) (x_okc (snd_aload_n (k := 2) rfl (by decide +kernel)) (x_okc (snd_aload (by decide +kernel)) (x_okc (snd_pfr ko_2 (by decide) rfl (by decide) rfl wd_128 (Or.inl rfl) (by decide +kernel)) (x_okc (snd_aload_n (k := 2) rfl (by decide +kernel)) (x_okc (snd_iconst (n := 1) (by decide) (by decide +kernel)) (x_okc (snd_pfi ko_2 (by decide) rfl rfl wd_125 (Or.inl rfl) (by decide +kernel)) (x_okc (snd_aload_n (k := 0) rfl (by decide +kernel)) (x_okc (snd_aload (by decide +kernel)) (x_okc (snd_aload (by decide +kernel)) (x_okc (snd_gfi ko_1 (by decide) rfl wd_203 (by decide +kernel)) (x_okc (snd_callv (M' := xm_53) rfl ko_7 rfl rfl rfl rfl wd_513 wd_510 wd_512 wd_55 wd_4 (by decide +kernel) (Nat.le_of_ble_eq_true rfl) (Nat.le_of_ble_eq_true rfl) (by decide +kernel)) (x_okc (snd_ret rfl (by decide +kernel)) x_okn))))))))))))))))))))))
theorem o54 : ∀ q ∈ t54, x_okL x_xm xm_54 q.1 q.2 := List.forall_mem_cons.mpr ⟨o54_0, fun _ h => absurd h List.not_mem_nil⟩
theorem p54 : x_okM xm_54 := ⟨by decide, rfl, fun h => by cases h⟩
theorem o55_0 : x_okL x_xm xm_55 0 b55_0 := x_okc (snd_aload_n (k := 1) rfl (by decide +kernel)) (x_okc (snd_bipush (n := 30) (by decide) (by decide +kernel)) (x_okc (snd_bipush (n := 33) (by decide) (by decide +kernel)) (x_okc (snd_callv (M' := xm_29) rfl ko_3 rfl rfl rfl rfl wd_487 wd_484 wd_485 wd_56 wd_486 (by decide +kernel) (Nat.le_of_ble_eq_true rfl) (Nat.le_of_ble_eq_true rfl) (by decide +kernel)) (x_okc (snd_istore_n (k := 3) rfl (by decide +kernel)) (x_okc (snd_iload_n (k := 3) rfl (by decide +kernel)) (x_okc (snd_iconst (n := -1) (by decide) (by decide +kernel)) (x_okc (snd_icmp_eq (off := 13) (by decide) (by decide +kernel)) (x_okc (snd_aload_n (k := 1) rfl (by decide +kernel)) (x_okc (snd_gfr ko_3 (by decide) rfl (by decide) wd_152 (by decide +kernel)) (x_okc (snd_callv (M' := xm_24) rfl ko_5 rfl rfl rfl rfl wd_444 wd_453 wd_442 wd_57 wd_443 (by decide +kernel) (Nat.le_of_ble_eq_true rfl) (Nat.le_of_ble_eq_true rfl) (by decide +kernel)) (x_okc (snd_if_le (off := 17) (by decide) (by decide +kernel)) (x_okc (snd_to) x_okn))))))))))))
theorem o55_24 : x_okL x_xm xm_55 24 b55_24 := x_okc (snd_aload_n (k := 1) rfl (by decide +kernel)) (x_okc (snd_gfr ko_3 (by decide) rfl (by decide) wd_152 (by decide +kernel)) (x_okc (snd_aload_n (k := 2) rfl (by decide +kernel)) (x_okc (snd_gfi ko_2 (by decide) rfl wd_120 (by decide +kernel)) (x_okc (snd_callv (M' := xm_37) rfl ko_5 rfl rfl rfl rfl wd_452 wd_449 wd_450 wd_57 wd_451 (by decide +kernel) (Nat.le_of_ble_eq_true rfl) (Nat.le_of_ble_eq_true rfl) (by decide +kernel)) (x_okc (snd_goto (off := 10) (by decide) (by decide +kernel)) x_okn)))))
theorem o55_38 : x_okL x_xm xm_55 38 b55_38 := x_okc (snd_aload_n (k := 0) rfl (by decide +kernel)) (x_okc (snd_aload_n (k := 1) rfl (by decide +kernel)) (x_okc (snd_aload_n (k := 2) rfl (by decide +kernel)) (x_okc (snd_iload_n (k := 3) rfl (by decide +kernel)) (x_okc (snd_callv (M' := xm_54) rfl ko_7 rfl rfl rfl rfl wd_491 wd_488 wd_490 wd_55 wd_3 (by decide +kernel) (Nat.le_of_ble_eq_true rfl) (Nat.le_of_ble_eq_true rfl) (by decide +kernel)) (x_okc (snd_to) x_okn)))))
theorem o55_45 : x_okL x_xm xm_55 45 b55_45 := x_okc (snd_ret rfl (by decide +kernel)) x_okn
theorem o55 : ∀ q ∈ t55, x_okL x_xm xm_55 q.1 q.2 := List.forall_mem_cons.mpr ⟨o55_0, List.forall_mem_cons.mpr ⟨o55_24, List.forall_mem_cons.mpr ⟨o55_38, List.forall_mem_cons.mpr ⟨o55_45, fun _ h => absurd h List.not_mem_nil⟩⟩⟩⟩
theorem p55 : x_okM xm_55 := ⟨by decide, rfl, fun h => by cases h⟩
theorem o56_0 : x_okL x_xm xm_56 0 b56_0 := x_okc (snd_aload_n (k := 1) rfl (by decide +kernel)) (x_okc (snd_gfr ko_1 (by decide) rfl (by decide) wd_187 (by decide +kernel)) (x_okc (snd_dup (by decide +kernel)) (x_okc (snd_gfi ko_2 (by decide) rfl wd_126 (by decide +kernel)) (x_okc (snd_aload_n (k := 1) rfl (by decide +kernel)) (x_okc (snd_callv (M' := xm_6) rfl ko_1 rfl rfl rfl rfl wd_533 wd_530 wd_531 wd_59 wd_532 (by decide +kernel) (Nat.le_of_ble_eq_true rfl) (Nat.le_of_ble_eq_true rfl) (by decide +kernel)) (x_okc (snd_iadd (by decide +kernel)) (x_okc (snd_pfi ko_2 (by decide) rfl rfl wd_126 (Or.inl rfl) (by decide +kernel)) (x_okc (snd_aload_n (k := 1) rfl (by decide +kernel)) (x_okc (snd_iconst (n := 0) (by decide) (by decide +kernel)) (x_okc (snd_pfi ko_1 (by decide) rfl rfl wd_208 (Or.inl rfl) (by decide +kernel)) (x_okc (snd_ret rfl (by decide +kernel)) x_okn)))))))))))
theorem o56 : ∀ q ∈ t56, x_okL x_xm xm_56 q.1 q.2 := List.forall_mem_cons.mpr ⟨o56_0, fun _ h => absurd h List.not_mem_nil⟩
theorem p56 : x_okM xm_56 := ⟨by decide, rfl, fun h => by cases h⟩
theorem o57_0 : x_okL x_xm xm_57 0 b57_0 := x_okc (snd_aload_n (k := 1) rfl (by decide +kernel)) (x_okc (snd_gfr ko_1 (by decide) rfl (by decide) wd_191 (by decide +kernel)) (x_okc (snd_stage (by decide) (by decide) wd_522 (by decide +kernel)) (x_okc (snd_ane (off := 23) (Or.inr rfl) (by decide) (by decide +kernel)) (x_okc (snd_aload_n (k := 1) rfl (by decide +kernel)) (x_okc (snd_stage (by decide) (by decide) wd_524 (by decide +kernel)) (x_okc (snd_pfr ko_1 (by decide) rfl (by decide) rfl wd_191 (Or.inl rfl) (by decide +kernel)) (x_okc (snd_aload_n (k := 1) rfl (by decide +kernel)) (x_okc (snd_gfr ko_1 (by decide) rfl (by decide) wd_187 (by decide +kernel)) (x_okc (snd_iconst (n := 0) (by decide) (by decide +kernel)) (x_okc (snd_pfi ko_2 (by decide) rfl rfl wd_125 (Or.inl rfl) (by decide +kernel)) (x_okc (snd_aload_n (k := 0) rfl (by decide +kernel)) (x_okc (snd_aload_n (k := 1) rfl (by decide +kernel)) (x_okc (snd_callv (M' := xm_56) rfl ko_7 rfl rfl rfl rfl wd_529 wd_526 wd_528 wd_55 wd_7 (by decide +kernel) (Nat.le_of_ble_eq_true rfl) (Nat.le_of_ble_eq_true rfl) (by decide +kernel)) (x_okc (snd_to) x_okn))))))))))))))
theorem o57_30 : x_okL x_xm xm_57 30 b57_30 := x_okc (snd_ret rfl (by decide +kernel)) x_okn
theorem o57 : ∀ q ∈ t57, x_okL x_xm xm_57 q.1 q.2 := List.forall_mem_cons.mpr ⟨o57_0, List.forall_mem_cons.mpr ⟨o57_30, fun _ h => absurd h List.not_mem_nil⟩⟩
theorem p57 : x_okM xm_57 := ⟨by decide, rfl, fun h => by cases h⟩
theorem o58_0 : x_okL x_xm xm_58 0 b58_0 := x_okc (snd_aload_n (k := 0) rfl (by decide +kernel)) (x_okc (snd_iload_n (k := 1) rfl (by decide +kernel)) (x_okc (snd_iload_n (k := 2) rfl (by decide +kernel)) (x_okc (snd_callv (M' := xm_51) rfl ko_7 rfl rfl rfl rfl wd_479 wd_476 wd_478 wd_55 wd_1 (by decide +kernel) (Nat.le_of_ble_eq_true rfl) (Nat.le_of_ble_eq_true rfl) (by decide +kernel)) (x_okc (snd_astore_n (k := 3) rfl (by decide +kernel)) (x_okc (snd_aload_n (k := 3) rfl (by decide +kernel)) (x_okc (snd_gfi ko_2 (by decide) rfl wd_122 (by decide +kernel)) (x_okc (snd_if_ne (off := 7) (by decide) (by decide +kernel)) (x_okc (snd_iconst (n := 1) (by decide) (by decide +kernel)) (x_okc (snd_goto (off := 4) (by decide) (by decide +kernel)) x_okn)))))))))
theorem o58_18 : x_okL x_xm xm_58 18 b58_18 := x_okc (snd_iconst (n := 0) (by decide) (by decide +kernel)) (x_okc (snd_to) x_okn)
theorem o58_19 : x_okL x_xm xm_58 19 b58_19 := x_okc (snd_calls (M' := xm_46) rfl rfl rfl rfl rfl wd_339 wd_337 wd_338 wd_55 (by decide +kernel) (Nat.le_of_ble_eq_true rfl) (Nat.le_of_ble_eq_true rfl) (by decide +kernel)) (x_okc (snd_aload_n (k := 3) rfl (by decide +kernel)) (x_okc (snd_iconst (n := 1) (by decide) (by decide +kernel)) (x_okc (snd_pfz ko_2 (by decide) rfl rfl wd_122 (Or.inl rfl) (by decide +kernel)) (x_okc (snd_aload_n (k := 3) rfl (by decide +kernel)) (x_okc (snd_gfr ko_2 (by decide) rfl (by decide) wd_128 (by decide +kernel)) (x_okc (snd_astore (by decide +kernel)) (x_okc (snd_aload (by decide +kernel)) (x_okc (snd_ifnonnull (off := 17) (by decide) (by decide +kernel)) (x_okc (snd_aload_n (k := 0) rfl (by decide +kernel)) (x_okc (snd_aload_n (k := 0) rfl (by decide +kernel)) (x_okc (snd_gfr ko_7 (by decide) rfl (by decide) wd_241 (by decide +kernel)) (x_okc (snd_iload_n (k := 1) rfl (by decide +kernel)) (x_okc (snd_aald ka_11 rfl rfl (by decide) (by decide) (by decide +kernel)) (x_okc (snd_aload_n (k := 3) rfl (by decide +kernel)) (x_okc (snd_callv (M' := xm_55) rfl ko_7 rfl rfl rfl rfl wd_483 wd_480 wd_482 wd_55 wd_2 (by decide +kernel) (Nat.le_of_ble_eq_true rfl) (Nat.le_of_ble_eq_true rfl) (by decide +kernel)) (x_okc (snd_goto (off := 18) (by decide) (by decide +kernel)) x_okn))))))))))))))))
theorem o58_52 : x_okL x_xm xm_58 52 b58_52 := x_okc (snd_aload (by decide +kernel)) (x_okc (snd_gfr ko_1 (by decide) rfl (by decide) wd_193 (by decide +kernel)) (x_okc (snd_aload_n (k := 3) rfl (by decide +kernel)) (x_okc (snd_ane (off := 9) (Or.inl ko_2) (by decide) (by decide +kernel)) (x_okc (snd_aload_n (k := 0) rfl (by decide +kernel)) (x_okc (snd_aload (by decide +kernel)) (x_okc (snd_callv (M' := xm_57) rfl ko_7 rfl rfl rfl rfl wd_521 wd_518 wd_520 wd_55 wd_6 (by decide +kernel) (Nat.le_of_ble_eq_true rfl) (Nat.le_of_ble_eq_true rfl) (by decide +kernel)) (x_okc (snd_to) x_okn)))))))
theorem o58_67 : x_okL x_xm xm_58 67 b58_67 := x_okc (snd_ret rfl (by decide +kernel)) x_okn
theorem o58 : ∀ q ∈ t58, x_okL x_xm xm_58 q.1 q.2 := List.forall_mem_cons.mpr ⟨o58_0, List.forall_mem_cons.mpr ⟨o58_18, List.forall_mem_cons.mpr ⟨o58_19, List.forall_mem_cons.mpr ⟨o58_52, List.forall_mem_cons.mpr ⟨o58_67, fun _ h => absurd h List.not_mem_nil⟩⟩⟩⟩⟩
theorem p58 : x_okM xm_58 := ⟨by decide, rfl, fun h => by cases h⟩
theorem o59_0 : x_okL x_xm xm_59 0 b59_0 := x_okc (snd_iconst (n := 0) (by decide) (by decide +kernel)) (x_okc (snd_istore_n (k := 3) rfl (by decide +kernel)) (x_okc (snd_to) x_okn))
theorem o59_2 : x_okL x_xm xm_59 2 b59_2 := x_okc (snd_iload_n (k := 3) rfl (by decide +kernel)) (x_okc (snd_aload_n (k := 1) rfl (by decide +kernel)) (x_okc (snd_gfr ko_1 (by decide) rfl (by decide) wd_189 (by decide +kernel)) (x_okc (snd_callv (M' := xm_24) rfl ko_5 rfl rfl rfl rfl wd_444 wd_453 wd_442 wd_57 wd_443 (by decide +kernel) (Nat.le_of_ble_eq_true rfl) (Nat.le_of_ble_eq_true rfl) (by decide +kernel)) (x_okc (snd_icmp_ge (off := 22) (by decide) (by decide +kernel)) (x_okc (snd_aload_n (k := 0) rfl (by decide +kernel)) (x_okc (snd_aload_n (k := 1) rfl (by decide +kernel)) (x_okc (snd_gfr ko_1 (by decide) rfl (by decide) wd_189 (by decide +kernel)) (x_okc (snd_iload_n (k := 3) rfl (by decide +kernel)) (x_okc (snd_callv (M' := xm_23) rfl ko_5 rfl rfl rfl rfl wd_552 wd_549 wd_550 wd_57 wd_551 (by decide +kernel) (Nat.le_of_ble_eq_true rfl) (Nat.le_of_ble_eq_true rfl) (by decide +kernel)) (x_okc (snd_null (by decide +kernel)) (x_okc (snd_callv (M' := xm_52) rfl ko_7 rfl rfl rfl rfl wd_517 wd_514 wd_516 wd_55 wd_5 (by decide +kernel) (Nat.le_of_ble_eq_true rfl) (Nat.le_of_ble_eq_true rfl) (by decide +kernel)) (x_okc (snd_iinc (n := 1) (by decide) (by decide +kernel)) (x_okc (snd_goto (off := -27) (by decide) (by decide +kernel)) x_okn)))))))))))))
theorem o59_32 : x_okL x_xm xm_59 32 b59_32 := x_okc (snd_aload_n (k := 1) rfl (by decide +kernel)) (x_okc (snd_gfr ko_1 (by decide) rfl (by decide) wd_189 (by decide +kernel)) (x_okc (snd_callv (M' := xm_39) rfl ko_5 rfl rfl rfl rfl wd_556 wd_553 wd_554 wd_57 wd_555 (by decide +kernel) (Nat.le_of_ble_eq_true rfl) (Nat.le_of_ble_eq_true rfl) (by decide +kernel)) (x_okc (snd_aload_n (k := 0) rfl (by decide +kernel)) (x_okc (snd_gfr ko_7 (by decide) rfl (by decide) wd_241 (by decide +kernel)) (x_okc (snd_aload_n (k := 1) rfl (by decide +kernel)) (x_okc (snd_gfi ko_1 (by decide) rfl wd_200 (by decide +kernel)) (x_okc (snd_aald ka_11 rfl rfl (by decide) (by decide) (by decide +kernel)) (x_okc (snd_gfr ko_3 (by decide) rfl (by decide) wd_154 (by decide +kernel)) (x_okc (snd_aload_n (k := 1) rfl (by decide +kernel)) (x_okc (snd_gfr ko_1 (by decide) rfl (by decide) wd_187 (by decide +kernel)) (x_okc (snd_callv (M' := xm_9) rfl ko_2 rfl rfl rfl rfl wd_495 wd_492 wd_493 wd_58 wd_494 (by decide +kernel) (Nat.le_of_ble_eq_true rfl) (Nat.le_of_ble_eq_true rfl) (by decide +kernel)) (x_okc (snd_callv (M' := xm_38) rfl ko_5 rfl rfl rfl rfl wd_544 wd_541 wd_542 wd_57 wd_543 (by decide +kernel) (Nat.le_of_ble_eq_true rfl) (Nat.le_of_ble_eq_true rfl) (by decide +kernel)) (x_okc (snd_aload_n (k := 1) rfl (by decide +kernel)) (x_okc (snd_gfr ko_1 (by decide) rfl (by decide) wd_187 (by decide +kernel)) (x_okc (snd_iload_n (k := 2) rfl (by decide +kernel)) (x_okc (snd_callv (M' := xm_12) rfl ko_2 rfl rfl rfl rfl wd_560 wd_557 wd_558 wd_58 wd_559 (by decide +kernel) (Nat.le_of_ble_eq_true rfl) (Nat.le_of_ble_eq_true rfl) (by decide +kernel)) (x_okc (snd_aload_n (k := 1) rfl (by decide +kernel)) (x_okc (snd_gfr ko_1 (by decide) rfl (by decide) wd_193 (by decide +kernel)) (x_okc (snd_ifnull (off := 11) (by decide) (by decide +kernel)) (x_okc (snd_aload_n (k := 1) rfl (by decide +kernel)) (x_okc (snd_gfr ko_1 (by decide) rfl (by decide) wd_193 (by decide +kernel)) (x_okc (snd_iconst (n := 3) (by decide) (by decide +kernel)) (x_okc (snd_callv (M' := xm_12) rfl ko_2 rfl rfl rfl rfl wd_560 wd_557 wd_558 wd_58 wd_559 (by decide +kernel) (Nat.le_of_ble_eq_true rfl) (Nat.le_of_ble_eq_true rfl) (by decide +kernel)) (x_okc (snd_to) x_okn))))))))))))))))))))))))
theorem o59_84 : x_okL x_xm xm_59 84 b59_84 := x_okc (snd_aload_n (k := 1) rfl (by decide +kernel)) (x_okc (snd_null (by decide +kernel)) (x_okc (snd_pfr ko_1 (by decide) rfl (by decide) rfl wd_193 (Or.inl rfl) (by decide +kernel)) (x_okc (snd_aload_n (k := 1) rfl (by decide +kernel)) (x_okc (snd_iconst (n := 0) (by decide) (by decide +kernel)) (x_okc (snd_pfz ko_1 (by decide) rfl rfl wd_196 (Or.inl rfl) (by decide +kernel)) (x_okc (snd_aload_n (k := 1) rfl (by decide +kernel)) (x_okc (snd_stage (by decide) (by decide) wd_561 (by decide +kernel)) (x_okc (snd_pfr ko_1 (by decide) rfl (by decide) rfl wd_191 (Or.inl rfl) (by decide +kernel)) (x_okc (snd_ret rfl (by decide +kernel)) x_okn)))))))))
theorem o59 : ∀ q ∈ t59, x_okL x_xm xm_59 q.1 q.2 := List.forall_mem_cons.mpr ⟨o59_0, List.forall_mem_cons.mpr ⟨o59_2, List.forall_mem_cons.mpr ⟨o59_32, List.forall_mem_cons.mpr ⟨o59_84, fun _ h => absurd h List.not_mem_nil⟩⟩⟩⟩
theorem p59 : x_okM xm_59 := ⟨by decide, rfl, fun h => by cases h⟩
theorem o60_0 : x_okL x_xm xm_60 0 b60_0 := x_okc (snd_aload_n (k := 0) rfl (by decide +kernel)) (x_okc (snd_iload_n (k := 1) rfl (by decide +kernel)) (x_okc (snd_iload_n (k := 2) rfl (by decide +kernel)) (x_okc (snd_callv (M' := xm_51) rfl ko_7 rfl rfl rfl rfl wd_479 wd_476 wd_478 wd_55 wd_1 (by decide +kernel) (Nat.le_of_ble_eq_true rfl) (Nat.le_of_ble_eq_true rfl) (by decide +kernel)) (x_okc (snd_astore_n (k := 3) rfl (by decide +kernel)) (x_okc (snd_aload_n (k := 3) rfl (by decide +kernel)) (x_okc (snd_gfi ko_2 (by decide) rfl wd_122 (by decide +kernel)) (x_okc (snd_calls (M' := xm_46) rfl rfl rfl rfl rfl wd_339 wd_337 wd_338 wd_55 (by decide +kernel) (Nat.le_of_ble_eq_true rfl) (Nat.le_of_ble_eq_true rfl) (by decide +kernel)) (x_okc (snd_aload_n (k := 3) rfl (by decide +kernel)) (x_okc (snd_iconst (n := 0) (by decide) (by decide +kernel)) (x_okc (snd_pfz ko_2 (by decide) rfl rfl wd_122 (Or.inl rfl) (by decide +kernel)) (x_okc (snd_aload_n (k := 3) rfl (by decide +kernel)) (x_okc (snd_iconst (n := 0) (by decide) (by decide +kernel)) (x_okc (snd_pfi ko_2 (by decide) rfl rfl wd_125 (Or.inl rfl) (by decide +kernel)) (x_okc (snd_aload_n (k := 3) rfl (by decide +kernel)) (x_okc (snd_gfr ko_2 (by decide) rfl (by decide) wd_128 (by decide +kernel)) (x_okc (snd_astore (by decide +kernel)) (x_okc (snd_aload (by decide +kernel)) (x_okc (snd_ifnonnull (off := 19) (by decide) (by decide +kernel)) (x_okc (snd_aload_n (k := 0) rfl (by decide +kernel)) (x_okc (snd_gfr ko_7 (by decide) rfl (by decide) wd_241 (by decide +kernel)) (x_okc (snd_iload_n (k := 1) rfl (by decide +kernel)) (x_okc (snd_aald ka_11 rfl rfl (by decide) (by decide) (by decide +kernel)) (x_okc (snd_gfr ko_3 (by decide) rfl (by decide) wd_152 (by decide +kernel)) (x_okc (snd_iload_n (k := 2) rfl (by decide +kernel)) (x_okc (snd_callv (M' := xm_38) rfl ko_5 rfl rfl rfl rfl wd_544 wd_541 wd_542 wd_57 wd_543 (by decide +kernel) (Nat.le_of_ble_eq_true rfl) (Nat.le_of_ble_eq_true rfl) (by decide +kernel)) (x_okc (snd_goto (off := 36) (by decide) (by decide +kernel)) x_okn))))))))))))))))))))))))))
theorem o60_51 : x_okL x_xm xm_60 51 b60_51 := x_okc (snd_aload (by decide +kernel)) (x_okc (snd_gfr ko_1 (by decide) rfl (by decide) wd_193 (by decide +kernel)) (x_okc (snd_aload_n (k := 3) rfl (by decide +kernel)) (x_okc (snd_ane (off := 12) (Or.inl ko_2) (by decide) (by decide +kernel)) (x_okc (snd_aload (by decide +kernel)) (x_okc (snd_iconst (n := 0) (by decide) (by decide +kernel)) (x_okc (snd_pfi ko_1 (by decide) rfl rfl wd_209 (Or.inl rfl) (by decide +kernel)) (x_okc (snd_goto (off := 18) (by decide) (by decide +kernel)) x_okn)))))))
theorem o60_69 : x_okL x_xm xm_60 69 b60_69 := x_okc (snd_aload (by decide +kernel)) (x_okc (snd_gfi ko_1 (by decide) rfl wd_196 (by decide +kernel)) (x_okc (snd_if_ne (off := 10) (by decide) (by decide +kernel)) (x_okc (snd_aload_n (k := 0) rfl (by decide +kernel)) (x_okc (snd_aload (by decide +kernel)) (x_okc (snd_iconst (n := 3) (by decide) (by decide +kernel)) (x_okc (snd_callv (M' := xm_59) rfl ko_7 rfl rfl rfl rfl wd_548 wd_545 wd_547 wd_55 wd_8 (by decide +kernel) (Nat.le_of_ble_eq_true rfl) (Nat.le_of_ble_eq_true rfl) (by decide +kernel)) (x_okc (snd_to) x_okn)))))))
theorem o60_84 : x_okL x_xm xm_60 84 b60_84 := x_okc (snd_ret rfl (by decide +kernel)) x_okn
theorem o60 : ∀ q ∈ t60, x_okL x_xm xm_60 q.1 q.2 := List.forall_mem_cons.mpr ⟨o60_0, List.forall_mem_cons.mpr ⟨o60_51, List.forall_mem_cons.mpr ⟨o60_69, List.forall_mem_cons.mpr ⟨o60_84, fun _ h => absurd h List.not_mem_nil⟩⟩⟩⟩
theorem p60 : x_okM xm_60 := ⟨by decide, rfl, fun h => by cases h⟩
theorem o61_0 : x_okL x_xm xm_61 0 b61_0 := x_okc (snd_aload_n (k := 2) rfl (by decide +kernel)) (x_okc (snd_stage (by decide) (by decide) wd_587 (by decide +kernel)) (x_okc (snd_pfr ko_1 (by decide) rfl (by decide) rfl wd_191 (Or.inl rfl) (by decide +kernel)) (x_okc (snd_aload_n (k := 1) rfl (by decide +kernel)) (x_okc (snd_gfr ko_3 (by decide) rfl (by decide) wd_154 (by decide +kernel)) (x_okc (snd_aload_n (k := 2) rfl (by decide +kernel)) (x_okc (snd_gfr ko_1 (by decide) rfl (by decide) wd_187 (by decide +kernel)) (x_okc (snd_callv (M' := xm_9) rfl ko_2 rfl rfl rfl rfl wd_495 wd_492 wd_493 wd_58 wd_494 (by decide +kernel) (Nat.le_of_ble_eq_true rfl) (Nat.le_of_ble_eq_true rfl) (by decide +kernel)) (x_okc (snd_callv (M' := xm_37) rfl ko_5 rfl rfl rfl rfl wd_452 wd_449 wd_450 wd_57 wd_451 (by decide +kernel) (Nat.le_of_ble_eq_true rfl) (Nat.le_of_ble_eq_true rfl) (by decide +kernel)) (x_okc (snd_ret rfl (by decide +kernel)) x_okn)))))))))
theorem o61 : ∀ q ∈ t61, x_okL x_xm xm_61 q.1 q.2 := List.forall_mem_cons.mpr ⟨o61_0, fun _ h => absurd h List.not_mem_nil⟩
theorem p61 : x_okM xm_61 := ⟨by decide, rfl, fun h => by cases h⟩
theorem o62_0 : x_okL x_xm xm_62 0 b62_0 := x_okc (snd_aload_n (k := 2) rfl (by decide +kernel)) (x_okc (snd_aload_n (k := 2) rfl (by decide +kernel)) (x_okc (snd_gfi ko_1 (by decide) rfl wd_198 (by decide +kernel)) (x_okc (snd_bipush (n := 10) (by decide) (by decide +kernel)) (x_okc (snd_imul (by decide +kernel)) (x_okc (snd_iload_n (k := 3) rfl (by decide +kernel)) (x_okc (snd_iadd (by decide +kernel)) (x_okc (snd_pfi ko_1 (by decide) rfl rfl wd_198 (Or.inl rfl) (by decide +kernel)) (x_okc (snd_aload_n (k := 2) rfl (by decide +kernel)) (x_okc (snd_iconst (n := 0) (by decide) (by decide +kernel)) (x_okc (snd_pfi ko_1 (by decide) rfl rfl wd_207 (Or.inl rfl) (by decide +kernel)) (x_okc (snd_aload_n (k := 2) rfl (by decide +kernel)) (x_okc (snd_gfr ko_1 (by decide) rfl (by decide) wd_187 (by decide +kernel)) (x_okc (snd_iconst (n := 0) (by decide) (by decide +kernel)) (x_okc (snd_pfi ko_2 (by decide) rfl rfl wd_125 (Or.inl rfl) (by decide +kernel)) (x_okc (snd_aload_n (k := 1) rfl (by decide +kernel)) (x_okc (snd_aload_n (k := 2) rfl (by decide +kernel)) (x_okc (snd_gfi ko_1 (by decide) rfl wd_198 (by decide +kernel)) (x_okc (snd_callv (M' := xm_17) rfl ko_3 rfl rfl rfl rfl wd_396 wd_574 wd_394 wd_56 wd_395 (by decide +kernel) (Nat.le_of_ble_eq_true rfl) (Nat.le_of_ble_eq_true rfl) (by decide +kernel)) (x_okc (snd_astore (by decide +kernel)) (x_okc (snd_aload (by decide +kernel)) (x_okc (snd_ifnonnull (off := 23) (by decide) (by decide +kernel)) (x_okc (snd_aload_n (k := 1) rfl (by decide +kernel)) (x_okc (snd_aload_n (k := 2) rfl (by decide +kernel)) (x_okc (snd_gfi ko_1 (by decide) rfl wd_198 (by decide +kernel)) (x_okc (snd_callv (M' := xm_18) rfl ko_3 rfl rfl rfl rfl wd_403 wd_575 wd_401 wd_56 wd_402 (by decide +kernel) (Nat.le_of_ble_eq_true rfl) (Nat.le_of_ble_eq_true rfl) (by decide +kernel)) (x_okc (snd_if_ne (off := 37) (by decide) (by decide +kernel)) (x_okc (snd_aload_n (k := 0) rfl (by decide +kernel)) (x_okc (snd_aload_n (k := 2) rfl (by decide +kernel)) (x_okc (snd_iconst (n := 5) (by decide) (by decide +kernel)) (x_okc (snd_callv (M' := xm_59) rfl ko_7 rfl rfl rfl rfl wd_548 wd_545 wd_547 wd_55 wd_8 (by decide +kernel) (Nat.le_of_ble_eq_true rfl) (Nat.le_of_ble_eq_true rfl) (by decide +kernel)) (x_okc (snd_goto (off := 28) (by decide) (by decide +kernel)) x_okn)))))))))))))))))))))))))))))))
theorem o62_61 : x_okL x_xm xm_62 61 b62_61 := x_okc (snd_aload (by decide +kernel)) (x_okc (snd_aload_n (k := 2) rfl (by decide +kernel)) (x_okc (snd_gfi ko_1 (by decide) rfl wd_198 (by decide +kernel)) (x_okc (snd_callv (M' := xm_35) rfl ko_4 rfl rfl rfl rfl wd_579 wd_576 wd_577 wd_69 wd_578 (by decide +kernel) (Nat.le_of_ble_eq_true rfl) (Nat.le_of_ble_eq_true rfl) (by decide +kernel)) (x_okc (snd_iconst (n := 2) (by decide) (by decide +kernel)) (x_okc (snd_icmp_lt (off := 15) (by decide) (by decide +kernel)) (x_okc (snd_aload_n (k := 2) rfl (by decide +kernel)) (x_okc (snd_aload (by decide +kernel)) (x_okc (snd_pfr ko_1 (by decide) rfl (by decide) rfl wd_195 (Or.inl rfl) (by decide +kernel)) (x_okc (snd_aload_n (k := 0) rfl (by decide +kernel)) (x_okc (snd_aload_n (k := 1) rfl (by decide +kernel)) (x_okc (snd_aload_n (k := 2) rfl (by decide +kernel)) (x_okc (snd_callv (M' := xm_61) rfl ko_7 rfl rfl rfl rfl wd_586 wd_583 wd_585 wd_55 wd_10 (by decide +kernel) (Nat.le_of_ble_eq_true rfl) (Nat.le_of_ble_eq_true rfl) (by decide +kernel)) (x_okc (snd_to) x_okn)))))))))))))
theorem o62_86 : x_okL x_xm xm_62 86 b62_86 := x_okc (snd_ret rfl (by decide +kernel)) x_okn
theorem o62 : ∀ q ∈ t62, x_okL x_xm xm_62 q.1 q.2 := List.forall_mem_cons.mpr ⟨o62_0, List.forall_mem_cons.mpr ⟨o62_61, List.forall_mem_cons.mpr ⟨o62_86, fun _ h => absurd h List.not_mem_nil⟩⟩⟩
theorem p62 : x_okM xm_62 := ⟨by decide, rfl, fun h => by cases h⟩
theorem o63_0 : x_okL x_xm xm_63 0 b63_0 := x_okc (snd_aload_n (k := 0) rfl (by decide +kernel)) (x_okc (snd_iload_n (k := 1) rfl (by decide +kernel)) (x_okc (snd_iload_n (k := 2) rfl (by decide +kernel)) (x_okc (snd_callv (M' := xm_51) rfl ko_7 rfl rfl rfl rfl wd_479 wd_476 wd_478 wd_55 wd_1 (by decide +kernel) (Nat.le_of_ble_eq_true rfl) (Nat.le_of_ble_eq_true rfl) (by decide +kernel)) (x_okc (snd_astore (by decide +kernel)) (x_okc (snd_iload_n (k := 3) rfl (by decide +kernel)) (x_okc (snd_iconst (n := 0) (by decide) (by decide +kernel)) (x_okc (snd_bipush (n := 9) (by decide) (by decide +kernel)) (x_okc (snd_calls (M' := xm_25) rfl rfl rfl rfl rfl wd_271 wd_269 wd_270 wd_55 (by decide +kernel) (Nat.le_of_ble_eq_true rfl) (Nat.le_of_ble_eq_true rfl) (by decide +kernel)) (x_okc (snd_calls (M' := xm_45) rfl rfl rfl rfl rfl wd_274 wd_272 wd_273 wd_55 (by decide +kernel) (Nat.le_of_ble_eq_true rfl) (Nat.le_of_ble_eq_true rfl) (by decide +kernel)) (x_okc (snd_aload (by decide +kernel)) (x_okc (snd_gfi ko_2 (by decide) rfl wd_122 (by decide +kernel)) (x_okc (snd_calls (M' := xm_46) rfl rfl rfl rfl rfl wd_339 wd_337 wd_338 wd_55 (by decide +kernel) (Nat.le_of_ble_eq_true rfl) (Nat.le_of_ble_eq_true rfl) (by decide +kernel)) (x_okc (snd_aload (by decide +kernel)) (x_okc (snd_gfr ko_2 (by decide) rfl (by decide) wd_128 (by decide +kernel)) (x_okc (snd_astore (by decide +kernel)) (x_okc (snd_aload (by decide +kernel)) (x_okc (snd_ifnull (off := 14) (by decide) (by decide +kernel)) (x_okc (snd_aload (by decide +kernel)) (x_okc (snd_gfr ko_1 (by decide) rfl (by decide) wd_191 (by decide +kernel)) (x_okc (snd_stage (by decide) (by decide) wd_569 (by decide +kernel)) (x_okc (snd_aeq (off := 5) (Or.inr rfl) (by decide) (by decide +kernel)) (x_okc (snd_to) x_okn))))))))))))))))))))))
theorem o63_49 : x_okL x_xm xm_63 49 b63_49 := x_okc (snd_iconst (n := 0) (by decide) (by decide +kernel)) (x_okc (snd_zret rfl (by decide +kernel)) x_okn)
theorem o63_51 : x_okL x_xm xm_63 51 b63_51 := x_okc (snd_aload_n (k := 0) rfl (by decide +kernel)) (x_okc (snd_aload_n (k := 0) rfl (by decide +kernel)) (x_okc (snd_gfr ko_7 (by decide) rfl (by decide) wd_241 (by decide +kernel)) (x_okc (snd_iload_n (k := 1) rfl (by decide +kernel)) (x_okc (snd_aald ka_11 rfl rfl (by decide) (by decide) (by decide +kernel)) (x_okc (snd_aload (by decide +kernel)) (x_okc (snd_iload_n (k := 3) rfl (by decide +kernel)) (x_okc (snd_callv (M' := xm_62) rfl ko_7 rfl rfl rfl rfl wd_573 wd_570 wd_572 wd_55 wd_9 (by decide +kernel) (Nat.le_of_ble_eq_true rfl) (Nat.le_of_ble_eq_true rfl) (by decide +kernel)) (x_okc (snd_iconst (n := 1) (by decide) (by decide +kernel)) (x_okc (snd_zret rfl (by decide +kernel)) x_okn)))))))))
theorem o63 : ∀ q ∈ t63, x_okL x_xm xm_63 q.1 q.2 := List.forall_mem_cons.mpr ⟨o63_0, List.forall_mem_cons.mpr ⟨o63_49, List.forall_mem_cons.mpr ⟨o63_51, fun _ h => absurd h List.not_mem_nil⟩⟩⟩
theorem p63 : x_okM xm_63 := ⟨by decide, rfl, fun h => by cases h⟩
theorem o64_0 : x_okL x_xm xm_64 0 b64_0 := x_okc (snd_iload_n (k := 3) rfl (by decide +kernel)) (x_okc (snd_iconst (n := -1) (by decide) (by decide +kernel)) (x_okc (snd_icmp_ne (off := 5) (by decide) (by decide +kernel)) (x_okc (snd_iconst (n := 0) (by decide) (by decide +kernel)) (x_okc (snd_zret rfl (by decide +kernel)) x_okn))))
theorem o64_7 : x_okL x_xm xm_64 7 b64_7 := x_okc (snd_aload_n (k := 0) rfl (by decide +kernel)) (x_okc (snd_aload_n (k := 2) rfl (by decide +kernel)) (x_okc (snd_aload_n (k := 1) rfl (by decide +kernel)) (x_okc (snd_iload_n (k := 3) rfl (by decide +kernel)) (x_okc (snd_callv (M' := xm_14) rfl ko_3 rfl rfl rfl rfl wd_499 wd_496 wd_497 wd_56 wd_498 (by decide +kernel) (Nat.le_of_ble_eq_true rfl) (Nat.le_of_ble_eq_true rfl) (by decide +kernel)) (x_okc (snd_callv (M' := xm_53) rfl ko_7 rfl rfl rfl rfl wd_513 wd_510 wd_512 wd_55 wd_4 (by decide +kernel) (Nat.le_of_ble_eq_true rfl) (Nat.le_of_ble_eq_true rfl) (by decide +kernel)) (x_okc (snd_aload_n (k := 1) rfl (by decide +kernel)) (x_okc (snd_iload_n (k := 3) rfl (by decide +kernel)) (x_okc (snd_iconst (n := 1) (by decide) (by decide +kernel)) (x_okc (snd_iadd (by decide +kernel)) (x_okc (snd_iconst (n := 4) (by decide) (by decide +kernel)) (x_okc (snd_irem (by decide +kernel)) (x_okc (snd_pfi ko_3 (by decide) rfl rfl wd_157 (Or.inl rfl) (by decide +kernel)) (x_okc (snd_iconst (n := 1) (by decide) (by decide +kernel)) (x_okc (snd_zret rfl (by decide +kernel)) x_okn))))))))))))))
theorem o64 : ∀ q ∈ t64, x_okL x_xm xm_64 q.1 q.2 := List.forall_mem_cons.mpr ⟨o64_0, List.forall_mem_cons.mpr ⟨o64_7, fun _ h => absurd h List.not_mem_nil⟩⟩
theorem p64 : x_okM xm_64 := ⟨by decide, rfl, fun h => by cases h⟩
theorem o65_0 : x_okL x_xm xm_65 0 b65_0 := x_okc (snd_aload_n (k := 1) rfl (by decide +kernel)) (x_okc (snd_bipush (n := 20) (by decide) (by decide +kernel)) (x_okc (snd_bipush (n := 25) (by decide) (by decide +kernel)) (x_okc (snd_callv (M' := xm_29) rfl ko_3 rfl rfl rfl rfl wd_487 wd_484 wd_485 wd_56 wd_486 (by decide +kernel) (Nat.le_of_ble_eq_true rfl) (Nat.le_of_ble_eq_true rfl) (by decide +kernel)) (x_okc (snd_istore (by decide +kernel)) (x_okc (snd_iload (by decide +kernel)) (x_okc (snd_iconst (n := -1) (by decide) (by decide +kernel)) (x_okc (snd_icmp_ne (off := 5) (by decide) (by decide +kernel)) (x_okc (snd_iconst (n := 0) (by decide) (by decide +kernel)) (x_okc (snd_zret rfl (by decide +kernel)) x_okn)))))))))
theorem o65_18 : x_okL x_xm xm_65 18 b65_18 := x_okc (snd_iconst (n := 0) (by decide) (by decide +kernel)) (x_okc (snd_istore (by decide +kernel)) (x_okc (snd_to) x_okn))
theorem o65_21 : x_okL x_xm xm_65 21 b65_21 := x_okc (snd_iload (by decide +kernel)) (x_okc (snd_iconst (n := 4) (by decide) (by decide +kernel)) (x_okc (snd_icmp_ge (off := 81) (by decide) (by decide +kernel)) (x_okc (snd_aload_n (k := 1) rfl (by decide +kernel)) (x_okc (snd_aload_n (k := 2) rfl (by decide +kernel)) (x_okc (snd_gfr ko_1 (by decide) rfl (by decide) wd_187 (by decide +kernel)) (x_okc (snd_iload (by decide +kernel)) (x_okc (snd_iconst (n := -1) (by decide) (by decide +kernel)) (x_okc (snd_callv (M' := xm_31) rfl ko_3 rfl rfl rfl rfl wd_632 wd_629 wd_630 wd_56 wd_631 (by decide +kernel) (Nat.le_of_ble_eq_true rfl) (Nat.le_of_ble_eq_true rfl) (by decide +kernel)) (x_okc (snd_istore (by decide +kernel)) (x_okc (snd_iload (by decide +kernel)) (x_okc (snd_iconst (n := -1) (by decide) (by decide +kernel)) (x_okc (snd_icmp_ne (off := 7) (by decide) (by decide +kernel)) (x_okc (snd_iconst (n := -1) (by decide) (by decide +kernel)) (x_okc (snd_goto (off := 11) (by decide) (by decide +kernel)) x_okn))))))))))))))
theorem o65_50 : x_okL x_xm xm_65 50 b65_50 := x_okc (snd_aload_n (k := 1) rfl (by decide +kernel)) (x_okc (snd_aload_n (k := 3) rfl (by decide +kernel)) (x_okc (snd_iconst (n := 0) (by decide) (by decide +kernel)) (x_okc (snd_iload (by decide +kernel)) (x_okc (snd_callv (M' := xm_31) rfl ko_3 rfl rfl rfl rfl wd_632 wd_629 wd_630 wd_56 wd_631 (by decide +kernel) (Nat.le_of_ble_eq_true rfl) (Nat.le_of_ble_eq_true rfl) (by decide +kernel)) (x_okc (snd_to) x_okn)))))
theorem o65_58 : x_okL x_xm xm_65 58 b65_58 := x_okc (snd_istore (by decide +kernel)) (x_okc (snd_iload (by decide +kernel)) (x_okc (snd_iconst (n := -1) (by decide) (by decide +kernel)) (x_okc (snd_icmp_eq (off := 36) (by decide) (by decide +kernel)) (x_okc (snd_aload_n (k := 0) rfl (by decide +kernel)) (x_okc (snd_aload_n (k := 1) rfl (by decide +kernel)) (x_okc (snd_aload_n (k := 2) rfl (by decide +kernel)) (x_okc (snd_iload (by decide +kernel)) (x_okc (snd_callv (M' := xm_64) rfl ko_7 rfl rfl rfl rfl wd_640 wd_637 wd_639 wd_55 wd_15 (by decide +kernel) (Nat.le_of_ble_eq_true rfl) (Nat.le_of_ble_eq_true rfl) (by decide +kernel)) (x_okc (snd_pop (by decide +kernel)) (x_okc (snd_aload_n (k := 0) rfl (by decide +kernel)) (x_okc (snd_aload_n (k := 2) rfl (by decide +kernel)) (x_okc (snd_aload_n (k := 1) rfl (by decide +kernel)) (x_okc (snd_iload (by decide +kernel)) (x_okc (snd_callv (M' := xm_14) rfl ko_3 rfl rfl rfl rfl wd_499 wd_496 wd_497 wd_56 wd_498 (by decide +kernel) (Nat.le_of_ble_eq_true rfl) (Nat.le_of_ble_eq_true rfl) (by decide +kernel)) (x_okc (snd_callv (M' := xm_53) rfl ko_7 rfl rfl rfl rfl wd_513 wd_510 wd_512 wd_55 wd_4 (by decide +kernel) (Nat.le_of_ble_eq_true rfl) (Nat.le_of_ble_eq_true rfl) (by decide +kernel)) (x_okc (snd_aload_n (k := 0) rfl (by decide +kernel)) (x_okc (snd_aload_n (k := 2) rfl (by decide +kernel)) (x_okc (snd_aload_n (k := 1) rfl (by decide +kernel)) (x_okc (snd_iload (by decide +kernel)) (x_okc (snd_callv (M' := xm_14) rfl ko_3 rfl rfl rfl rfl wd_499 wd_496 wd_497 wd_56 wd_498 (by decide +kernel) (Nat.le_of_ble_eq_true rfl) (Nat.le_of_ble_eq_true rfl) (by decide +kernel)) (x_okc (snd_callv (M' := xm_53) rfl ko_7 rfl rfl rfl rfl wd_513 wd_510 wd_512 wd_55 wd_4 (by decide +kernel) (Nat.le_of_ble_eq_true rfl) (Nat.le_of_ble_eq_true rfl) (by decide +kernel)) (x_okc (snd_iconst (n := 1) (by decide) (by decide +kernel)) (x_okc (snd_zret rfl (by decide +kernel)) x_okn)))))))))))))))))))))))
theorem o65_99 : x_okL x_xm xm_65 99 b65_99 := x_okc (snd_iinc (n := 1) (by decide) (by decide +kernel)) (x_okc (snd_goto (off := -81) (by decide) (by decide +kernel)) x_okn)
theorem o65_105 : x_okL x_xm xm_65 105 b65_105 := x_okc (snd_iconst (n := 0) (by decide) (by decide +kernel)) (x_okc (snd_zret rfl (by decide +kernel)) x_okn)
theorem o65 : ∀ q ∈ t65, x_okL x_xm xm_65 q.1 q.2 := List.forall_mem_cons.mpr ⟨o65_0, List.forall_mem_cons.mpr ⟨o65_18, List.forall_mem_cons.mpr ⟨o65_21, List.forall_mem_cons.mpr ⟨o65_50, List.forall_mem_cons.mpr ⟨o65_58, List.forall_mem_cons.mpr ⟨o65_99, List.forall_mem_cons.mpr ⟨o65_105, fun _ h => absurd h List.not_mem_nil⟩⟩⟩⟩⟩⟩⟩
theorem p65 : x_okM xm_65 := ⟨by decide, rfl, fun h => by cases h⟩
end
section
theorem o66_0 : x_okL x_xm xm_66 0 b66_0 := x_okc (snd_aload_n (k := 0) rfl (by decide +kernel)) (x_okc (snd_iload_n (k := 2) rfl (by decide +kernel)) (x_okc (snd_null (by decide +kernel)) (x_okc (snd_callv (M' := xm_52) rfl ko_7 rfl rfl rfl rfl wd_517 wd_514 wd_516 wd_55 wd_5 (by decide +kernel) (Nat.le_of_ble_eq_true rfl) (Nat.le_of_ble_eq_true rfl) (by decide +kernel)) (x_okc (snd_aload_n (k := 1) rfl (by decide +kernel)) (x_okc (snd_gfr ko_1 (by decide) rfl (by decide) wd_189 (by decide +kernel)) (x_okc (snd_iload_n (k := 2) rfl (by decide +kernel)) (x_okc (snd_callv (M' := xm_38) rfl ko_5 rfl rfl rfl rfl wd_544 wd_541 wd_542 wd_57 wd_543 (by decide +kernel) (Nat.le_of_ble_eq_true rfl) (Nat.le_of_ble_eq_true rfl) (by decide +kernel)) (x_okc (snd_ret rfl (by decide +kernel)) x_okn))))))))
theorem o66 : ∀ q ∈ t66, x_okL x_xm xm_66 q.1 q.2 := List.forall_mem_cons.mpr ⟨o66_0, fun _ h => absurd h List.not_mem_nil⟩
theorem p66 : x_okM xm_66 := ⟨by decide, rfl, fun h => by cases h⟩
theorem o67_0 : x_okL x_xm xm_67 0 b67_0 := x_okc (snd_iload_n (k := 3) rfl (by decide +kernel)) (x_okc (snd_calls (M' := xm_26) rfl rfl rfl rfl rfl wd_463 wd_461 wd_462 wd_55 (by decide +kernel) (Nat.le_of_ble_eq_true rfl) (Nat.le_of_ble_eq_true rfl) (by decide +kernel)) (x_okc (snd_if_ne (off := 10) (by decide) (by decide +kernel)) (x_okc (snd_aload_n (k := 0) rfl (by decide +kernel)) (x_okc (snd_aload_n (k := 2) rfl (by decide +kernel)) (x_okc (snd_iconst (n := 5) (by decide) (by decide +kernel)) (x_okc (snd_callv (M' := xm_59) rfl ko_7 rfl rfl rfl rfl wd_548 wd_545 wd_547 wd_55 wd_8 (by decide +kernel) (Nat.le_of_ble_eq_true rfl) (Nat.le_of_ble_eq_true rfl) (by decide +kernel)) (x_okc (snd_ret rfl (by decide +kernel)) x_okn)))))))
theorem o67_14 : x_okL x_xm xm_67 14 b67_14 := x_okc (snd_aload_n (k := 1) rfl (by decide +kernel)) (x_okc (snd_gfr ko_3 (by decide) rfl (by decide) wd_145 (by decide +kernel)) (x_okc (snd_aload_n (k := 1) rfl (by decide +kernel)) (x_okc (snd_iload_n (k := 3) rfl (by decide +kernel)) (x_okc (snd_callv (M' := xm_28) rfl ko_3 rfl rfl rfl rfl wd_612 wd_609 wd_610 wd_56 wd_611 (by decide +kernel) (Nat.le_of_ble_eq_true rfl) (Nat.le_of_ble_eq_true rfl) (by decide +kernel)) (x_okc (snd_aald ka_16 rfl rfl (by decide) (by decide) (by decide +kernel)) (x_okc (snd_astore (by decide +kernel)) (x_okc (snd_aload (by decide +kernel)) (x_okc (snd_callv (M' := xm_11) rfl ko_2 rfl rfl rfl rfl wd_623 wd_624 wd_621 wd_58 wd_622 (by decide +kernel) (Nat.le_of_ble_eq_true rfl) (Nat.le_of_ble_eq_true rfl) (by decide +kernel)) (x_okc (snd_if_ne (off := 10) (by decide) (by decide +kernel)) (x_okc (snd_aload_n (k := 0) rfl (by decide +kernel)) (x_okc (snd_aload_n (k := 2) rfl (by decide +kernel)) (x_okc (snd_iconst (n := 3) (by decide) (by decide +kernel)) (x_okc (snd_callv (M' := xm_59) rfl ko_7 rfl rfl rfl rfl wd_548 wd_545 wd_547 wd_55 wd_8 (by decide +kernel) (Nat.le_of_ble_eq_true rfl) (Nat.le_of_ble_eq_true rfl) (by decide +kernel)) (x_okc (snd_ret rfl (by decide +kernel)) x_okn))))))))))))))
theorem o67_41 : x_okL x_xm xm_67 41 b67_41 := x_okc (snd_aload_n (k := 2) rfl (by decide +kernel)) (x_okc (snd_gfr ko_1 (by decide) rfl (by decide) wd_187 (by decide +kernel)) (x_okc (snd_gfi ko_2 (by decide) rfl wd_118 (by decide +kernel)) (x_okc (snd_aload_n (k := 1) rfl (by decide +kernel)) (x_okc (snd_gfi ko_3 (by decide) rfl wd_143 (by decide +kernel)) (x_okc (snd_icmp_ne (off := 14) (by decide) (by decide +kernel)) (x_okc (snd_aload_n (k := 0) rfl (by decide +kernel)) (x_okc (snd_aload_n (k := 1) rfl (by decide +kernel)) (x_okc (snd_aload_n (k := 2) rfl (by decide +kernel)) (x_okc (snd_aload (by decide +kernel)) (x_okc (snd_callv (M' := xm_65) rfl ko_7 rfl rfl rfl rfl wd_628 wd_625 wd_627 wd_55 wd_14 (by decide +kernel) (Nat.le_of_ble_eq_true rfl) (Nat.le_of_ble_eq_true rfl) (by decide +kernel)) (x_okc (snd_goto (off := 17) (by decide) (by decide +kernel)) x_okn)))))))))))
theorem o67_66 : x_okL x_xm xm_67 66 b67_66 := x_okc (snd_aload_n (k := 0) rfl (by decide +kernel)) (x_okc (snd_aload_n (k := 1) rfl (by decide +kernel)) (x_okc (snd_aload_n (k := 2) rfl (by decide +kernel)) (x_okc (snd_aload_n (k := 1) rfl (by decide +kernel)) (x_okc (snd_aload (by decide +kernel)) (x_okc (snd_iconst (n := 0) (by decide) (by decide +kernel)) (x_okc (snd_iconst (n := -1) (by decide) (by decide +kernel)) (x_okc (snd_callv (M' := xm_31) rfl ko_3 rfl rfl rfl rfl wd_632 wd_629 wd_630 wd_56 wd_631 (by decide +kernel) (Nat.le_of_ble_eq_true rfl) (Nat.le_of_ble_eq_true rfl) (by decide +kernel)) (x_okc (snd_callv (M' := xm_64) rfl ko_7 rfl rfl rfl rfl wd_640 wd_637 wd_639 wd_55 wd_15 (by decide +kernel) (Nat.le_of_ble_eq_true rfl) (Nat.le_of_ble_eq_true rfl) (by decide +kernel)) (x_okc (snd_to) x_okn)))))))))
theorem o67_80 : x_okL x_xm xm_67 80 b67_80 := x_okc (snd_istore (by decide +kernel)) (x_okc (snd_iload (by decide +kernel)) (x_okc (snd_if_ne (off := 10) (by decide) (by decide +kernel)) (x_okc (snd_aload_n (k := 0) rfl (by decide +kernel)) (x_okc (snd_aload_n (k := 2) rfl (by decide +kernel)) (x_okc (snd_iconst (n := 4) (by decide) (by decide +kernel)) (x_okc (snd_callv (M' := xm_59) rfl ko_7 rfl rfl rfl rfl wd_548 wd_545 wd_547 wd_55 wd_8 (by decide +kernel) (Nat.le_of_ble_eq_true rfl) (Nat.le_of_ble_eq_true rfl) (by decide +kernel)) (x_okc (snd_ret rfl (by decide +kernel)) x_okn)))))))
theorem o67_94 : x_okL x_xm xm_67 94 b67_94 := x_okc (snd_aload_n (k := 0) rfl (by decide +kernel)) (x_okc (snd_aload_n (k := 2) rfl (by decide +kernel)) (x_okc (snd_aload_n (k := 2) rfl (by decide +kernel)) (x_okc (snd_gfi ko_1 (by decide) rfl wd_203 (by decide +kernel)) (x_okc (snd_callv (M' := xm_66) rfl ko_7 rfl rfl rfl rfl wd_644 wd_641 wd_643 wd_55 wd_16 (by decide +kernel) (Nat.le_of_ble_eq_true rfl) (Nat.le_of_ble_eq_true rfl) (by decide +kernel)) (x_okc (snd_aload_n (k := 2) rfl (by decide +kernel)) (x_okc (snd_stage (by decide) (by decide) wd_522 (by decide +kernel)) (x_okc (snd_pfr ko_1 (by decide) rfl (by decide) rfl wd_191 (Or.inl rfl) (by decide +kernel)) (x_okc (snd_aload_n (k := 2) rfl (by decide +kernel)) (x_okc (snd_aload (by decide +kernel)) (x_okc (snd_pfr ko_1 (by decide) rfl (by decide) rfl wd_193 (Or.inl rfl) (by decide +kernel)) (x_okc (snd_aload (by decide +kernel)) (x_okc (snd_aload_n (k := 2) rfl (by decide +kernel)) (x_okc (snd_pfr ko_2 (by decide) rfl (by decide) rfl wd_128 (Or.inl rfl) (by decide +kernel)) (x_okc (snd_aload_n (k := 2) rfl (by decide +kernel)) (x_okc (snd_gfr ko_1 (by decide) rfl (by decide) wd_187 (by decide +kernel)) (x_okc (snd_iconst (n := 2) (by decide) (by decide +kernel)) (x_okc (snd_pfi ko_2 (by decide) rfl rfl wd_125 (Or.inl rfl) (by decide +kernel)) (x_okc (snd_ret rfl (by decide +kernel)) x_okn))))))))))))))))))
theorem o67 : ∀ q ∈ t67, x_okL x_xm xm_67 q.1 q.2 := List.forall_mem_cons.mpr ⟨o67_0, List.forall_mem_cons.mpr ⟨o67_14, List.forall_mem_cons.mpr ⟨o67_41, List.forall_mem_cons.mpr ⟨o67_66, List.forall_mem_cons.mpr ⟨o67_80, List.forall_mem_cons.mpr ⟨o67_94, fun _ h => absurd h List.not_mem_nil⟩⟩⟩⟩⟩⟩
theorem p67 : x_okM xm_67 := ⟨by decide, rfl, fun h => by cases h⟩
theorem o68_0 : x_okL x_xm xm_68 0 b68_0 := x_okc (snd_iconst (n := 0) (by decide) (by decide +kernel)) (x_okc (snd_istore_n (k := 3) rfl (by decide +kernel)) (x_okc (snd_to) x_okn))
theorem o68_2 : x_okL x_xm xm_68 2 b68_2 := x_okc (snd_iload_n (k := 3) rfl (by decide +kernel)) (x_okc (snd_aload_n (k := 0) rfl (by decide +kernel)) (x_okc (snd_gfi ko_7 (by decide) rfl wd_245 (by decide +kernel)) (x_okc (snd_icmp_ge (off := 49) (by decide) (by decide +kernel)) (x_okc (snd_aload_n (k := 0) rfl (by decide +kernel)) (x_okc (snd_gfr ko_7 (by decide) rfl (by decide) wd_243 (by decide +kernel)) (x_okc (snd_iload_n (k := 3) rfl (by decide +kernel)) (x_okc (snd_aald ka_13 rfl rfl (by decide) (by decide) (by decide +kernel)) (x_okc (snd_callv (M' := xm_41) rfl ko_6 rfl rfl rfl rfl wd_664 wd_661 wd_662 wd_68 wd_663 (by decide +kernel) (Nat.le_of_ble_eq_true rfl) (Nat.le_of_ble_eq_true rfl) (by decide +kernel)) (x_okc (snd_if_eq (off := 31) (by decide) (by decide +kernel)) (x_okc (snd_aload_n (k := 0) rfl (by decide +kernel)) (x_okc (snd_gfr ko_7 (by decide) rfl (by decide) wd_243 (by decide +kernel)) (x_okc (snd_iload_n (k := 3) rfl (by decide +kernel)) (x_okc (snd_aald ka_13 rfl rfl (by decide) (by decide) (by decide +kernel)) (x_okc (snd_iload_n (k := 1) rfl (by decide +kernel)) (x_okc (snd_callv (M' := xm_42) rfl ko_6 rfl rfl rfl rfl wd_668 wd_665 wd_666 wd_68 wd_667 (by decide +kernel) (Nat.le_of_ble_eq_true rfl) (Nat.le_of_ble_eq_true rfl) (by decide +kernel)) (x_okc (snd_if_eq (off := 18) (by decide) (by decide +kernel)) (x_okc (snd_aload_n (k := 0) rfl (by decide +kernel)) (x_okc (snd_gfr ko_7 (by decide) rfl (by decide) wd_243 (by decide +kernel)) (x_okc (snd_iload_n (k := 3) rfl (by decide +kernel)) (x_okc (snd_aald ka_13 rfl rfl (by decide) (by decide) (by decide +kernel)) (x_okc (snd_iload_n (k := 2) rfl (by decide +kernel)) (x_okc (snd_callv (M' := xm_42) rfl ko_6 rfl rfl rfl rfl wd_668 wd_665 wd_666 wd_68 wd_667 (by decide +kernel) (Nat.le_of_ble_eq_true rfl) (Nat.le_of_ble_eq_true rfl) (by decide +kernel)) (x_okc (snd_if_eq (off := 5) (by decide) (by decide +kernel)) (x_okc (snd_iload_n (k := 3) rfl (by decide +kernel)) (x_okc (snd_iret rfl (by decide +kernel)) x_okn)))))))))))))))))))))))))
theorem o68_50 : x_okL x_xm xm_68 50 b68_50 := x_okc (snd_iinc (n := 1) (by decide) (by decide +kernel)) (x_okc (snd_goto (off := -51) (by decide) (by decide +kernel)) x_okn)
theorem o68_56 : x_okL x_xm xm_68 56 b68_56 := x_okc (snd_iconst (n := -1) (by decide) (by decide +kernel)) (x_okc (snd_iret rfl (by decide +kernel)) x_okn)
theorem o68 : ∀ q ∈ t68, x_okL x_xm xm_68 q.1 q.2 := List.forall_mem_cons.mpr ⟨o68_0, List.forall_mem_cons.mpr ⟨o68_2, List.forall_mem_cons.mpr ⟨o68_50, List.forall_mem_cons.mpr ⟨o68_56, fun _ h => absurd h List.not_mem_nil⟩⟩⟩⟩
theorem p68 : x_okM xm_68 := ⟨by decide, rfl, fun h => by cases h⟩
theorem o69_0 : x_okL x_xm xm_69 0 b69_0 := x_okc (snd_aload_n (k := 0) rfl (by decide +kernel)) (x_okc (snd_aload_n (k := 1) rfl (by decide +kernel)) (x_okc (snd_gfi ko_3 (by decide) rfl wd_143 (by decide +kernel)) (x_okc (snd_aload_n (k := 3) rfl (by decide +kernel)) (x_okc (snd_gfi ko_3 (by decide) rfl wd_143 (by decide +kernel)) (x_okc (snd_callv (M' := xm_68) rfl ko_7 rfl rfl rfl rfl wd_660 wd_657 wd_659 wd_55 wd_19 (by decide +kernel) (Nat.le_of_ble_eq_true rfl) (Nat.le_of_ble_eq_true rfl) (by decide +kernel)) (x_okc (snd_istore (by decide +kernel)) (x_okc (snd_iload (by decide +kernel)) (x_okc (snd_iconst (n := -1) (by decide) (by decide +kernel)) (x_okc (snd_icmp_ne (off := 23) (by decide) (by decide +kernel)) (x_okc (snd_aload_n (k := 0) rfl (by decide +kernel)) (x_okc (snd_gfr ko_7 (by decide) rfl (by decide) wd_244 (by decide +kernel)) (x_okc (snd_aload_n (k := 1) rfl (by decide +kernel)) (x_okc (snd_gfi ko_3 (by decide) rfl wd_143 (by decide +kernel)) (x_okc (snd_aald ka_14 rfl rfl (by decide) (by decide) (by decide +kernel)) (x_okc (snd_aload_n (k := 3) rfl (by decide +kernel)) (x_okc (snd_gfi ko_3 (by decide) rfl wd_143 (by decide +kernel)) (x_okc (snd_dup2 (by decide +kernel)) (x_okc (snd_ald ka_15 rfl rfl (by decide) (by decide +kernel)) (x_okc (snd_iconst (n := 1) (by decide) (by decide +kernel)) (x_okc (snd_iadd (by decide +kernel)) (x_okc (snd_ast ka_15 rfl rfl (by decide) (by decide +kernel)) (x_okc (snd_iconst (n := 0) (by decide) (by decide +kernel)) (x_okc (snd_zret rfl (by decide +kernel)) x_okn)))))))))))))))))))))))
theorem o69_40 : x_okL x_xm xm_69 40 b69_40 := x_okc (snd_aload_n (k := 3) rfl (by decide +kernel)) (x_okc (snd_bipush (n := 30) (by decide) (by decide +kernel)) (x_okc (snd_bipush (n := 33) (by decide) (by decide +kernel)) (x_okc (snd_callv (M' := xm_29) rfl ko_3 rfl rfl rfl rfl wd_487 wd_484 wd_485 wd_56 wd_486 (by decide +kernel) (Nat.le_of_ble_eq_true rfl) (Nat.le_of_ble_eq_true rfl) (by decide +kernel)) (x_okc (snd_istore (by decide +kernel)) (x_okc (snd_iload (by decide +kernel)) (x_okc (snd_iconst (n := -1) (by decide) (by decide +kernel)) (x_okc (snd_icmp_ne (off := 5) (by decide) (by decide +kernel)) (x_okc (snd_iconst (n := 0) (by decide) (by decide +kernel)) (x_okc (snd_zret rfl (by decide +kernel)) x_okn)))))))))
theorem o69_58 : x_okL x_xm xm_69 58 b69_58 := x_okc (snd_aload_n (k := 2) rfl (by decide +kernel)) (x_okc (snd_gfr ko_1 (by decide) rfl (by decide) wd_187 (by decide +kernel)) (x_okc (snd_gfi ko_2 (by decide) rfl wd_118 (by decide +kernel)) (x_okc (snd_aload_n (k := 1) rfl (by decide +kernel)) (x_okc (snd_gfi ko_3 (by decide) rfl wd_143 (by decide +kernel)) (x_okc (snd_icmp_ne (off := 24) (by decide) (by decide +kernel)) (x_okc (snd_aload_n (k := 0) rfl (by decide +kernel)) (x_okc (snd_aload_n (k := 1) rfl (by decide +kernel)) (x_okc (snd_aload_n (k := 2) rfl (by decide +kernel)) (x_okc (snd_aload_n (k := 1) rfl (by decide +kernel)) (x_okc (snd_aload_n (k := 2) rfl (by decide +kernel)) (x_okc (snd_gfr ko_1 (by decide) rfl (by decide) wd_187 (by decide +kernel)) (x_okc (snd_iconst (n := 0) (by decide) (by decide +kernel)) (x_okc (snd_iconst (n := -1) (by decide) (by decide +kernel)) (x_okc (snd_callv (M' := xm_31) rfl ko_3 rfl rfl rfl rfl wd_632 wd_629 wd_630 wd_56 wd_631 (by decide +kernel) (Nat.le_of_ble_eq_true rfl) (Nat.le_of_ble_eq_true rfl) (by decide +kernel)) (x_okc (snd_callv (M' := xm_64) rfl ko_7 rfl rfl rfl rfl wd_640 wd_637 wd_639 wd_55 wd_15 (by decide +kernel) (Nat.le_of_ble_eq_true rfl) (Nat.le_of_ble_eq_true rfl) (by decide +kernel)) (x_okc (snd_if_ne (off := 5) (by decide) (by decide +kernel)) (x_okc (snd_iconst (n := 0) (by decide) (by decide +kernel)) (x_okc (snd_zret rfl (by decide +kernel)) x_okn))))))))))))))))))
theorem o69_93 : x_okL x_xm xm_69 93 b69_93 := x_okc (snd_aload_n (k := 0) rfl (by decide +kernel)) (x_okc (snd_aload_n (k := 2) rfl (by decide +kernel)) (x_okc (snd_sipush (n := 5000) (by decide) (by decide +kernel)) (x_okc (snd_iload (by decide +kernel)) (x_okc (snd_iadd (by decide +kernel)) (x_okc (snd_callv (M' := xm_53) rfl ko_7 rfl rfl rfl rfl wd_513 wd_510 wd_512 wd_55 wd_4 (by decide +kernel) (Nat.le_of_ble_eq_true rfl) (Nat.le_of_ble_eq_true rfl) (by decide +kernel)) (x_okc (snd_aload_n (k := 2) rfl (by decide +kernel)) (x_okc (snd_aload_n (k := 3) rfl (by decide +kernel)) (x_okc (snd_iload (by decide +kernel)) (x_okc (snd_callv (M' := xm_14) rfl ko_3 rfl rfl rfl rfl wd_499 wd_496 wd_497 wd_56 wd_498 (by decide +kernel) (Nat.le_of_ble_eq_true rfl) (Nat.le_of_ble_eq_true rfl) (by decide +kernel)) (x_okc (snd_pfi ko_1 (by decide) rfl rfl wd_204 (Or.inl rfl) (by decide +kernel)) (x_okc (snd_aload_n (k := 0) rfl (by decide +kernel)) (x_okc (snd_aload_n (k := 2) rfl (by decide +kernel)) (x_okc (snd_aload_n (k := 2) rfl (by decide +kernel)) (x_okc (snd_gfi ko_1 (by decide) rfl wd_204 (by decide +kernel)) (x_okc (snd_callv (M' := xm_53) rfl ko_7 rfl rfl rfl rfl wd_513 wd_510 wd_512 wd_55 wd_4 (by decide +kernel) (Nat.le_of_ble_eq_true rfl) (Nat.le_of_ble_eq_true rfl) (by decide +kernel)) (x_okc (snd_aload_n (k := 2) rfl (by decide +kernel)) (x_okc (snd_aload_n (k := 3) rfl (by decide +kernel)) (x_okc (snd_gfi ko_3 (by decide) rfl wd_143 (by decide +kernel)) (x_okc (snd_callv (M' := xm_2) rfl ko_1 rfl rfl rfl rfl wd_509 wd_669 wd_507 wd_59 wd_508 (by decide +kernel) (Nat.le_of_ble_eq_true rfl) (Nat.le_of_ble_eq_true rfl) (by decide +kernel)) (x_okc (snd_iconst (n := 1) (by decide) (by decide +kernel)) (x_okc (snd_zret rfl (by decide +kernel)) x_okn)))))))))))))))))))))
theorem o69 : ∀ q ∈ t69, x_okL x_xm xm_69 q.1 q.2 := List.forall_mem_cons.mpr ⟨o69_0, List.forall_mem_cons.mpr ⟨o69_40, List.forall_mem_cons.mpr ⟨o69_58, List.forall_mem_cons.mpr ⟨o69_93, fun _ h => absurd h List.not_mem_nil⟩⟩⟩⟩
theorem p69 : x_okM xm_69 := ⟨by decide, rfl, fun h => by cases h⟩
theorem o70_0 : x_okL x_xm xm_70 0 b70_0 := x_okc (snd_iconst (n := 0) (by decide) (by decide +kernel)) (x_okc (snd_istore (by decide +kernel)) (x_okc (snd_to) x_okn))
theorem o70_3 : x_okL x_xm xm_70 3 b70_3 := x_okc (snd_iload (by decide +kernel)) (x_okc (snd_aload_n (k := 3) rfl (by decide +kernel)) (x_okc (snd_gfr ko_4 (by decide) rfl (by decide) wd_417 (by decide +kernel)) (x_okc (snd_callv (M' := xm_24) rfl ko_5 rfl rfl rfl rfl wd_444 wd_453 wd_442 wd_57 wd_443 (by decide +kernel) (Nat.le_of_ble_eq_true rfl) (Nat.le_of_ble_eq_true rfl) (by decide +kernel)) (x_okc (snd_icmp_ge (off := 72) (by decide) (by decide +kernel)) (x_okc (snd_aload_n (k := 3) rfl (by decide +kernel)) (x_okc (snd_gfr ko_4 (by decide) rfl (by decide) wd_417 (by decide +kernel)) (x_okc (snd_iload (by decide +kernel)) (x_okc (snd_callv (M' := xm_23) rfl ko_5 rfl rfl rfl rfl wd_552 wd_549 wd_550 wd_57 wd_551 (by decide +kernel) (Nat.le_of_ble_eq_true rfl) (Nat.le_of_ble_eq_true rfl) (by decide +kernel)) (x_okc (snd_istore (by decide +kernel)) (x_okc (snd_iload (by decide +kernel)) (x_okc (snd_calls (M' := xm_44) rfl rfl rfl rfl rfl wd_268 wd_266 wd_267 wd_55 (by decide +kernel) (Nat.le_of_ble_eq_true rfl) (Nat.le_of_ble_eq_true rfl) (by decide +kernel)) (x_okc (snd_if_eq (off := 47) (by decide) (by decide +kernel)) (x_okc (snd_aload_n (k := 2) rfl (by decide +kernel)) (x_okc (snd_iload (by decide +kernel)) (x_okc (snd_callv (M' := xm_4) rfl ko_1 rfl rfl rfl rfl wd_652 wd_649 wd_650 wd_59 wd_651 (by decide +kernel) (Nat.le_of_ble_eq_true rfl) (Nat.le_of_ble_eq_true rfl) (by decide +kernel)) (x_okc (snd_if_ne (off := 38) (by decide) (by decide +kernel)) (x_okc (snd_aload_n (k := 0) rfl (by decide +kernel)) (x_okc (snd_aload_n (k := 1) rfl (by decide +kernel)) (x_okc (snd_aload_n (k := 2) rfl (by decide +kernel)) (x_okc (snd_aload_n (k := 0) rfl (by decide +kernel)) (x_okc (snd_gfr ko_7 (by decide) rfl (by decide) wd_241 (by decide +kernel)) (x_okc (snd_iload (by decide +kernel)) (x_okc (snd_aald ka_11 rfl rfl (by decide) (by decide) (by decide +kernel)) (x_okc (snd_callv (M' := xm_69) rfl ko_7 rfl rfl rfl rfl wd_656 wd_653 wd_655 wd_55 wd_18 (by decide +kernel) (Nat.le_of_ble_eq_true rfl) (Nat.le_of_ble_eq_true rfl) (by decide +kernel)) (x_okc (snd_if_eq (off := 22) (by decide) (by decide +kernel)) (x_okc (snd_aload_n (k := 2) rfl (by decide +kernel)) (x_okc (snd_aload_n (k := 2) rfl (by decide +kernel)) (x_okc (snd_gfi ko_1 (by decide) rfl wd_198 (by decide +kernel)) (x_okc (snd_calls (M' := xm_34) rfl rfl rfl rfl rfl wd_582 wd_670 wd_581 wd_55 (by decide +kernel) (Nat.le_of_ble_eq_true rfl) (Nat.le_of_ble_eq_true rfl) (by decide +kernel)) (x_okc (snd_pfi ko_1 (by decide) rfl rfl wd_205 (Or.inl rfl) (by decide +kernel)) (x_okc (snd_aload_n (k := 2) rfl (by decide +kernel)) (x_okc (snd_stage (by decide) (by decide) wd_671 (by decide +kernel)) (x_okc (snd_pfr ko_1 (by decide) rfl (by decide) rfl wd_191 (Or.inl rfl) (by decide +kernel)) (x_okc (snd_ret rfl (by decide +kernel)) x_okn))))))))))))))))))))))))))))))))))
theorem o70_78 : x_okL x_xm xm_70 78 b70_78 := x_okc (snd_iinc (n := 1) (by decide) (by decide +kernel)) (x_okc (snd_goto (off := -78) (by decide) (by decide +kernel)) x_okn)
theorem o70_84 : x_okL x_xm xm_70 84 b70_84 := x_okc (snd_aload_n (k := 0) rfl (by decide +kernel)) (x_okc (snd_aload_n (k := 2) rfl (by decide +kernel)) (x_okc (snd_iconst (n := 4) (by decide) (by decide +kernel)) (x_okc (snd_callv (M' := xm_59) rfl ko_7 rfl rfl rfl rfl wd_548 wd_545 wd_547 wd_55 wd_8 (by decide +kernel) (Nat.le_of_ble_eq_true rfl) (Nat.le_of_ble_eq_true rfl) (by decide +kernel)) (x_okc (snd_ret rfl (by decide +kernel)) x_okn))))
theorem o70 : ∀ q ∈ t70, x_okL x_xm xm_70 q.1 q.2 := List.forall_mem_cons.mpr ⟨o70_0, List.forall_mem_cons.mpr ⟨o70_3, List.forall_mem_cons.mpr ⟨o70_78, List.forall_mem_cons.mpr ⟨o70_84, fun _ h => absurd h List.not_mem_nil⟩⟩⟩⟩
theorem p70 : x_okM xm_70 := ⟨by decide, rfl, fun h => by cases h⟩
theorem o71_0 : x_okL x_xm xm_71 0 b71_0 := x_okc (snd_aload_n (k := 1) rfl (by decide +kernel)) (x_okc (snd_gfr ko_3 (by decide) rfl (by decide) wd_154 (by decide +kernel)) (x_okc (snd_iconst (n := 0) (by decide) (by decide +kernel)) (x_okc (snd_callv (M' := xm_23) rfl ko_5 rfl rfl rfl rfl wd_552 wd_549 wd_550 wd_57 wd_551 (by decide +kernel) (Nat.le_of_ble_eq_true rfl) (Nat.le_of_ble_eq_true rfl) (by decide +kernel)) (x_okc (snd_istore_n (k := 2) rfl (by decide +kernel)) (x_okc (snd_iload_n (k := 2) rfl (by decide +kernel)) (x_okc (snd_if_lt (off := 12) (by decide) (by decide +kernel)) (x_okc (snd_iload_n (k := 2) rfl (by decide +kernel)) (x_okc (snd_aload_n (k := 0) rfl (by decide +kernel)) (x_okc (snd_gfr ko_7 (by decide) rfl (by decide) wd_242 (by decide +kernel)) (x_okc (snd_alen ka_12 (by decide +kernel)) (x_okc (snd_icmp_lt (off := 4) (by decide) (by decide +kernel)) (x_okc (snd_to) x_okn))))))))))))
theorem o71_22 : x_okL x_xm xm_71 22 b71_22 := x_okc (snd_ret rfl (by decide +kernel)) x_okn
theorem o71_23 : x_okL x_xm xm_71 23 b71_23 := x_okc (snd_aload_n (k := 1) rfl (by decide +kernel)) (x_okc (snd_gfr ko_3 (by decide) rfl (by decide) wd_154 (by decide +kernel)) (x_okc (snd_iload_n (k := 2) rfl (by decide +kernel)) (x_okc (snd_callv (M' := xm_38) rfl ko_5 rfl rfl rfl rfl wd_544 wd_541 wd_542 wd_57 wd_543 (by decide +kernel) (Nat.le_of_ble_eq_true rfl) (Nat.le_of_ble_eq_true rfl) (by decide +kernel)) (x_okc (snd_aload_n (k := 0) rfl (by decide +kernel)) (x_okc (snd_gfr ko_7 (by decide) rfl (by decide) wd_242 (by decide +kernel)) (x_okc (snd_iload_n (k := 2) rfl (by decide +kernel)) (x_okc (snd_aald ka_12 rfl rfl (by decide) (by decide) (by decide +kernel)) (x_okc (snd_astore_n (k := 3) rfl (by decide +kernel)) (x_okc (snd_aload_n (k := 1) rfl (by decide +kernel)) (x_okc (snd_aload_n (k := 3) rfl (by decide +kernel)) (x_okc (snd_gfi ko_1 (by decide) rfl wd_198 (by decide +kernel)) (x_okc (snd_callv (M' := xm_17) rfl ko_3 rfl rfl rfl rfl wd_396 wd_574 wd_394 wd_56 wd_395 (by decide +kernel) (Nat.le_of_ble_eq_true rfl) (Nat.le_of_ble_eq_true rfl) (by decide +kernel)) (x_okc (snd_astore (by decide +kernel)) (x_okc (snd_aload (by decide +kernel)) (x_okc (snd_ifnull (off := 16) (by decide) (by decide +kernel)) (x_okc (snd_aload (by decide +kernel)) (x_okc (snd_aload_n (k := 3) rfl (by decide +kernel)) (x_okc (snd_gfi ko_1 (by decide) rfl wd_198 (by decide +kernel)) (x_okc (snd_callv (M' := xm_35) rfl ko_4 rfl rfl rfl rfl wd_579 wd_576 wd_577 wd_69 wd_578 (by decide +kernel) (Nat.le_of_ble_eq_true rfl) (Nat.le_of_ble_eq_true rfl) (by decide +kernel)) (x_okc (snd_iconst (n := 2) (by decide) (by decide +kernel)) (x_okc (snd_icmp_ge (off := 12) (by decide) (by decide +kernel)) (x_okc (snd_to) x_okn))))))))))))))))))))))
theorem o71_66 : x_okL x_xm xm_71 66 b71_66 := x_okc (snd_aload_n (k := 0) rfl (by decide +kernel)) (x_okc (snd_aload_n (k := 3) rfl (by decide +kernel)) (x_okc (snd_iconst (n := 5) (by decide) (by decide +kernel)) (x_okc (snd_callv (M' := xm_59) rfl ko_7 rfl rfl rfl rfl wd_548 wd_545 wd_547 wd_55 wd_8 (by decide +kernel) (Nat.le_of_ble_eq_true rfl) (Nat.le_of_ble_eq_true rfl) (by decide +kernel)) (x_okc (snd_goto (off := 37) (by decide) (by decide +kernel)) x_okn))))
theorem o71_75 : x_okL x_xm xm_71 75 b71_75 := x_okc (snd_aload (by decide +kernel)) (x_okc (snd_gfi ko_4 (by decide) rfl wd_415 (by decide +kernel)) (x_okc (snd_if_eq (off := 21) (by decide) (by decide +kernel)) (x_okc (snd_aload_n (k := 0) rfl (by decide +kernel)) (x_okc (snd_aload_n (k := 1) rfl (by decide +kernel)) (x_okc (snd_aload_n (k := 3) rfl (by decide +kernel)) (x_okc (snd_aload (by decide +kernel)) (x_okc (snd_aload_n (k := 3) rfl (by decide +kernel)) (x_okc (snd_gfi ko_1 (by decide) rfl wd_198 (by decide +kernel)) (x_okc (snd_callv (M' := xm_36) rfl ko_4 rfl rfl rfl rfl wd_603 wd_600 wd_601 wd_69 wd_602 (by decide +kernel) (Nat.le_of_ble_eq_true rfl) (Nat.le_of_ble_eq_true rfl) (by decide +kernel)) (x_okc (snd_callv (M' := xm_67) rfl ko_7 rfl rfl rfl rfl wd_608 wd_605 wd_607 wd_55 wd_12 (by decide +kernel) (Nat.le_of_ble_eq_true rfl) (Nat.le_of_ble_eq_true rfl) (by decide +kernel)) (x_okc (snd_goto (off := 11) (by decide) (by decide +kernel)) x_okn)))))))))))
theorem o71_101 : x_okL x_xm xm_71 101 b71_101 := x_okc (snd_aload_n (k := 0) rfl (by decide +kernel)) (x_okc (snd_aload_n (k := 1) rfl (by decide +kernel)) (x_okc (snd_aload_n (k := 3) rfl (by decide +kernel)) (x_okc (snd_aload (by decide +kernel)) (x_okc (snd_callv (M' := xm_70) rfl ko_7 rfl rfl rfl rfl wd_648 wd_645 wd_647 wd_55 wd_17 (by decide +kernel) (Nat.le_of_ble_eq_true rfl) (Nat.le_of_ble_eq_true rfl) (by decide +kernel)) (x_okc (snd_to) x_okn)))))
theorem o71_109 : x_okL x_xm xm_71 109 b71_109 := x_okc (snd_ret rfl (by decide +kernel)) x_okn
theorem o71 : ∀ q ∈ t71, x_okL x_xm xm_71 q.1 q.2 := List.forall_mem_cons.mpr ⟨o71_0, List.forall_mem_cons.mpr ⟨o71_22, List.forall_mem_cons.mpr ⟨o71_23, List.forall_mem_cons.mpr ⟨o71_66, List.forall_mem_cons.mpr ⟨o71_75, List.forall_mem_cons.mpr ⟨o71_101, List.forall_mem_cons.mpr ⟨o71_109, fun _ h => absurd h List.not_mem_nil⟩⟩⟩⟩⟩⟩⟩
theorem p71 : x_okM xm_71 := ⟨by decide, rfl, fun h => by cases h⟩
theorem o72_0 : x_okL x_xm xm_72 0 b72_0 := x_okc (snd_aload_n (k := 1) rfl (by decide +kernel)) (x_okc (snd_dup (by decide +kernel)) (x_okc (snd_gfi ko_1 (by decide) rfl wd_205 (by decide +kernel)) (x_okc (snd_iconst (n := 1) (by decide) (by decide +kernel)) (x_okc (snd_isub (by decide +kernel)) (x_okc (snd_pfi ko_1 (by decide) rfl rfl wd_205 (Or.inl rfl) (by decide +kernel)) (x_okc (snd_aload_n (k := 1) rfl (by decide +kernel)) (x_okc (snd_gfi ko_1 (by decide) rfl wd_205 (by decide +kernel)) (x_okc (snd_if_gt (off := 34) (by decide) (by decide +kernel)) (x_okc (snd_aload_n (k := 0) rfl (by decide +kernel)) (x_okc (snd_aload_n (k := 1) rfl (by decide +kernel)) (x_okc (snd_aload_n (k := 1) rfl (by decide +kernel)) (x_okc (snd_gfi ko_1 (by decide) rfl wd_203 (by decide +kernel)) (x_okc (snd_callv (M' := xm_66) rfl ko_7 rfl rfl rfl rfl wd_644 wd_641 wd_643 wd_55 wd_16 (by decide +kernel) (Nat.le_of_ble_eq_true rfl) (Nat.le_of_ble_eq_true rfl) (by decide +kernel)) (x_okc (snd_aload_n (k := 1) rfl (by decide +kernel)) (x_okc (snd_aload_n (k := 1) rfl (by decide +kernel)) (x_okc (snd_gfi ko_1 (by decide) rfl wd_204 (by decide +kernel)) (x_okc (snd_pfi ko_1 (by decide) rfl rfl wd_203 (Or.inl rfl) (by decide +kernel)) (x_okc (snd_aload_n (k := 0) rfl (by decide +kernel)) (x_okc (snd_aload_n (k := 0) rfl (by decide +kernel)) (x_okc (snd_gfr ko_7 (by decide) rfl (by decide) wd_241 (by decide +kernel)) (x_okc (snd_aload_n (k := 1) rfl (by decide +kernel)) (x_okc (snd_gfi ko_1 (by decide) rfl wd_200 (by decide +kernel)) (x_okc (snd_aald ka_11 rfl rfl (by decide) (by decide) (by decide +kernel)) (x_okc (snd_aload_n (k := 1) rfl (by decide +kernel)) (x_okc (snd_callv (M' := xm_61) rfl ko_7 rfl rfl rfl rfl wd_586 wd_583 wd_585 wd_55 wd_10 (by decide +kernel) (Nat.le_of_ble_eq_true rfl) (Nat.le_of_ble_eq_true rfl) (by decide +kernel)) (x_okc (snd_to) x_okn))))))))))))))))))))))))))
theorem o72_48 : x_okL x_xm xm_72 48 b72_48 := x_okc (snd_ret rfl (by decide +kernel)) x_okn
theorem o72 : ∀ q ∈ t72, x_okL x_xm xm_72 q.1 q.2 := List.forall_mem_cons.mpr ⟨o72_0, List.forall_mem_cons.mpr ⟨o72_48, fun _ h => absurd h List.not_mem_nil⟩⟩
theorem p72 : x_okM xm_72 := ⟨by decide, rfl, fun h => by cases h⟩
theorem o73_0 : x_okL x_xm xm_73 0 b73_0 := x_okc (snd_iconst (n := 0) (by decide) (by decide +kernel)) (x_okc (snd_istore_n (k := 1) rfl (by decide +kernel)) (x_okc (snd_to) x_okn))
theorem o73_2 : x_okL x_xm xm_73 2 b73_2 := x_okc (snd_iload_n (k := 1) rfl (by decide +kernel)) (x_okc (snd_iconst (n := 3) (by decide) (by decide +kernel)) (x_okc (snd_icmp_ge (off := 72) (by decide) (by decide +kernel)) (x_okc (snd_bipush (n := 30) (by decide) (by decide +kernel)) (x_okc (snd_istore_n (k := 2) rfl (by decide +kernel)) (x_okc (snd_to) x_okn)))))
theorem o73_10 : x_okL x_xm xm_73 10 b73_10 := x_okc (snd_iload_n (k := 2) rfl (by decide +kernel)) (x_okc (snd_bipush (n := 33) (by decide) (by decide +kernel)) (x_okc (snd_icmp_ge (off := 57) (by decide) (by decide +kernel)) (x_okc (snd_aload_n (k := 0) rfl (by decide +kernel)) (x_okc (snd_gfr ko_7 (by decide) rfl (by decide) wd_241 (by decide +kernel)) (x_okc (snd_iload_n (k := 1) rfl (by decide +kernel)) (x_okc (snd_aald ka_11 rfl rfl (by decide) (by decide) (by decide +kernel)) (x_okc (snd_gfr ko_3 (by decide) rfl (by decide) wd_147 (by decide +kernel)) (x_okc (snd_iload_n (k := 2) rfl (by decide +kernel)) (x_okc (snd_aald ka_17 rfl rfl (by decide) (by decide) (by decide +kernel)) (x_okc (snd_astore_n (k := 3) rfl (by decide +kernel)) (x_okc (snd_aload_n (k := 3) rfl (by decide +kernel)) (x_okc (snd_ifnull (off := 35) (by decide) (by decide +kernel)) (x_okc (snd_aload_n (k := 3) rfl (by decide +kernel)) (x_okc (snd_gfr ko_1 (by decide) rfl (by decide) wd_191 (by decide +kernel)) (x_okc (snd_stage (by decide) (by decide) wd_671 (by decide +kernel)) (x_okc (snd_ane (off := 25) (Or.inr rfl) (by decide) (by decide +kernel)) (x_okc (snd_aload_n (k := 3) rfl (by decide +kernel)) (x_okc (snd_gfi ko_1 (by decide) rfl wd_203 (by decide +kernel)) (x_okc (snd_aload_n (k := 0) rfl (by decide +kernel)) (x_okc (snd_gfr ko_7 (by decide) rfl (by decide) wd_241 (by decide +kernel)) (x_okc (snd_iload_n (k := 1) rfl (by decide +kernel)) (x_okc (snd_aald ka_11 rfl rfl (by decide) (by decide) (by decide +kernel)) (x_okc (snd_iload_n (k := 2) rfl (by decide +kernel)) (x_okc (snd_callv (M' := xm_14) rfl ko_3 rfl rfl rfl rfl wd_499 wd_496 wd_497 wd_56 wd_498 (by decide +kernel) (Nat.le_of_ble_eq_true rfl) (Nat.le_of_ble_eq_true rfl) (by decide +kernel)) (x_okc (snd_icmp_ne (off := 8) (by decide) (by decide +kernel)) (x_okc (snd_aload_n (k := 0) rfl (by decide +kernel)) (x_okc (snd_aload_n (k := 3) rfl (by decide +kernel)) (x_okc (snd_callv (M' := xm_72) rfl ko_7 rfl rfl rfl rfl wd_680 wd_677 wd_679 wd_55 wd_21 (by decide +kernel) (Nat.le_of_ble_eq_true rfl) (Nat.le_of_ble_eq_true rfl) (by decide +kernel)) (x_okc (snd_to) x_okn)))))))))))))))))))))))))))))
theorem o73_64 : x_okL x_xm xm_73 64 b73_64 := x_okc (snd_iinc (n := 1) (by decide) (by decide +kernel)) (x_okc (snd_goto (off := -57) (by decide) (by decide +kernel)) x_okn)
theorem o73_70 : x_okL x_xm xm_73 70 b73_70 := x_okc (snd_iinc (n := 1) (by decide) (by decide +kernel)) (x_okc (snd_goto (off := -71) (by decide) (by decide +kernel)) x_okn)
theorem o73_76 : x_okL x_xm xm_73 76 b73_76 := x_okc (snd_ret rfl (by decide +kernel)) x_okn
theorem o73 : ∀ q ∈ t73, x_okL x_xm xm_73 q.1 q.2 := List.forall_mem_cons.mpr ⟨o73_0, List.forall_mem_cons.mpr ⟨o73_2, List.forall_mem_cons.mpr ⟨o73_10, List.forall_mem_cons.mpr ⟨o73_64, List.forall_mem_cons.mpr ⟨o73_70, List.forall_mem_cons.mpr ⟨o73_76, fun _ h => absurd h List.not_mem_nil⟩⟩⟩⟩⟩⟩
theorem p73 : x_okM xm_73 := ⟨by decide, rfl, fun h => by cases h⟩
theorem o74_0 : x_okL x_xm xm_74 0 b74_0 := x_okc (snd_aload_n (k := 1) rfl (by decide +kernel)) (x_okc (snd_dup (by decide +kernel)) (x_okc (snd_gfi ko_1 (by decide) rfl wd_207 (by decide +kernel)) (x_okc (snd_iconst (n := 1) (by decide) (by decide +kernel)) (x_okc (snd_iadd (by decide +kernel)) (x_okc (snd_pfi ko_1 (by decide) rfl rfl wd_207 (Or.inl rfl) (by decide +kernel)) (x_okc (snd_aload_n (k := 1) rfl (by decide +kernel)) (x_okc (snd_gfi ko_1 (by decide) rfl wd_207 (by decide +kernel)) (x_okc (snd_bipush (n := 20) (by decide) (by decide +kernel)) (x_okc (snd_icmp_lt (off := 9) (by decide) (by decide +kernel)) (x_okc (snd_aload_n (k := 0) rfl (by decide +kernel)) (x_okc (snd_aload_n (k := 1) rfl (by decide +kernel)) (x_okc (snd_iconst (n := 3) (by decide) (by decide +kernel)) (x_okc (snd_callv (M' := xm_59) rfl ko_7 rfl rfl rfl rfl wd_548 wd_545 wd_547 wd_55 wd_8 (by decide +kernel) (Nat.le_of_ble_eq_true rfl) (Nat.le_of_ble_eq_true rfl) (by decide +kernel)) (x_okc (snd_to) x_okn))))))))))))))
theorem o74_25 : x_okL x_xm xm_74 25 b74_25 := x_okc (snd_ret rfl (by decide +kernel)) x_okn
theorem o74 : ∀ q ∈ t74, x_okL x_xm xm_74 q.1 q.2 := List.forall_mem_cons.mpr ⟨o74_0, List.forall_mem_cons.mpr ⟨o74_25, fun _ h => absurd h List.not_mem_nil⟩⟩
theorem p74 : x_okM xm_74 := ⟨by decide, rfl, fun h => by cases h⟩
theorem o75_0 : x_okL x_xm xm_75 0 b75_0 := x_okc (snd_aload_n (k := 1) rfl (by decide +kernel)) (x_okc (snd_callv (M' := xm_5) rfl ko_1 rfl rfl rfl rfl wd_696 wd_693 wd_694 wd_59 wd_695 (by decide +kernel) (Nat.le_of_ble_eq_true rfl) (Nat.le_of_ble_eq_true rfl) (by decide +kernel)) (x_okc (snd_if_eq (off := 38) (by decide) (by decide +kernel)) (x_okc (snd_aload_n (k := 1) rfl (by decide +kernel)) (x_okc (snd_dup (by decide +kernel)) (x_okc (snd_gfi ko_1 (by decide) rfl wd_208 (by decide +kernel)) (x_okc (snd_iconst (n := 1) (by decide) (by decide +kernel)) (x_okc (snd_iadd (by decide +kernel)) (x_okc (snd_pfi ko_1 (by decide) rfl rfl wd_208 (Or.inl rfl) (by decide +kernel)) (x_okc (snd_aload_n (k := 1) rfl (by decide +kernel)) (x_okc (snd_callv (M' := xm_7) rfl ko_1 rfl rfl rfl rfl wd_700 wd_697 wd_698 wd_59 wd_699 (by decide +kernel) (Nat.le_of_ble_eq_true rfl) (Nat.le_of_ble_eq_true rfl) (by decide +kernel)) (x_okc (snd_istore_n (k := 2) rfl (by decide +kernel)) (x_okc (snd_iload_n (k := 2) rfl (by decide +kernel)) (x_okc (snd_if_le (off := 16) (by decide) (by decide +kernel)) (x_okc (snd_aload_n (k := 1) rfl (by decide +kernel)) (x_okc (snd_gfi ko_1 (by decide) rfl wd_208 (by decide +kernel)) (x_okc (snd_iload_n (k := 2) rfl (by decide +kernel)) (x_okc (snd_icmp_lt (off := 8) (by decide) (by decide +kernel)) (x_okc (snd_aload_n (k := 0) rfl (by decide +kernel)) (x_okc (snd_aload_n (k := 1) rfl (by decide +kernel)) (x_okc (snd_callv (M' := xm_56) rfl ko_7 rfl rfl rfl rfl wd_529 wd_526 wd_528 wd_55 wd_7 (by decide +kernel) (Nat.le_of_ble_eq_true rfl) (Nat.le_of_ble_eq_true rfl) (by decide +kernel)) (x_okc (snd_to) x_okn)))))))))))))))))))))
theorem o75_39 : x_okL x_xm xm_75 39 b75_39 := x_okc (snd_goto (off := 35) (by decide) (by decide +kernel)) x_okn
theorem o75_42 : x_okL x_xm xm_75 42 b75_42 := x_okc (snd_aload_n (k := 1) rfl (by decide +kernel)) (x_okc (snd_gfi ko_1 (by decide) rfl wd_196 (by decide +kernel)) (x_okc (snd_if_ne (off := 28) (by decide) (by decide +kernel)) (x_okc (snd_aload_n (k := 1) rfl (by decide +kernel)) (x_okc (snd_dup (by decide +kernel)) (x_okc (snd_gfi ko_1 (by decide) rfl wd_209 (by decide +kernel)) (x_okc (snd_iconst (n := 1) (by decide) (by decide +kernel)) (x_okc (snd_iadd (by decide +kernel)) (x_okc (snd_pfi ko_1 (by decide) rfl rfl wd_209 (Or.inl rfl) (by decide +kernel)) (x_okc (snd_aload_n (k := 1) rfl (by decide +kernel)) (x_okc (snd_gfi ko_1 (by decide) rfl wd_209 (by decide +kernel)) (x_okc (snd_bipush (n := 12) (by decide) (by decide +kernel)) (x_okc (snd_icmp_lt (off := 9) (by decide) (by decide +kernel)) (x_okc (snd_aload_n (k := 0) rfl (by decide +kernel)) (x_okc (snd_aload_n (k := 1) rfl (by decide +kernel)) (x_okc (snd_iconst (n := 3) (by decide) (by decide +kernel)) (x_okc (snd_callv (M' := xm_59) rfl ko_7 rfl rfl rfl rfl wd_548 wd_545 wd_547 wd_55 wd_8 (by decide +kernel) (Nat.le_of_ble_eq_true rfl) (Nat.le_of_ble_eq_true rfl) (by decide +kernel)) (x_okc (snd_to) x_okn)))))))))))))))))
theorem o75_74 : x_okL x_xm xm_75 74 b75_74 := x_okc (snd_ret rfl (by decide +kernel)) x_okn
theorem o75 : ∀ q ∈ t75, x_okL x_xm xm_75 q.1 q.2 := List.forall_mem_cons.mpr ⟨o75_0, List.forall_mem_cons.mpr ⟨o75_39, List.forall_mem_cons.mpr ⟨o75_42, List.forall_mem_cons.mpr ⟨o75_74, fun _ h => absurd h List.not_mem_nil⟩⟩⟩⟩
theorem p75 : x_okM xm_75 := ⟨by decide, rfl, fun h => by cases h⟩
theorem o76_0 : x_okL x_xm xm_76 0 b76_0 := x_okc (snd_iconst (n := 0) (by decide) (by decide +kernel)) (x_okc (snd_istore_n (k := 1) rfl (by decide +kernel)) (x_okc (snd_to) x_okn))
theorem o76_2 : x_okL x_xm xm_76 2 b76_2 := x_okc (snd_iload_n (k := 1) rfl (by decide +kernel)) (x_okc (snd_aload_n (k := 0) rfl (by decide +kernel)) (x_okc (snd_gfr ko_7 (by decide) rfl (by decide) wd_242 (by decide +kernel)) (x_okc (snd_alen ka_12 (by decide +kernel)) (x_okc (snd_icmp_ge (off := 49) (by decide) (by decide +kernel)) (x_okc (snd_aload_n (k := 0) rfl (by decide +kernel)) (x_okc (snd_gfr ko_7 (by decide) rfl (by decide) wd_242 (by decide +kernel)) (x_okc (snd_iload_n (k := 1) rfl (by decide +kernel)) (x_okc (snd_aald ka_12 rfl rfl (by decide) (by decide) (by decide +kernel)) (x_okc (snd_astore_n (k := 2) rfl (by decide +kernel)) (x_okc (snd_aload_n (k := 2) rfl (by decide +kernel)) (x_okc (snd_gfr ko_1 (by decide) rfl (by decide) wd_191 (by decide +kernel)) (x_okc (snd_stage (by decide) (by decide) wd_569 (by decide +kernel)) (x_okc (snd_ane (off := 11) (Or.inr rfl) (by decide) (by decide +kernel)) (x_okc (snd_aload_n (k := 0) rfl (by decide +kernel)) (x_okc (snd_aload_n (k := 2) rfl (by decide +kernel)) (x_okc (snd_callv (M' := xm_74) rfl ko_7 rfl rfl rfl rfl wd_688 wd_685 wd_687 wd_55 wd_23 (by decide +kernel) (Nat.le_of_ble_eq_true rfl) (Nat.le_of_ble_eq_true rfl) (by decide +kernel)) (x_okc (snd_goto (off := 18) (by decide) (by decide +kernel)) x_okn)))))))))))))))))
theorem o76_36 : x_okL x_xm xm_76 36 b76_36 := x_okc (snd_aload_n (k := 2) rfl (by decide +kernel)) (x_okc (snd_gfr ko_1 (by decide) rfl (by decide) wd_191 (by decide +kernel)) (x_okc (snd_stage (by decide) (by decide) wd_524 (by decide +kernel)) (x_okc (snd_ane (off := 8) (Or.inr rfl) (by decide) (by decide +kernel)) (x_okc (snd_aload_n (k := 0) rfl (by decide +kernel)) (x_okc (snd_aload_n (k := 2) rfl (by decide +kernel)) (x_okc (snd_callv (M' := xm_75) rfl ko_7 rfl rfl rfl rfl wd_692 wd_689 wd_691 wd_55 wd_24 (by decide +kernel) (Nat.le_of_ble_eq_true rfl) (Nat.le_of_ble_eq_true rfl) (by decide +kernel)) (x_okc (snd_to) x_okn)))))))
theorem o76_51 : x_okL x_xm xm_76 51 b76_51 := x_okc (snd_iinc (n := 1) (by decide) (by decide +kernel)) (x_okc (snd_goto (off := -52) (by decide) (by decide +kernel)) x_okn)
theorem o76_57 : x_okL x_xm xm_76 57 b76_57 := x_okc (snd_ret rfl (by decide +kernel)) x_okn
theorem o76 : ∀ q ∈ t76, x_okL x_xm xm_76 q.1 q.2 := List.forall_mem_cons.mpr ⟨o76_0, List.forall_mem_cons.mpr ⟨o76_2, List.forall_mem_cons.mpr ⟨o76_36, List.forall_mem_cons.mpr ⟨o76_51, List.forall_mem_cons.mpr ⟨o76_57, fun _ h => absurd h List.not_mem_nil⟩⟩⟩⟩⟩
theorem p76 : x_okM xm_76 := ⟨by decide, rfl, fun h => by cases h⟩
theorem o77_0 : x_okL x_xm xm_77 0 b77_0 := x_okc (snd_iconst (n := 0) (by decide) (by decide +kernel)) (x_okc (snd_istore_n (k := 1) rfl (by decide +kernel)) (x_okc (snd_to) x_okn))
theorem o77_2 : x_okL x_xm xm_77 2 b77_2 := x_okc (snd_iload_n (k := 1) rfl (by decide +kernel)) (x_okc (snd_iconst (n := 3) (by decide) (by decide +kernel)) (x_okc (snd_icmp_ge (off := 80) (by decide) (by decide +kernel)) (x_okc (snd_aload_n (k := 0) rfl (by decide +kernel)) (x_okc (snd_gfr ko_7 (by decide) rfl (by decide) wd_241 (by decide +kernel)) (x_okc (snd_iload_n (k := 1) rfl (by decide +kernel)) (x_okc (snd_aald ka_11 rfl rfl (by decide) (by decide) (by decide +kernel)) (x_okc (snd_astore_n (k := 2) rfl (by decide +kernel)) (x_okc (snd_bipush (n := 30) (by decide) (by decide +kernel)) (x_okc (snd_istore_n (k := 3) rfl (by decide +kernel)) (x_okc (snd_to) x_okn))))))))))
theorem o77_17 : x_okL x_xm xm_77 17 b77_17 := x_okc (snd_iload_n (k := 3) rfl (by decide +kernel)) (x_okc (snd_bipush (n := 33) (by decide) (by decide +kernel)) (x_okc (snd_icmp_ge (off := 58) (by decide) (by decide +kernel)) (x_okc (snd_aload_n (k := 2) rfl (by decide +kernel)) (x_okc (snd_gfr ko_3 (by decide) rfl (by decide) wd_152 (by decide +kernel)) (x_okc (snd_iconst (n := 0) (by decide) (by decide +kernel)) (x_okc (snd_callv (M' := xm_23) rfl ko_5 rfl rfl rfl rfl wd_552 wd_549 wd_550 wd_57 wd_551 (by decide +kernel) (Nat.le_of_ble_eq_true rfl) (Nat.le_of_ble_eq_true rfl) (by decide +kernel)) (x_okc (snd_istore (by decide +kernel)) (x_okc (snd_iload (by decide +kernel)) (x_okc (snd_calls (M' := xm_26) rfl rfl rfl rfl rfl wd_463 wd_461 wd_462 wd_55 (by decide +kernel) (Nat.le_of_ble_eq_true rfl) (Nat.le_of_ble_eq_true rfl) (by decide +kernel)) (x_okc (snd_if_eq (off := 34) (by decide) (by decide +kernel)) (x_okc (snd_aload_n (k := 2) rfl (by decide +kernel)) (x_okc (snd_gfr ko_3 (by decide) rfl (by decide) wd_147 (by decide +kernel)) (x_okc (snd_iload_n (k := 3) rfl (by decide +kernel)) (x_okc (snd_aald ka_17 rfl rfl (by decide) (by decide) (by decide +kernel)) (x_okc (snd_ifnonnull (off := 25) (by decide) (by decide +kernel)) (x_okc (snd_aload_n (k := 2) rfl (by decide +kernel)) (x_okc (snd_gfr ko_3 (by decide) rfl (by decide) wd_152 (by decide +kernel)) (x_okc (snd_iload (by decide +kernel)) (x_okc (snd_callv (M' := xm_38) rfl ko_5 rfl rfl rfl rfl wd_544 wd_541 wd_542 wd_57 wd_543 (by decide +kernel) (Nat.le_of_ble_eq_true rfl) (Nat.le_of_ble_eq_true rfl) (by decide +kernel)) (x_okc (snd_aload_n (k := 0) rfl (by decide +kernel)) (x_okc (snd_aload_n (k := 2) rfl (by decide +kernel)) (x_okc (snd_aload_n (k := 2) rfl (by decide +kernel)) (x_okc (snd_gfr ko_3 (by decide) rfl (by decide) wd_145 (by decide +kernel)) (x_okc (snd_iload (by decide +kernel)) (x_okc (snd_aald ka_16 rfl rfl (by decide) (by decide) (by decide +kernel)) (x_okc (snd_iload_n (k := 3) rfl (by decide +kernel)) (x_okc (snd_callv (M' := xm_54) rfl ko_7 rfl rfl rfl rfl wd_491 wd_488 wd_490 wd_55 wd_3 (by decide +kernel) (Nat.le_of_ble_eq_true rfl) (Nat.le_of_ble_eq_true rfl) (by decide +kernel)) (x_okc (snd_to) x_okn))))))))))))))))))))))))))))
theorem o77_72 : x_okL x_xm xm_77 72 b77_72 := x_okc (snd_iinc (n := 1) (by decide) (by decide +kernel)) (x_okc (snd_goto (off := -58) (by decide) (by decide +kernel)) x_okn)
theorem o77_78 : x_okL x_xm xm_77 78 b77_78 := x_okc (snd_iinc (n := 1) (by decide) (by decide +kernel)) (x_okc (snd_goto (off := -79) (by decide) (by decide +kernel)) x_okn)
theorem o77_84 : x_okL x_xm xm_77 84 b77_84 := x_okc (snd_ret rfl (by decide +kernel)) x_okn
theorem o77 : ∀ q ∈ t77, x_okL x_xm xm_77 q.1 q.2 := List.forall_mem_cons.mpr ⟨o77_0, List.forall_mem_cons.mpr ⟨o77_2, List.forall_mem_cons.mpr ⟨o77_17, List.forall_mem_cons.mpr ⟨o77_72, List.forall_mem_cons.mpr ⟨o77_78, List.forall_mem_cons.mpr ⟨o77_84, fun _ h => absurd h List.not_mem_nil⟩⟩⟩⟩⟩⟩
theorem p77 : x_okM xm_77 := ⟨by decide, rfl, fun h => by cases h⟩
theorem o78_0 : x_okL x_xm xm_78 0 b78_0 := x_okc (snd_iload_n (k := 1) rfl (by decide +kernel)) (x_okc (snd_iconst (n := 1) (by decide) (by decide +kernel)) (x_okc (snd_bipush (n := 100) (by decide) (by decide +kernel)) (x_okc (snd_calls (M' := xm_25) rfl rfl rfl rfl rfl wd_271 wd_269 wd_270 wd_55 (by decide +kernel) (Nat.le_of_ble_eq_true rfl) (Nat.le_of_ble_eq_true rfl) (by decide +kernel)) (x_okc (snd_calls (M' := xm_45) rfl rfl rfl rfl rfl wd_274 wd_272 wd_273 wd_55 (by decide +kernel) (Nat.le_of_ble_eq_true rfl) (Nat.le_of_ble_eq_true rfl) (by decide +kernel)) (x_okc (snd_iconst (n := 0) (by decide) (by decide +kernel)) (x_okc (snd_istore_n (k := 2) rfl (by decide +kernel)) (x_okc (snd_to) x_okn)))))))
theorem o78_12 : x_okL x_xm xm_78 12 b78_12 := x_okc (snd_iload_n (k := 2) rfl (by decide +kernel)) (x_okc (snd_iload_n (k := 1) rfl (by decide +kernel)) (x_okc (snd_icmp_ge (off := 44) (by decide) (by decide +kernel)) (x_okc (snd_iconst (n := 0) (by decide) (by decide +kernel)) (x_okc (snd_istore_n (k := 3) rfl (by decide +kernel)) (x_okc (snd_to) x_okn)))))
theorem o78_19 : x_okL x_xm xm_78 19 b78_19 := x_okc (snd_iload_n (k := 3) rfl (by decide +kernel)) (x_okc (snd_iconst (n := 3) (by decide) (by decide +kernel)) (x_okc (snd_icmp_ge (off := 19) (by decide) (by decide +kernel)) (x_okc (snd_aload_n (k := 0) rfl (by decide +kernel)) (x_okc (snd_aload_n (k := 0) rfl (by decide +kernel)) (x_okc (snd_gfr ko_7 (by decide) rfl (by decide) wd_241 (by decide +kernel)) (x_okc (snd_iload_n (k := 3) rfl (by decide +kernel)) (x_okc (snd_aald ka_11 rfl rfl (by decide) (by decide) (by decide +kernel)) (x_okc (snd_callv (M' := xm_71) rfl ko_7 rfl rfl rfl rfl wd_599 wd_596 wd_598 wd_55 wd_11 (by decide +kernel) (Nat.le_of_ble_eq_true rfl) (Nat.le_of_ble_eq_true rfl) (by decide +kernel)) (x_okc (snd_iinc (n := 1) (by decide) (by decide +kernel)) (x_okc (snd_goto (off := -18) (by decide) (by decide +kernel)) x_okn))))))))))
theorem o78_40 : x_okL x_xm xm_78 40 b78_40 := x_okc (snd_aload_n (k := 0) rfl (by decide +kernel)) (x_okc (snd_callv (M' := xm_73) rfl ko_7 rfl rfl rfl rfl wd_676 wd_673 wd_675 wd_55 wd_20 (by decide +kernel) (Nat.le_of_ble_eq_true rfl) (Nat.le_of_ble_eq_true rfl) (by decide +kernel)) (x_okc (snd_aload_n (k := 0) rfl (by decide +kernel)) (x_okc (snd_callv (M' := xm_76) rfl ko_7 rfl rfl rfl rfl wd_684 wd_681 wd_683 wd_55 wd_22 (by decide +kernel) (Nat.le_of_ble_eq_true rfl) (Nat.le_of_ble_eq_true rfl) (by decide +kernel)) (x_okc (snd_aload_n (k := 0) rfl (by decide +kernel)) (x_okc (snd_callv (M' := xm_77) rfl ko_7 rfl rfl rfl rfl wd_704 wd_701 wd_703 wd_55 wd_25 (by decide +kernel) (Nat.le_of_ble_eq_true rfl) (Nat.le_of_ble_eq_true rfl) (by decide +kernel)) (x_okc (snd_iinc (n := 1) (by decide) (by decide +kernel)) (x_okc (snd_goto (off := -43) (by decide) (by decide +kernel)) x_okn)))))))
theorem o78_58 : x_okL x_xm xm_78 58 b78_58 := x_okc (snd_ret rfl (by decide +kernel)) x_okn
theorem o78 : ∀ q ∈ t78, x_okL x_xm xm_78 q.1 q.2 := List.forall_mem_cons.mpr ⟨o78_0, List.forall_mem_cons.mpr ⟨o78_12, List.forall_mem_cons.mpr ⟨o78_19, List.forall_mem_cons.mpr ⟨o78_40, List.forall_mem_cons.mpr ⟨o78_58, fun _ h => absurd h List.not_mem_nil⟩⟩⟩⟩⟩
theorem p78 : x_okM xm_78 := ⟨by decide, rfl, fun h => by cases h⟩
theorem o79_0 : x_okL x_xm xm_79 0 b79_0 := x_okc (snd_iload_n (k := 1) rfl (by decide +kernel)) (x_okc (snd_iconst (n := 0) (by decide) (by decide +kernel)) (x_okc (snd_aload_n (k := 0) rfl (by decide +kernel)) (x_okc (snd_gfi ko_7 (by decide) rfl wd_245 (by decide +kernel)) (x_okc (snd_iconst (n := 1) (by decide) (by decide +kernel)) (x_okc (snd_isub (by decide +kernel)) (x_okc (snd_calls (M' := xm_25) rfl rfl rfl rfl rfl wd_271 wd_269 wd_270 wd_55 (by decide +kernel) (Nat.le_of_ble_eq_true rfl) (Nat.le_of_ble_eq_true rfl) (by decide +kernel)) (x_okc (snd_calls (M' := xm_45) rfl rfl rfl rfl rfl wd_274 wd_272 wd_273 wd_55 (by decide +kernel) (Nat.le_of_ble_eq_true rfl) (Nat.le_of_ble_eq_true rfl) (by decide +kernel)) (x_okc (snd_aload_n (k := 0) rfl (by decide +kernel)) (x_okc (snd_gfr ko_7 (by decide) rfl (by decide) wd_243 (by decide +kernel)) (x_okc (snd_iload_n (k := 1) rfl (by decide +kernel)) (x_okc (snd_aald ka_13 rfl rfl (by decide) (by decide) (by decide +kernel)) (x_okc (snd_astore_n (k := 3) rfl (by decide +kernel)) (x_okc (snd_aload_n (k := 3) rfl (by decide +kernel)) (x_okc (snd_gfi ko_6 (by decide) rfl wd_363 (by decide +kernel)) (x_okc (snd_istore (by decide +kernel)) (x_okc (snd_aload_n (k := 3) rfl (by decide +kernel)) (x_okc (snd_iload_n (k := 2) rfl (by decide +kernel)) (x_okc (snd_pfz ko_6 (by decide) rfl rfl wd_363 (Or.inl rfl) (by decide +kernel)) (x_okc (snd_iload_n (k := 2) rfl (by decide +kernel)) (x_okc (snd_if_eq (off := 19) (by decide) (by decide +kernel)) (x_okc (snd_aload_n (k := 3) rfl (by decide +kernel)) (x_okc (snd_gfr ko_6 (by decide) rfl (by decide) wd_365 (by decide +kernel)) (x_okc (snd_ifnull (off := 12) (by decide) (by decide +kernel)) (x_okc (snd_aload_n (k := 0) rfl (by decide +kernel)) (x_okc (snd_aload_n (k := 3) rfl (by decide +kernel)) (x_okc (snd_gfr ko_6 (by decide) rfl (by decide) wd_365 (by decide +kernel)) (x_okc (snd_iconst (n := 4) (by decide) (by decide +kernel)) (x_okc (snd_callv (M' := xm_59) rfl ko_7 rfl rfl rfl rfl wd_548 wd_545 wd_547 wd_55 wd_8 (by decide +kernel) (Nat.le_of_ble_eq_true rfl) (Nat.le_of_ble_eq_true rfl) (by decide +kernel)) (x_okc (snd_to) x_okn)))))))))))))))))))))))))))))
theorem o79_52 : x_okL x_xm xm_79 52 b79_52 := x_okc (snd_iload (by decide +kernel)) (x_okc (snd_zret rfl (by decide +kernel)) x_okn)
theorem o79 : ∀ q ∈ t79, x_okL x_xm xm_79 q.1 q.2 := List.forall_mem_cons.mpr ⟨o79_0, List.forall_mem_cons.mpr ⟨o79_52, fun _ h => absurd h List.not_mem_nil⟩⟩
theorem p79 : x_okM xm_79 := ⟨by decide, rfl, fun h => by cases h⟩
theorem o80_0 : x_okL x_xm xm_80 0 b80_0 := x_okc (snd_aload_n (k := 0) rfl (by decide +kernel)) (x_okc (snd_iload_n (k := 1) rfl (by decide +kernel)) (x_okc (snd_iload_n (k := 2) rfl (by decide +kernel)) (x_okc (snd_callv (M' := xm_51) rfl ko_7 rfl rfl rfl rfl wd_479 wd_476 wd_478 wd_55 wd_1 (by decide +kernel) (Nat.le_of_ble_eq_true rfl) (Nat.le_of_ble_eq_true rfl) (by decide +kernel)) (x_okc (snd_astore (by decide +kernel)) (x_okc (snd_aload (by decide +kernel)) (x_okc (snd_gfr ko_2 (by decide) rfl (by decide) wd_128 (by decide +kernel)) (x_okc (snd_astore (by decide +kernel)) (x_okc (snd_aload (by decide +kernel)) (x_okc (snd_ifnull (off := 24) (by decide) (by decide +kernel)) (x_okc (snd_aload (by decide +kernel)) (x_okc (snd_gfr ko_1 (by decide) rfl (by decide) wd_193 (by decide +kernel)) (x_okc (snd_aload (by decide +kernel)) (x_okc (snd_ane (off := 14) (Or.inl ko_2) (by decide) (by decide +kernel)) (x_okc (snd_aload (by decide +kernel)) (x_okc (snd_gfr ko_1 (by decide) rfl (by decide) wd_191 (by decide +kernel)) (x_okc (snd_stage (by decide) (by decide) wd_524 (by decide +kernel)) (x_okc (snd_aeq (off := 5) (Or.inr rfl) (by decide) (by decide +kernel)) (x_okc (snd_to) x_okn))))))))))))))))))
theorem o80_41 : x_okL x_xm xm_80 41 b80_41 := x_okc (snd_iconst (n := 0) (by decide) (by decide +kernel)) (x_okc (snd_zret rfl (by decide +kernel)) x_okn)
theorem o80_43 : x_okL x_xm xm_80 43 b80_43 := x_okc (snd_aload (by decide +kernel)) (x_okc (snd_iload_n (k := 3) rfl (by decide +kernel)) (x_okc (snd_pfz ko_1 (by decide) rfl rfl wd_196 (Or.inl rfl) (by decide +kernel)) (x_okc (snd_iload_n (k := 3) rfl (by decide +kernel)) (x_okc (snd_if_ne (off := 21) (by decide) (by decide +kernel)) (x_okc (snd_aload (by decide +kernel)) (x_okc (snd_gfr ko_1 (by decide) rfl (by decide) wd_187 (by decide +kernel)) (x_okc (snd_gfi ko_2 (by decide) rfl wd_122 (by decide +kernel)) (x_okc (snd_if_ne (off := 10) (by decide) (by decide +kernel)) (x_okc (snd_aload_n (k := 0) rfl (by decide +kernel)) (x_okc (snd_aload (by decide +kernel)) (x_okc (snd_iconst (n := 3) (by decide) (by decide +kernel)) (x_okc (snd_callv (M' := xm_59) rfl ko_7 rfl rfl rfl rfl wd_548 wd_545 wd_547 wd_55 wd_8 (by decide +kernel) (Nat.le_of_ble_eq_true rfl) (Nat.le_of_ble_eq_true rfl) (by decide +kernel)) (x_okc (snd_to) x_okn)))))))))))))
theorem o80_71 : x_okL x_xm xm_80 71 b80_71 := x_okc (snd_iconst (n := 1) (by decide) (by decide +kernel)) (x_okc (snd_zret rfl (by decide +kernel)) x_okn)
theorem o80 : ∀ q ∈ t80, x_okL x_xm xm_80 q.1 q.2 := List.forall_mem_cons.mpr ⟨o80_0, List.forall_mem_cons.mpr ⟨o80_41, List.forall_mem_cons.mpr ⟨o80_43, List.forall_mem_cons.mpr ⟨o80_71, fun _ h => absurd h List.not_mem_nil⟩⟩⟩⟩
theorem p80 : x_okM xm_80 := ⟨by decide, rfl, fun h => by cases h⟩
theorem o81_0 : x_okL x_xm xm_81 0 b81_0 := x_okc (snd_aload_n (k := 0) rfl (by decide +kernel)) (x_okc (snd_iload_n (k := 1) rfl (by decide +kernel)) (x_okc (snd_iload_n (k := 2) rfl (by decide +kernel)) (x_okc (snd_callv (M' := xm_51) rfl ko_7 rfl rfl rfl rfl wd_479 wd_476 wd_478 wd_55 wd_1 (by decide +kernel) (Nat.le_of_ble_eq_true rfl) (Nat.le_of_ble_eq_true rfl) (by decide +kernel)) (x_okc (snd_gfi ko_2 (by decide) rfl wd_125 (by decide +kernel)) (x_okc (snd_iret rfl (by decide +kernel)) x_okn)))))
theorem o81 : ∀ q ∈ t81, x_okL x_xm xm_81 q.1 q.2 := List.forall_mem_cons.mpr ⟨o81_0, fun _ h => absurd h List.not_mem_nil⟩
theorem p81 : x_okM xm_81 := ⟨by decide, rfl, fun h => by cases h⟩
theorem o82_0 : x_okL x_xm xm_82 0 b82_0 := x_okc (snd_aload_n (k := 0) rfl (by decide +kernel)) (x_okc (snd_iload_n (k := 1) rfl (by decide +kernel)) (x_okc (snd_iload_n (k := 2) rfl (by decide +kernel)) (x_okc (snd_callv (M' := xm_51) rfl ko_7 rfl rfl rfl rfl wd_479 wd_476 wd_478 wd_55 wd_1 (by decide +kernel) (Nat.le_of_ble_eq_true rfl) (Nat.le_of_ble_eq_true rfl) (by decide +kernel)) (x_okc (snd_astore_n (k := 3) rfl (by decide +kernel)) (x_okc (snd_aload_n (k := 3) rfl (by decide +kernel)) (x_okc (snd_gfr ko_2 (by decide) rfl (by decide) wd_128 (by decide +kernel)) (x_okc (snd_astore (by decide +kernel)) (x_okc (snd_aload (by decide +kernel)) (x_okc (snd_ifnull (off := 27) (by decide) (by decide +kernel)) (x_okc (snd_aload (by decide +kernel)) (x_okc (snd_gfr ko_1 (by decide) rfl (by decide) wd_193 (by decide +kernel)) (x_okc (snd_aload_n (k := 3) rfl (by decide +kernel)) (x_okc (snd_ane (off := 18) (Or.inl ko_2) (by decide) (by decide +kernel)) (x_okc (snd_aload (by decide +kernel)) (x_okc (snd_gfr ko_1 (by decide) rfl (by decide) wd_191 (by decide +kernel)) (x_okc (snd_stage (by decide) (by decide) wd_522 (by decide +kernel)) (x_okc (snd_ane (off := 7) (Or.inr rfl) (by decide) (by decide +kernel)) (x_okc (snd_iconst (n := 1) (by decide) (by decide +kernel)) (x_okc (snd_goto (off := 4) (by decide) (by decide +kernel)) x_okn)))))))))))))))))))
theorem o82_42 : x_okL x_xm xm_82 42 b82_42 := x_okc (snd_iconst (n := 0) (by decide) (by decide +kernel)) (x_okc (snd_to) x_okn)
theorem o82_43 : x_okL x_xm xm_82 43 b82_43 := x_okc (snd_zret rfl (by decide +kernel)) x_okn
theorem o82 : ∀ q ∈ t82, x_okL x_xm xm_82 q.1 q.2 := List.forall_mem_cons.mpr ⟨o82_0, List.forall_mem_cons.mpr ⟨o82_42, List.forall_mem_cons.mpr ⟨o82_43, fun _ h => absurd h List.not_mem_nil⟩⟩⟩
theorem p82 : x_okM xm_82 := ⟨by decide, rfl, fun h => by cases h⟩
theorem o83_0 : x_okL x_xm xm_83 0 b83_0 := x_okc (snd_aload_n (k := 0) rfl (by decide +kernel)) (x_okc (snd_iload_n (k := 1) rfl (by decide +kernel)) (x_okc (snd_iload_n (k := 2) rfl (by decide +kernel)) (x_okc (snd_callv (M' := xm_51) rfl ko_7 rfl rfl rfl rfl wd_479 wd_476 wd_478 wd_55 wd_1 (by decide +kernel) (Nat.le_of_ble_eq_true rfl) (Nat.le_of_ble_eq_true rfl) (by decide +kernel)) (x_okc (snd_astore_n (k := 3) rfl (by decide +kernel)) (x_okc (snd_aload_n (k := 3) rfl (by decide +kernel)) (x_okc (snd_gfr ko_2 (by decide) rfl (by decide) wd_128 (by decide +kernel)) (x_okc (snd_astore (by decide +kernel)) (x_okc (snd_aload (by decide +kernel)) (x_okc (snd_ifnull (off := 33) (by decide) (by decide +kernel)) (x_okc (snd_aload (by decide +kernel)) (x_okc (snd_gfr ko_1 (by decide) rfl (by decide) wd_191 (by decide +kernel)) (x_okc (snd_stage (by decide) (by decide) wd_524 (by decide +kernel)) (x_okc (snd_ane (off := 22) (Or.inr rfl) (by decide) (by decide +kernel)) (x_okc (snd_aload (by decide +kernel)) (x_okc (snd_gfr ko_1 (by decide) rfl (by decide) wd_187 (by decide +kernel)) (x_okc (snd_gfi ko_2 (by decide) rfl wd_122 (by decide +kernel)) (x_okc (snd_if_eq (off := 11) (by decide) (by decide +kernel)) (x_okc (snd_aload (by decide +kernel)) (x_okc (snd_callv (M' := xm_5) rfl ko_1 rfl rfl rfl rfl wd_696 wd_693 wd_694 wd_59 wd_695 (by decide +kernel) (Nat.le_of_ble_eq_true rfl) (Nat.le_of_ble_eq_true rfl) (by decide +kernel)) (x_okc (snd_if_ne (off := 5) (by decide) (by decide +kernel)) (x_okc (snd_to) x_okn)))))))))))))))))))))
theorem o83_48 : x_okL x_xm xm_83 48 b83_48 := x_okc (snd_iconst (n := -1) (by decide) (by decide +kernel)) (x_okc (snd_iret rfl (by decide +kernel)) x_okn)
theorem o83_50 : x_okL x_xm xm_83 50 b83_50 := x_okc (snd_aload (by decide +kernel)) (x_okc (snd_gfr ko_1 (by decide) rfl (by decide) wd_193 (by decide +kernel)) (x_okc (snd_aload_n (k := 3) rfl (by decide +kernel)) (x_okc (snd_ane (off := 14) (Or.inl ko_2) (by decide) (by decide +kernel)) (x_okc (snd_aload (by decide +kernel)) (x_okc (snd_gfr ko_1 (by decide) rfl (by decide) wd_187 (by decide +kernel)) (x_okc (snd_callv (M' := xm_9) rfl ko_2 rfl rfl rfl rfl wd_495 wd_492 wd_493 wd_58 wd_494 (by decide +kernel) (Nat.le_of_ble_eq_true rfl) (Nat.le_of_ble_eq_true rfl) (by decide +kernel)) (x_okc (snd_goto (off := 11) (by decide) (by decide +kernel)) x_okn)))))))
theorem o83_70 : x_okL x_xm xm_83 70 b83_70 := x_okc (snd_aload (by decide +kernel)) (x_okc (snd_gfr ko_1 (by decide) rfl (by decide) wd_193 (by decide +kernel)) (x_okc (snd_callv (M' := xm_9) rfl ko_2 rfl rfl rfl rfl wd_495 wd_492 wd_493 wd_58 wd_494 (by decide +kernel) (Nat.le_of_ble_eq_true rfl) (Nat.le_of_ble_eq_true rfl) (by decide +kernel)) (x_okc (snd_to) x_okn)))
theorem o83_78 : x_okL x_xm xm_83 78 b83_78 := x_okc (snd_iret rfl (by decide +kernel)) x_okn
theorem o83 : ∀ q ∈ t83, x_okL x_xm xm_83 q.1 q.2 := List.forall_mem_cons.mpr ⟨o83_0, List.forall_mem_cons.mpr ⟨o83_48, List.forall_mem_cons.mpr ⟨o83_50, List.forall_mem_cons.mpr ⟨o83_70, List.forall_mem_cons.mpr ⟨o83_78, fun _ h => absurd h List.not_mem_nil⟩⟩⟩⟩⟩
theorem p83 : x_okM xm_83 := ⟨by decide, rfl, fun h => by cases h⟩
theorem o84_0 : x_okL x_xm xm_84 0 b84_0 := x_okc (snd_aload_n (k := 0) rfl (by decide +kernel)) (x_okc (snd_iload_n (k := 1) rfl (by decide +kernel)) (x_okc (snd_iload_n (k := 2) rfl (by decide +kernel)) (x_okc (snd_callv (M' := xm_51) rfl ko_7 rfl rfl rfl rfl wd_479 wd_476 wd_478 wd_55 wd_1 (by decide +kernel) (Nat.le_of_ble_eq_true rfl) (Nat.le_of_ble_eq_true rfl) (by decide +kernel)) (x_okc (snd_gfi ko_2 (by decide) rfl wd_126 (by decide +kernel)) (x_okc (snd_iret rfl (by decide +kernel)) x_okn)))))
theorem o84 : ∀ q ∈ t84, x_okL x_xm xm_84 q.1 q.2 := List.forall_mem_cons.mpr ⟨o84_0, fun _ h => absurd h List.not_mem_nil⟩
theorem p84 : x_okM xm_84 := ⟨by decide, rfl, fun h => by cases h⟩
theorem o85_0 : x_okL x_xm xm_85 0 b85_0 := x_okc (snd_aload_n (k := 0) rfl (by decide +kernel)) (x_okc (snd_iload_n (k := 1) rfl (by decide +kernel)) (x_okc (snd_iload_n (k := 2) rfl (by decide +kernel)) (x_okc (snd_callv (M' := xm_51) rfl ko_7 rfl rfl rfl rfl wd_479 wd_476 wd_478 wd_55 wd_1 (by decide +kernel) (Nat.le_of_ble_eq_true rfl) (Nat.le_of_ble_eq_true rfl) (by decide +kernel)) (x_okc (snd_astore (by decide +kernel)) (x_okc (snd_iload_n (k := 3) rfl (by decide +kernel)) (x_okc (snd_if_lt (off := 7) (by decide) (by decide +kernel)) (x_okc (snd_iconst (n := 1) (by decide) (by decide +kernel)) (x_okc (snd_goto (off := 4) (by decide) (by decide +kernel)) x_okn))))))))
theorem o85_16 : x_okL x_xm xm_85 16 b85_16 := x_okc (snd_iconst (n := 0) (by decide) (by decide +kernel)) (x_okc (snd_to) x_okn)
theorem o85_17 : x_okL x_xm xm_85 17 b85_17 := x_okc (snd_calls (M' := xm_45) rfl rfl rfl rfl rfl wd_274 wd_272 wd_273 wd_55 (by decide +kernel) (Nat.le_of_ble_eq_true rfl) (Nat.le_of_ble_eq_true rfl) (by decide +kernel)) (x_okc (snd_aload (by decide +kernel)) (x_okc (snd_gfr ko_2 (by decide) rfl (by decide) wd_128 (by decide +kernel)) (x_okc (snd_astore (by decide +kernel)) (x_okc (snd_aload (by decide +kernel)) (x_okc (snd_ifnull (off := 25) (by decide) (by decide +kernel)) (x_okc (snd_aload (by decide +kernel)) (x_okc (snd_gfr ko_1 (by decide) rfl (by decide) wd_187 (by decide +kernel)) (x_okc (snd_aload (by decide +kernel)) (x_okc (snd_ane (off := 15) (Or.inl ko_2) (by decide) (by decide +kernel)) (x_okc (snd_aload (by decide +kernel)) (x_okc (snd_gfr ko_1 (by decide) rfl (by decide) wd_189 (by decide +kernel)) (x_okc (snd_iload_n (k := 3) rfl (by decide +kernel)) (x_okc (snd_callv (M' := xm_23) rfl ko_5 rfl rfl rfl rfl wd_552 wd_549 wd_550 wd_57 wd_551 (by decide +kernel) (Nat.le_of_ble_eq_true rfl) (Nat.le_of_ble_eq_true rfl) (by decide +kernel)) (x_okc (snd_goto (off := 4) (by decide) (by decide +kernel)) x_okn))))))))))))))
theorem o85_54 : x_okL x_xm xm_85 54 b85_54 := x_okc (snd_iconst (n := -1) (by decide) (by decide +kernel)) (x_okc (snd_to) x_okn)
theorem o85_55 : x_okL x_xm xm_85 55 b85_55 := x_okc (snd_iret rfl (by decide +kernel)) x_okn
theorem o85 : ∀ q ∈ t85, x_okL x_xm xm_85 q.1 q.2 := List.forall_mem_cons.mpr ⟨o85_0, List.forall_mem_cons.mpr ⟨o85_16, List.forall_mem_cons.mpr ⟨o85_17, List.forall_mem_cons.mpr ⟨o85_54, List.forall_mem_cons.mpr ⟨o85_55, fun _ h => absurd h List.not_mem_nil⟩⟩⟩⟩⟩
theorem p85 : x_okM xm_85 := ⟨by decide, rfl, fun h => by cases h⟩
end
section
theorem o86_0 : x_okL x_xm xm_86 0 b86_0 := x_okc (snd_iconst (n := 0) (by decide) (by decide +kernel)) (x_okc (snd_istore_n (k := 2) rfl (by decide +kernel)) (x_okc (snd_iconst (n := 0) (by decide) (by decide +kernel)) (x_okc (snd_istore_n (k := 3) rfl (by decide +kernel)) (x_okc (snd_to) x_okn))))
theorem o86_4 : x_okL x_xm xm_86 4 b86_4 := x_okc (snd_iload_n (k := 3) rfl (by decide +kernel)) (x_okc (snd_aload_n (k := 0) rfl (by decide +kernel)) (x_okc (snd_gfi ko_7 (by decide) rfl wd_245 (by decide +kernel)) (x_okc (snd_icmp_ge (off := 37) (by decide) (by decide +kernel)) (x_okc (snd_aload_n (k := 0) rfl (by decide +kernel)) (x_okc (snd_gfr ko_7 (by decide) rfl (by decide) wd_243 (by decide +kernel)) (x_okc (snd_iload_n (k := 3) rfl (by decide +kernel)) (x_okc (snd_aald ka_13 rfl rfl (by decide) (by decide) (by decide +kernel)) (x_okc (snd_callv (M' := xm_41) rfl ko_6 rfl rfl rfl rfl wd_664 wd_661 wd_662 wd_68 wd_663 (by decide +kernel) (Nat.le_of_ble_eq_true rfl) (Nat.le_of_ble_eq_true rfl) (by decide +kernel)) (x_okc (snd_if_eq (off := 19) (by decide) (by decide +kernel)) (x_okc (snd_aload_n (k := 0) rfl (by decide +kernel)) (x_okc (snd_gfr ko_7 (by decide) rfl (by decide) wd_243 (by decide +kernel)) (x_okc (snd_iload_n (k := 3) rfl (by decide +kernel)) (x_okc (snd_aald ka_13 rfl rfl (by decide) (by decide) (by decide +kernel)) (x_okc (snd_iload_n (k := 1) rfl (by decide +kernel)) (x_okc (snd_callv (M' := xm_42) rfl ko_6 rfl rfl rfl rfl wd_668 wd_665 wd_666 wd_68 wd_667 (by decide +kernel) (Nat.le_of_ble_eq_true rfl) (Nat.le_of_ble_eq_true rfl) (by decide +kernel)) (x_okc (snd_if_eq (off := 6) (by decide) (by decide +kernel)) (x_okc (snd_iinc (n := 1) (by decide) (by decide +kernel)) (x_okc (snd_to) x_okn))))))))))))))))))
theorem o86_40 : x_okL x_xm xm_86 40 b86_40 := x_okc (snd_iinc (n := 1) (by decide) (by decide +kernel)) (x_okc (snd_goto (off := -39) (by decide) (by decide +kernel)) x_okn)
theorem o86_46 : x_okL x_xm xm_86 46 b86_46 := x_okc (snd_iload_n (k := 2) rfl (by decide +kernel)) (x_okc (snd_iret rfl (by decide +kernel)) x_okn)
theorem o86 : ∀ q ∈ t86, x_okL x_xm xm_86 q.1 q.2 := List.forall_mem_cons.mpr ⟨o86_0, List.forall_mem_cons.mpr ⟨o86_4, List.forall_mem_cons.mpr ⟨o86_40, List.forall_mem_cons.mpr ⟨o86_46, fun _ h => absurd h List.not_mem_nil⟩⟩⟩⟩
theorem p86 : x_okM xm_86 := ⟨by decide, rfl, fun h => by cases h⟩
theorem o87_0 : x_okL x_xm xm_87 0 b87_0 := x_okc (snd_iload_n (k := 1) rfl (by decide +kernel)) (x_okc (snd_calls (M' := xm_44) rfl rfl rfl rfl rfl wd_268 wd_266 wd_267 wd_55 (by decide +kernel) (Nat.le_of_ble_eq_true rfl) (Nat.le_of_ble_eq_true rfl) (by decide +kernel)) (x_okc (snd_calls (M' := xm_45) rfl rfl rfl rfl rfl wd_274 wd_272 wd_273 wd_55 (by decide +kernel) (Nat.le_of_ble_eq_true rfl) (Nat.le_of_ble_eq_true rfl) (by decide +kernel)) (x_okc (snd_aload_n (k := 0) rfl (by decide +kernel)) (x_okc (snd_gfr ko_7 (by decide) rfl (by decide) wd_241 (by decide +kernel)) (x_okc (snd_iload_n (k := 1) rfl (by decide +kernel)) (x_okc (snd_aald ka_11 rfl rfl (by decide) (by decide) (by decide +kernel)) (x_okc (snd_astore_n (k := 3) rfl (by decide +kernel)) (x_okc (snd_iload_n (k := 2) rfl (by decide +kernel)) (x_okc (snd_switch (hi := 5) (dflt := 85) (offs := #[37, 46, 54, 63, 69, 77]) (len := 37) (by decide) (by decide) (by decide) (by decide +kernel)) x_okn)))))))))
theorem o87_52 : x_okL x_xm xm_87 52 b87_52 := x_okc (snd_aload_n (k := 3) rfl (by decide +kernel)) (x_okc (snd_bipush (n := 30) (by decide) (by decide +kernel)) (x_okc (snd_bipush (n := 33) (by decide) (by decide +kernel)) (x_okc (snd_callv (M' := xm_30) rfl ko_3 rfl rfl rfl rfl wd_764 wd_761 wd_762 wd_56 wd_763 (by decide +kernel) (Nat.le_of_ble_eq_true rfl) (Nat.le_of_ble_eq_true rfl) (by decide +kernel)) (x_okc (snd_iret rfl (by decide +kernel)) x_okn))))
theorem o87_61 : x_okL x_xm xm_87 61 b87_61 := x_okc (snd_aload_n (k := 3) rfl (by decide +kernel)) (x_okc (snd_iconst (n := 0) (by decide) (by decide +kernel)) (x_okc (snd_bipush (n := 12) (by decide) (by decide +kernel)) (x_okc (snd_callv (M' := xm_30) rfl ko_3 rfl rfl rfl rfl wd_764 wd_761 wd_762 wd_56 wd_763 (by decide +kernel) (Nat.le_of_ble_eq_true rfl) (Nat.le_of_ble_eq_true rfl) (by decide +kernel)) (x_okc (snd_iret rfl (by decide +kernel)) x_okn))))
theorem o87_69 : x_okL x_xm xm_87 69 b87_69 := x_okc (snd_aload_n (k := 3) rfl (by decide +kernel)) (x_okc (snd_bipush (n := 20) (by decide) (by decide +kernel)) (x_okc (snd_bipush (n := 25) (by decide) (by decide +kernel)) (x_okc (snd_callv (M' := xm_30) rfl ko_3 rfl rfl rfl rfl wd_764 wd_761 wd_762 wd_56 wd_763 (by decide +kernel) (Nat.le_of_ble_eq_true rfl) (Nat.le_of_ble_eq_true rfl) (by decide +kernel)) (x_okc (snd_iret rfl (by decide +kernel)) x_okn))))
theorem o87_78 : x_okL x_xm xm_87 78 b87_78 := x_okc (snd_aload_n (k := 0) rfl (by decide +kernel)) (x_okc (snd_iload_n (k := 1) rfl (by decide +kernel)) (x_okc (snd_callv (M' := xm_86) rfl ko_7 rfl rfl rfl rfl wd_768 wd_765 wd_767 wd_55 wd_26 (by decide +kernel) (Nat.le_of_ble_eq_true rfl) (Nat.le_of_ble_eq_true rfl) (by decide +kernel)) (x_okc (snd_iret rfl (by decide +kernel)) x_okn)))
theorem o87_84 : x_okL x_xm xm_87 84 b87_84 := x_okc (snd_aload_n (k := 3) rfl (by decide +kernel)) (x_okc (snd_gfr ko_3 (by decide) rfl (by decide) wd_152 (by decide +kernel)) (x_okc (snd_callv (M' := xm_24) rfl ko_5 rfl rfl rfl rfl wd_444 wd_453 wd_442 wd_57 wd_443 (by decide +kernel) (Nat.le_of_ble_eq_true rfl) (Nat.le_of_ble_eq_true rfl) (by decide +kernel)) (x_okc (snd_iret rfl (by decide +kernel)) x_okn)))
theorem o87_92 : x_okL x_xm xm_87 92 b87_92 := x_okc (snd_aload_n (k := 3) rfl (by decide +kernel)) (x_okc (snd_gfr ko_3 (by decide) rfl (by decide) wd_154 (by decide +kernel)) (x_okc (snd_callv (M' := xm_24) rfl ko_5 rfl rfl rfl rfl wd_444 wd_453 wd_442 wd_57 wd_443 (by decide +kernel) (Nat.le_of_ble_eq_true rfl) (Nat.le_of_ble_eq_true rfl) (by decide +kernel)) (x_okc (snd_iret rfl (by decide +kernel)) x_okn)))
theorem o87_100 : x_okL x_xm xm_87 100 b87_100 := x_okc (snd_throw (E := 1) (ik := 231) (ic := 233) rfl rfl (Nat.le_of_ble_eq_true rfl) (Nat.le_of_ble_eq_true rfl) (by decide +kernel) (by decide +kernel) wd_275 wd_66 (xk_mem (by decide +kernel)) (by decide +kernel) (by decide +kernel) (by decide +kernel) (by decide +kernel) (by decide +kernel) (by decide +kernel)) x_okn
theorem o87 : ∀ q ∈ t87, x_okL x_xm xm_87 q.1 q.2 := List.forall_mem_cons.mpr ⟨o87_0, List.forall_mem_cons.mpr ⟨o87_52, List.forall_mem_cons.mpr ⟨o87_61, List.forall_mem_cons.mpr ⟨o87_69, List.forall_mem_cons.mpr ⟨o87_78, List.forall_mem_cons.mpr ⟨o87_84, List.forall_mem_cons.mpr ⟨o87_92, List.forall_mem_cons.mpr ⟨o87_100, fun _ h => absurd h List.not_mem_nil⟩⟩⟩⟩⟩⟩⟩⟩
theorem p87 : x_okM xm_87 := ⟨by decide, rfl, fun h => by cases h⟩
theorem o88_0 : x_okL x_xm xm_88 0 b88_0 := x_okc (snd_iload_n (k := 1) rfl (by decide +kernel)) (x_okc (snd_calls (M' := xm_44) rfl rfl rfl rfl rfl wd_268 wd_266 wd_267 wd_55 (by decide +kernel) (Nat.le_of_ble_eq_true rfl) (Nat.le_of_ble_eq_true rfl) (by decide +kernel)) (x_okc (snd_if_eq (off := 14) (by decide) (by decide +kernel)) (x_okc (snd_iload_n (k := 2) rfl (by decide +kernel)) (x_okc (snd_calls (M' := xm_44) rfl rfl rfl rfl rfl wd_268 wd_266 wd_267 wd_55 (by decide +kernel) (Nat.le_of_ble_eq_true rfl) (Nat.le_of_ble_eq_true rfl) (by decide +kernel)) (x_okc (snd_if_eq (off := 7) (by decide) (by decide +kernel)) (x_okc (snd_iconst (n := 1) (by decide) (by decide +kernel)) (x_okc (snd_goto (off := 4) (by decide) (by decide +kernel)) x_okn)))))))
theorem o88_18 : x_okL x_xm xm_88 18 b88_18 := x_okc (snd_iconst (n := 0) (by decide) (by decide +kernel)) (x_okc (snd_to) x_okn)
theorem o88_19 : x_okL x_xm xm_88 19 b88_19 := x_okc (snd_calls (M' := xm_45) rfl rfl rfl rfl rfl wd_274 wd_272 wd_273 wd_55 (by decide +kernel) (Nat.le_of_ble_eq_true rfl) (Nat.le_of_ble_eq_true rfl) (by decide +kernel)) (x_okc (snd_aload_n (k := 0) rfl (by decide +kernel)) (x_okc (snd_gfr ko_7 (by decide) rfl (by decide) wd_244 (by decide +kernel)) (x_okc (snd_iload_n (k := 1) rfl (by decide +kernel)) (x_okc (snd_aald ka_14 rfl rfl (by decide) (by decide) (by decide +kernel)) (x_okc (snd_iload_n (k := 2) rfl (by decide +kernel)) (x_okc (snd_ald ka_15 rfl rfl (by decide) (by decide +kernel)) (x_okc (snd_iret rfl (by decide +kernel)) x_okn)))))))
theorem o88 : ∀ q ∈ t88, x_okL x_xm xm_88 q.1 q.2 := List.forall_mem_cons.mpr ⟨o88_0, List.forall_mem_cons.mpr ⟨o88_18, List.forall_mem_cons.mpr ⟨o88_19, fun _ h => absurd h List.not_mem_nil⟩⟩⟩
theorem p88 : x_okM xm_88 := ⟨by decide, rfl, fun h => by cases h⟩
theorem o89_0 : x_okL x_xm xm_89 0 b89_0 := x_okc (snd_aload_n (k := 0) rfl (by decide +kernel)) (x_okc (snd_objinit wd_781 wd_76 wd_77 (Nat.le_of_ble_eq_true rfl) (Nat.le_of_ble_eq_true rfl) (by decide +kernel)) (x_okc (snd_aload_n (k := 0) rfl (by decide +kernel)) (x_okc (snd_bipush (n := 72) (by decide) (by decide +kernel)) (x_okc (snd_newr (at9 := .boolean) ka_22 (by decide) rfl (Or.inr rfl) rfl rfl rfl wd_930 (by decide +kernel)) (x_okc (snd_pfr ko_8 (by decide) rfl (by decide) rfl wd_785 (Or.inr ⟨rfl, rfl, rfl⟩) (by decide +kernel)) (x_okc (snd_aload_n (k := 0) rfl (by decide +kernel)) (x_okc (snd_bipush (n := 72) (by decide) (by decide +kernel)) (x_okc (snd_newr (at9 := .int) ka_23 (by decide) rfl (Or.inl rfl) rfl rfl rfl wd_110 (by decide +kernel)) (x_okc (snd_pfr ko_8 (by decide) rfl (by decide) rfl wd_786 (Or.inr ⟨rfl, rfl, rfl⟩) (by decide +kernel)) (x_okc (snd_aload_n (k := 0) rfl (by decide +kernel)) (x_okc (snd_bipush (n := 72) (by decide) (by decide +kernel)) (x_okc (snd_newr (at9 := .int) ka_24 (by decide) rfl (Or.inl rfl) rfl rfl rfl wd_110 (by decide +kernel)) (x_okc (snd_pfr ko_8 (by decide) rfl (by decide) rfl wd_787 (Or.inr ⟨rfl, rfl, rfl⟩) (by decide +kernel)) (x_okc (snd_aload_n (k := 0) rfl (by decide +kernel)) (x_okc (snd_bipush (n := 72) (by decide) (by decide +kernel)) (x_okc (snd_newr (at9 := .int) ka_25 (by decide) rfl (Or.inl rfl) rfl rfl rfl wd_110 (by decide +kernel)) (x_okc (snd_pfr ko_8 (by decide) rfl (by decide) rfl wd_788 (Or.inr ⟨rfl, rfl, rfl⟩) (by decide +kernel)) (x_okc (snd_aload_n (k := 0) rfl (by decide +kernel)) (x_okc (snd_bipush (n := 12) (by decide) (by decide +kernel)) (x_okc (snd_newr (at9 := .int) ka_26 (by decide) rfl (Or.inl rfl) rfl rfl rfl wd_110 (by decide +kernel)) (x_okc (snd_pfr ko_8 (by decide) rfl (by decide) rfl wd_789 (Or.inr ⟨rfl, rfl, rfl⟩) (by decide +kernel)) (x_okc (snd_aload_n (k := 0) rfl (by decide +kernel)) (x_okc (snd_bipush (n := 72) (by decide) (by decide +kernel)) (x_okc (snd_newr (at9 := .int) ka_27 (by decide) rfl (Or.inl rfl) rfl rfl rfl wd_110 (by decide +kernel)) (x_okc (snd_pfr ko_8 (by decide) rfl (by decide) rfl wd_790 (Or.inr ⟨rfl, rfl, rfl⟩) (by decide +kernel)) (x_okc (snd_aload_n (k := 0) rfl (by decide +kernel)) (x_okc (snd_bipush (n := 72) (by decide) (by decide +kernel)) (x_okc (snd_newr (at9 := .int) ka_28 (by decide) rfl (Or.inl rfl) rfl rfl rfl wd_110 (by decide +kernel)) (x_okc (snd_pfr ko_8 (by decide) rfl (by decide) rfl wd_791 (Or.inr ⟨rfl, rfl, rfl⟩) (by decide +kernel)) (x_okc (snd_aload_n (k := 0) rfl (by decide +kernel)) (x_okc (snd_iconst (n := 3) (by decide) (by decide +kernel)) (x_okc (snd_newr (at9 := .int) ka_29 (by decide) rfl (Or.inl rfl) rfl rfl rfl wd_110 (by decide +kernel)) (x_okc (snd_pfr ko_8 (by decide) rfl (by decide) rfl wd_792 (Or.inr ⟨rfl, rfl, rfl⟩) (by decide +kernel)) (x_okc (snd_aload_n (k := 0) rfl (by decide +kernel)) (x_okc (snd_bipush (n := 36) (by decide) (by decide +kernel)) (x_okc (snd_newr (at9 := .int) ka_30 (by decide) rfl (Or.inl rfl) rfl rfl rfl wd_110 (by decide +kernel)) (x_okc (snd_pfr ko_8 (by decide) rfl (by decide) rfl wd_793 (Or.inr ⟨rfl, rfl, rfl⟩) (by decide +kernel)) (x_okc (snd_aload_n (k := 0) rfl (by decide +kernel)) (x_okc (snd_bipush (n := 36) (by decide) (by decide +kernel)) (x_okc (snd_newr (at9 := .int) ka_31 (by decide) rfl (Or.inl rfl) rfl rfl rfl wd_110 (by decide +kernel)) (x_okc (snd_pfr ko_8 (by decide) rfl (by decide) rfl wd_794 (Or.inr ⟨rfl, rfl, rfl⟩) (by decide +kernel)) (x_okc (snd_aload_n (k := 0) rfl (by decide +kernel)) (x_okc (snd_bipush (n := 36) (by decide) (by decide +kernel)) (x_okc (snd_newr (at9 := .int) ka_32 (by decide) rfl (Or.inl rfl) rfl rfl rfl wd_110 (by decide +kernel)) (x_okc (snd_pfr ko_8 (by decide) rfl (by decide) rfl wd_795 (Or.inr ⟨rfl, rfl, rfl⟩) (by decide +kernel)) (x_okc (snd_aload_n (k := 0) rfl (by decide +kernel)) (x_okc (snd_bipush (n := 36) (by decide) (by decide +kernel)) (x_okc (snd_newr (at9 := .int) ka_33 (by decide) rfl (Or.inl rfl) rfl rfl rfl wd_110 (by decide +kernel)) (x_okc (snd_pfr ko_8 (by decide) rfl (by decide) rfl wd_796 (Or.inr ⟨rfl, rfl, rfl⟩) (by decide +kernel)) (x_okc (snd_aload_n (k := 0) rfl (by decide +kernel)) (x_okc (snd_bipush (n := 36) (by decide) (by decide +kernel)) (x_okc (snd_newr (at9 := .boolean) ka_34 (by decide) rfl (Or.inr rfl) rfl rfl rfl wd_930 (by decide +kernel)) (x_okc (snd_pfr ko_8 (by decide) rfl (by decide) rfl wd_797 (Or.inr ⟨rfl, rfl, rfl⟩) (by decide +kernel)) (x_okc (snd_aload_n (k := 0) rfl (by decide +kernel)) (x_okc (snd_bipush (n := 108) (by decide) (by decide +kernel)) (x_okc (snd_newr (at9 := .int) ka_35 (by decide) rfl (Or.inl rfl) rfl rfl rfl wd_110 (by decide +kernel)) (x_okc (snd_pfr ko_8 (by decide) rfl (by decide) rfl wd_798 (Or.inr ⟨rfl, rfl, rfl⟩) (by decide +kernel)) (x_okc (snd_aload_n (k := 0) rfl (by decide +kernel)) (x_okc (snd_bipush (n := 36) (by decide) (by decide +kernel)) (x_okc (snd_newr (at9 := .int) ka_36 (by decide) rfl (Or.inl rfl) rfl rfl rfl wd_110 (by decide +kernel)) (x_okc (snd_pfr ko_8 (by decide) rfl (by decide) rfl wd_799 (Or.inr ⟨rfl, rfl, rfl⟩) (by decide +kernel)) (x_okc (snd_aload_n (k := 0) rfl (by decide +kernel)) (x_okc (snd_bipush (n := 15) (by decide) (by decide +kernel)) (x_okc (snd_newr (at9 := .int) ka_37 (by decide) rfl (Or.inl rfl) rfl rfl rfl wd_110 (by decide +kernel)) (x_okc (snd_pfr ko_8 (by decide) rfl (by decide) rfl wd_800 (Or.inr ⟨rfl, rfl, rfl⟩) (by decide +kernel)) (x_okc (snd_aload_n (k := 0) rfl (by decide +kernel)) (x_okc (snd_bipush (n := 9) (by decide) (by decide +kernel)) (x_okc (snd_newr (at9 := .int) ka_38 (by decide) rfl (Or.inl rfl) rfl rfl rfl wd_110 (by decide +kernel)) (x_okc (snd_pfr ko_8 (by decide) rfl (by decide) rfl wd_801 (Or.inr ⟨rfl, rfl, rfl⟩) (by decide +kernel)) (x_okc (snd_aload_n (k := 0) rfl (by decide +kernel)) (x_okc (snd_bipush (n := 16) (by decide) (by decide +kernel)) (x_okc (snd_newr (at9 := .int) ka_39 (by decide) rfl (Or.inl rfl) rfl rfl rfl wd_110 (by decide +kernel)) (x_okc (snd_pfr ko_8 (by decide) rfl (by decide) rfl wd_803 (Or.inr ⟨rfl, rfl, rfl⟩) (by decide +kernel)) (x_okc (snd_aload_n (k := 0) rfl (by decide +kernel)) (x_okc (snd_bipush (n := 16) (by decide) (by decide +kernel)) (x_okc (snd_newr (at9 := .int) ka_40 (by decide) rfl (Or.inl rfl) rfl rfl rfl wd_110 (by decide +kernel)) (x_okc (snd_pfr ko_8 (by decide) rfl (by decide) rfl wd_804 (Or.inr ⟨rfl, rfl, rfl⟩) (by decide +kernel)) (x_okc (snd_aload_n (k := 0) rfl (by decide +kernel)) (x_okc (snd_bipush (n := 16) (by decide) (by decide +kernel)) (x_okc (snd_newr (at9 := .int) ka_41 (by decide) rfl (Or.inl rfl) rfl rfl rfl wd_110 (by decide +kernel)) (x_okc (snd_pfr ko_8 (by decide) rfl (by decide) rfl wd_805 (Or.inr ⟨rfl, rfl, rfl⟩) (by decide +kernel)) (x_okc (snd_aload_n (k := 0) rfl (by decide +kernel)) (x_okc (snd_bipush (n := 16) (by decide) (by decide +kernel)) (x_okc (snd_newr (at9 := .boolean) ka_42 (by decide) rfl (Or.inr rfl) rfl rfl rfl wd_930 (by decide +kernel)) (x_okc (snd_pfr ko_8 (by decide) rfl (by decide) rfl wd_806 (Or.inr ⟨rfl, rfl, rfl⟩) (by decide +kernel)) (x_okc (snd_aload_n (k := 0) rfl (by decide +kernel)) (x_okc (snd_iconst (n := 3) (by decide) (by decide +kernel)) (x_okc (snd_newr (at9 := .int) ka_43 (by decide) rfl (Or.inl rfl) rfl rfl rfl wd_110 (by decide +kernel)) (x_okc (snd_pfr ko_8 (by decide) rfl (by decide) rfl wd_807 (Or.inr ⟨rfl, rfl, rfl⟩) (by decide +kernel)) (x_okc (snd_aload_n (k := 0) rfl (by decide +kernel)) (x_okc (snd_bipush (n := 9) (by decide) (by decide +kernel)) (x_okc (snd_newr (at9 := .int) ka_44 (by decide) rfl (Or.inl rfl) rfl rfl rfl wd_110 (by decide +kernel)) (x_okc (snd_pfr ko_8 (by decide) rfl (by decide) rfl wd_808 (Or.inr ⟨rfl, rfl, rfl⟩) (by decide +kernel)) (x_okc (snd_aload_n (k := 0) rfl (by decide +kernel)) (x_okc (snd_iconst (n := 3) (by decide) (by decide +kernel)) (x_okc (snd_newr (at9 := .int) ka_45 (by decide) rfl (Or.inl rfl) rfl rfl rfl wd_110 (by decide +kernel)) (x_okc (snd_pfr ko_8 (by decide) rfl (by decide) rfl wd_809 (Or.inr ⟨rfl, rfl, rfl⟩) (by decide +kernel)) (x_okc (snd_aload_n (k := 0) rfl (by decide +kernel)) (x_okc (snd_sipush (n := 216) (by decide) (by decide +kernel)) (x_okc (snd_newr (at9 := .int) ka_46 (by decide) rfl (Or.inl rfl) rfl rfl rfl wd_110 (by decide +kernel)) (x_okc (snd_pfr ko_8 (by decide) rfl (by decide) rfl wd_810 (Or.inr ⟨rfl, rfl, rfl⟩) (by decide +kernel)) (x_okc (snd_aload_n (k := 0) rfl (by decide +kernel)) (x_okc (snd_bipush (n := 72) (by decide) (by decide +kernel)) (x_okc (snd_newr (at9 := .int) ka_47 (by decide) rfl (Or.inl rfl) rfl rfl rfl wd_110 (by decide +kernel)) (x_okc (snd_pfr ko_8 (by decide) rfl (by decide) rfl wd_811 (Or.inr ⟨rfl, rfl, rfl⟩) (by decide +kernel)) (x_okc (snd_aload_n (k := 0) rfl (by decide +kernel)) (x_okc (snd_bipush (n := 72) (by decide) (by decide +kernel)) (x_okc (snd_newr (at9 := .int) ka_48 (by decide) rfl (Or.inl rfl) rfl rfl rfl wd_110 (by decide +kernel)) (x_okc (snd_pfr ko_8 (by decide) rfl (by decide) rfl wd_812 (Or.inr ⟨rfl, rfl, rfl⟩) (by decide +kernel)) (x_okc (snd_aload_n (k := 0) rfl (by decide +kernel)) (x_okc (snd_sipush (n := 576) (by decide) (by decide +kernel)) (x_okc (snd_newr (at9 := .int) ka_49 (by decide) rfl (Or.inl rfl) rfl rfl rfl wd_110 (by decide +kernel)) (x_okc (snd_pfr ko_8 (by decide) rfl (by decide) rfl wd_813 (Or.inr ⟨rfl, rfl, rfl⟩) (by decide +kernel)) (x_okc (snd_aload_n (k := 0) rfl (by decide +kernel)) (x_okc (snd_bipush (n := 72) (by decide) (by decide +kernel)) (x_okc (snd_newr (at9 := .int) ka_50 (by decide) rfl (Or.inl rfl) rfl rfl rfl wd_110 (by decide +kernel)) (x_okc (snd_pfr ko_8 (by decide) rfl (by decide) rfl wd_814 (Or.inr ⟨rfl, rfl, rfl⟩) (by decide +kernel)) (x_okc (snd_aload_n (k := 0) rfl (by decide +kernel)) (x_okc (snd_bipush (n := 72) (by decide) (by decide +kernel)) (x_okc (snd_newr (at9 := .int) ka_51 (by decide) rfl (Or.inl rfl) rfl rfl rfl wd_110 (by decide +kernel)) (x_okc (snd_pfr ko_8 (by decide) rfl (by decide) rfl wd_815 (Or.inr ⟨rfl, rfl, rfl⟩) (by decide +kernel)) (x_okc (snd_aload_n (k := 0) rfl (by decide +kernel)) (x_okc (snd_bipush (n := 72) (by decide) (by decide +kernel)) (x_okc (snd_newr (at9 := .int) ka_52 (by decide) rfl (Or.inl rfl) rfl rfl rfl wd_110 (by decide +kernel)) (x_okc (snd_pfr ko_8 (by decide) rfl (by decide) rfl wd_816 (Or.inr ⟨rfl, rfl, rfl⟩) (by decide +kernel)) (x_okc (snd_aload_n (k := 0) rfl (by decide +kernel)) (x_okc (snd_bipush (n := 72) (by decide) (by decide +kernel)) (x_okc (snd_newr (at9 := .int) ka_53 (by decide) rfl (Or.inl rfl) rfl rfl rfl wd_110 (by decide +kernel)) (x_okc (snd_pfr ko_8 (by decide) rfl (by decide) rfl wd_817 (Or.inr ⟨rfl, rfl, rfl⟩) (by decide +kernel)) (x_okc (snd_aload_n (k := 0) rfl (by decide +kernel)) (x_okc (snd_bipush (n := 72) (by decide) (by decide +kernel)) (x_okc (snd_newr (at9 := .int) ka_54 (by decide) rfl (Or.inl rfl) rfl rfl rfl wd_110 (by decide +kernel)) (x_okc (snd_pfr ko_8 (by decide) rfl (by decide) rfl wd_818 (Or.inr ⟨rfl, rfl, rfl⟩) (by decide +kernel)) (x_okc (snd_aload_n (k := 0) rfl (by decide +kernel)) (x_okc (snd_bipush (n := 72) (by decide) (by decide +kernel)) (x_okc (snd_newr (at9 := .int) ka_55 (by decide) rfl (Or.inl rfl) rfl rfl rfl wd_110 (by decide +kernel)) (x_okc (snd_pfr ko_8 (by decide) rfl (by decide) rfl wd_819 (Or.inr ⟨rfl, rfl, rfl⟩) (by decide +kernel)) (x_okc (snd_aload_n (k := 0) rfl (by decide +kernel)) (x_okc (snd_bipush (n := 72) (by decide) (by decide +kernel)) (x_okc (snd_newr (at9 := .int) ka_56 (by decide) rfl (Or.inl rfl) rfl rfl rfl wd_110 (by decide +kernel)) (x_okc (snd_pfr ko_8 (by decide) rfl (by decide) rfl wd_820 (Or.inr ⟨rfl, rfl, rfl⟩) (by decide +kernel)) (x_okc (snd_aload_n (k := 0) rfl (by decide +kernel)) (x_okc (snd_bipush (n := 72) (by decide) (by decide +kernel)) (x_okc (snd_newr (at9 := .int) ka_57 (by decide) rfl (Or.inl rfl) rfl rfl rfl wd_110 (by decide +kernel)) (x_okc (snd_pfr ko_8 (by decide) rfl (by decide) rfl wd_821 (Or.inr ⟨rfl, rfl, rfl⟩) (by decide +kernel)) (x_okc (snd_aload_n (k := 0) rfl (by decide +kernel)) (x_okc (snd_bipush (n := 72) (by decide) (by decide +kernel)) (x_okc (snd_newr (at9 := .int) ka_58 (by decide) rfl (Or.inl rfl) rfl rfl rfl wd_110 (by decide +kernel)) (x_okc (snd_pfr ko_8 (by decide) rfl (by decide) rfl wd_822 (Or.inr ⟨rfl, rfl, rfl⟩) (by decide +kernel)) (x_okc (snd_aload_n (k := 0) rfl (by decide +kernel)) (x_okc (snd_bipush (n := 72) (by decide) (by decide +kernel)) (x_okc (snd_newr (at9 := .int) ka_59 (by decide) rfl (Or.inl rfl) rfl rfl rfl wd_110 (by decide +kernel)) (x_okc (snd_pfr ko_8 (by decide) rfl (by decide) rfl wd_823 (Or.inr ⟨rfl, rfl, rfl⟩) (by decide +kernel)) (x_okc (snd_aload_n (k := 0) rfl (by decide +kernel)) (x_okc (snd_bipush (n := 72) (by decide) (by decide +kernel)) (x_okc (snd_newr (at9 := .boolean) ka_60 (by decide) rfl (Or.inr rfl) rfl rfl rfl wd_930 (by decide +kernel)) (x_okc (snd_pfr ko_8 (by decide) rfl (by decide) rfl wd_824 (Or.inr ⟨rfl, rfl, rfl⟩) (by decide +kernel)) (x_okc (snd_aload_n (k := 0) rfl (by decide +kernel)) (x_okc (snd_bipush (n := 72) (by decide) (by decide +kernel)) (x_okc (snd_newr (at9 := .int) ka_61 (by decide) rfl (Or.inl rfl) rfl rfl rfl wd_110 (by decide +kernel)) (x_okc (snd_pfr ko_8 (by decide) rfl (by decide) rfl wd_825 (Or.inr ⟨rfl, rfl, rfl⟩) (by decide +kernel)) (x_okc (snd_aload_n (k := 0) rfl (by decide +kernel)) (x_okc (snd_bipush (n := 72) (by decide) (by decide +kernel)) (x_okc (snd_newr (at9 := .int) ka_62 (by decide) rfl (Or.inl rfl) rfl rfl rfl wd_110 (by decide +kernel)) (x_okc (snd_pfr ko_8 (by decide) rfl (by decide) rfl wd_826 (Or.inr ⟨rfl, rfl, rfl⟩) (by decide +kernel)) (x_okc (snd_aload_n (k := 0) rfl (by decide +kernel)) (x_okc (snd_bipush (n := 72) (by decide) (by decide +kernel)) (x_okc (snd_newr (at9 := .int) ka_63 (by decide) rfl (Or.inl rfl) rfl rfl rfl wd_110 (by decide +kernel)) (x_okc (snd_pfr ko_8 (by decide) rfl (by decide) rfl wd_827 (Or.inr ⟨rfl, rfl, rfl⟩) (by decide +kernel)) (x_okc (snd_aload_n (k := 0) rfl (by decide +kernel)) (x_okc (snd_sipush (n := 1152) (by decide) (by decide +kernel)) (x_okc (snd_newr (at9 := .int) ka_64 (by decide) rfl (Or.inl rfl) rfl rfl rfl wd_110 (by decide +kernel)) (x_okc (snd_pfr ko_8 (by decide) rfl (by decide) rfl wd_828 (Or.inr ⟨rfl, rfl, rfl⟩) (by decide +kernel)) (x_okc (snd_iconst (n := 0) (by decide) (by decide +kernel)) (x_okc (snd_istore_n (k := 1) rfl (by decide +kernel)) (x_okc (snd_to) x_okn))))))))))))))))))))))))))))))))))))))))))))))))))))))))))))))))))))))))))))))))))))))))))))))))))))))))))))))))))))))))))))))))))))))))))))))))))))))))))))))))))))))))))))))))
theorem o89_350 : x_okL x_xm xm_89 350 b89_350 := x_okc (snd_iload_n (k := 1) rfl (by decide +kernel)) (x_okc (snd_bipush (n := 72) (by decide) (by decide +kernel)) (x_okc (snd_icmp_ge (off := 30) (by decide) (by decide +kernel)) (x_okc (snd_aload_n (k := 0) rfl (by decide +kernel)) (x_okc (snd_gfr ko_8 (by decide) rfl (by decide) wd_787 (by decide +kernel)) (x_okc (snd_iload_n (k := 1) rfl (by decide +kernel)) (x_okc (snd_iconst (n := -1) (by decide) (by decide +kernel)) (x_okc (snd_ast ka_24 rfl rfl (by decide) (by decide +kernel)) (x_okc (snd_aload_n (k := 0) rfl (by decide +kernel)) (x_okc (snd_gfr ko_8 (by decide) rfl (by decide) wd_791 (by decide +kernel)) (x_okc (snd_iload_n (k := 1) rfl (by decide +kernel)) (x_okc (snd_iconst (n := -1) (by decide) (by decide +kernel)) (x_okc (snd_ast ka_28 rfl rfl (by decide) (by decide +kernel)) (x_okc (snd_aload_n (k := 0) rfl (by decide +kernel)) (x_okc (snd_gfr ko_8 (by decide) rfl (by decide) wd_821 (by decide +kernel)) (x_okc (snd_iload_n (k := 1) rfl (by decide +kernel)) (x_okc (snd_iconst (n := -1) (by decide) (by decide +kernel)) (x_okc (snd_ast ka_57 rfl rfl (by decide) (by decide +kernel)) (x_okc (snd_iinc (n := 1) (by decide) (by decide +kernel)) (x_okc (snd_goto (off := -30) (by decide) (by decide +kernel)) x_okn)))))))))))))))))))
theorem o89_383 : x_okL x_xm xm_89 383 b89_383 := x_okc (snd_iconst (n := 0) (by decide) (by decide +kernel)) (x_okc (snd_istore_n (k := 1) rfl (by decide +kernel)) (x_okc (snd_to) x_okn))
theorem o89_385 : x_okL x_xm xm_89 385 b89_385 := x_okc (snd_iload_n (k := 1) rfl (by decide +kernel)) (x_okc (snd_bipush (n := 36) (by decide) (by decide +kernel)) (x_okc (snd_icmp_ge (off := 16) (by decide) (by decide +kernel)) (x_okc (snd_aload_n (k := 0) rfl (by decide +kernel)) (x_okc (snd_gfr ko_8 (by decide) rfl (by decide) wd_799 (by decide +kernel)) (x_okc (snd_iload_n (k := 1) rfl (by decide +kernel)) (x_okc (snd_iconst (n := -1) (by decide) (by decide +kernel)) (x_okc (snd_ast ka_36 rfl rfl (by decide) (by decide +kernel)) (x_okc (snd_iinc (n := 1) (by decide) (by decide +kernel)) (x_okc (snd_goto (off := -16) (by decide) (by decide +kernel)) x_okn)))))))))
theorem o89_404 : x_okL x_xm xm_89 404 b89_404 := x_okc (snd_iconst (n := 0) (by decide) (by decide +kernel)) (x_okc (snd_istore_n (k := 1) rfl (by decide +kernel)) (x_okc (snd_to) x_okn))
theorem o89_406 : x_okL x_xm xm_89 406 b89_406 := x_okc (snd_iload_n (k := 1) rfl (by decide +kernel)) (x_okc (snd_bipush (n := 15) (by decide) (by decide +kernel)) (x_okc (snd_icmp_ge (off := 16) (by decide) (by decide +kernel)) (x_okc (snd_aload_n (k := 0) rfl (by decide +kernel)) (x_okc (snd_gfr ko_8 (by decide) rfl (by decide) wd_800 (by decide +kernel)) (x_okc (snd_iload_n (k := 1) rfl (by decide +kernel)) (x_okc (snd_iconst (n := -1) (by decide) (by decide +kernel)) (x_okc (snd_ast ka_37 rfl rfl (by decide) (by decide +kernel)) (x_okc (snd_iinc (n := 1) (by decide) (by decide +kernel)) (x_okc (snd_goto (off := -16) (by decide) (by decide +kernel)) x_okn)))))))))
theorem o89_425 : x_okL x_xm xm_89 425 b89_425 := x_okc (snd_iconst (n := 0) (by decide) (by decide +kernel)) (x_okc (snd_istore_n (k := 1) rfl (by decide +kernel)) (x_okc (snd_to) x_okn))
theorem o89_427 : x_okL x_xm xm_89 427 b89_427 := x_okc (snd_iload_n (k := 1) rfl (by decide +kernel)) (x_okc (snd_bipush (n := 9) (by decide) (by decide +kernel)) (x_okc (snd_icmp_ge (off := 16) (by decide) (by decide +kernel)) (x_okc (snd_aload_n (k := 0) rfl (by decide +kernel)) (x_okc (snd_gfr ko_8 (by decide) rfl (by decide) wd_801 (by decide +kernel)) (x_okc (snd_iload_n (k := 1) rfl (by decide +kernel)) (x_okc (snd_iconst (n := -1) (by decide) (by decide +kernel)) (x_okc (snd_ast ka_38 rfl rfl (by decide) (by decide +kernel)) (x_okc (snd_iinc (n := 1) (by decide) (by decide +kernel)) (x_okc (snd_goto (off := -16) (by decide) (by decide +kernel)) x_okn)))))))))
theorem o89_446 : x_okL x_xm xm_89 446 b89_446 := x_okc (snd_iconst (n := 0) (by decide) (by decide +kernel)) (x_okc (snd_istore_n (k := 1) rfl (by decide +kernel)) (x_okc (snd_to) x_okn))
theorem o89_448 : x_okL x_xm xm_89 448 b89_448 := x_okc (snd_iload_n (k := 1) rfl (by decide +kernel)) (x_okc (snd_bipush (n := 16) (by decide) (by decide +kernel)) (x_okc (snd_icmp_ge (off := 16) (by decide) (by decide +kernel)) (x_okc (snd_aload_n (k := 0) rfl (by decide +kernel)) (x_okc (snd_gfr ko_8 (by decide) rfl (by decide) wd_805 (by decide +kernel)) (x_okc (snd_iload_n (k := 1) rfl (by decide +kernel)) (x_okc (snd_iconst (n := -1) (by decide) (by decide +kernel)) (x_okc (snd_ast ka_41 rfl rfl (by decide) (by decide +kernel)) (x_okc (snd_iinc (n := 1) (by decide) (by decide +kernel)) (x_okc (snd_goto (off := -16) (by decide) (by decide +kernel)) x_okn)))))))))
theorem o89_467 : x_okL x_xm xm_89 467 b89_467 := x_okc (snd_ret rfl (by decide +kernel)) x_okn
theorem o89 : ∀ q ∈ t89, x_okL x_xm xm_89 q.1 q.2 := List.forall_mem_cons.mpr ⟨o89_0, List.forall_mem_cons.mpr ⟨o89_350, List.forall_mem_cons.mpr ⟨o89_383, List.forall_mem_cons.mpr ⟨o89_385, List.forall_mem_cons.mpr ⟨o89_404, List.forall_mem_cons.mpr ⟨o89_406, List.forall_mem_cons.mpr ⟨o89_425, List.forall_mem_cons.mpr ⟨o89_427, List.forall_mem_cons.mpr ⟨o89_446, List.forall_mem_cons.mpr ⟨o89_448, List.forall_mem_cons.mpr ⟨o89_467, fun _ h => absurd h List.not_mem_nil⟩⟩⟩⟩⟩⟩⟩⟩⟩⟩⟩
theorem p89 : x_okM xm_89 := ⟨by decide, rfl, fun _ => rfl⟩
theorem o90_0 : x_okL x_xm xm_90 0 b90_0 := x_okc (snd_aload_n (k := 0) rfl (by decide +kernel)) (x_okc (snd_gfi ko_8 (by decide) rfl wd_782 (by decide +kernel)) (x_okc (snd_iret rfl (by decide +kernel)) x_okn))
theorem o90 : ∀ q ∈ t90, x_okL x_xm xm_90 q.1 q.2 := List.forall_mem_cons.mpr ⟨o90_0, fun _ h => absurd h List.not_mem_nil⟩
theorem p90 : x_okM xm_90 := ⟨by decide, rfl, fun h => by cases h⟩
theorem o91_0 : x_okL x_xm xm_91 0 b91_0 := x_okc (snd_aload_n (k := 0) rfl (by decide +kernel)) (x_okc (snd_iload_n (k := 1) rfl (by decide +kernel)) (x_okc (snd_pfi ko_8 (by decide) rfl rfl wd_782 (Or.inl rfl) (by decide +kernel)) (x_okc (snd_iload_n (k := 1) rfl (by decide +kernel)) (x_okc (snd_if_le (off := 7) (by decide) (by decide +kernel)) (x_okc (snd_iconst (n := 1) (by decide) (by decide +kernel)) (x_okc (snd_goto (off := 4) (by decide) (by decide +kernel)) x_okn))))))
theorem o91_13 : x_okL x_xm xm_91 13 b91_13 := x_okc (snd_iconst (n := 0) (by decide) (by decide +kernel)) (x_okc (snd_to) x_okn)
theorem o91_14 : x_okL x_xm xm_91 14 b91_14 := x_okc (snd_zret rfl (by decide +kernel)) x_okn
theorem o91 : ∀ q ∈ t91, x_okL x_xm xm_91 q.1 q.2 := List.forall_mem_cons.mpr ⟨o91_0, List.forall_mem_cons.mpr ⟨o91_13, List.forall_mem_cons.mpr ⟨o91_14, fun _ h => absurd h List.not_mem_nil⟩⟩⟩
theorem p91 : x_okM xm_91 := ⟨by decide, rfl, fun h => by cases h⟩
theorem o92_0 : x_okL x_xm xm_92 0 b92_0 := x_okc (snd_iload_n (k := 0) rfl (by decide +kernel)) (x_okc (snd_iload_n (k := 1) rfl (by decide +kernel)) (x_okc (snd_icmp_lt (off := 12) (by decide) (by decide +kernel)) (x_okc (snd_iload_n (k := 0) rfl (by decide +kernel)) (x_okc (snd_iload_n (k := 2) rfl (by decide +kernel)) (x_okc (snd_icmp_gt (off := 7) (by decide) (by decide +kernel)) (x_okc (snd_iconst (n := 1) (by decide) (by decide +kernel)) (x_okc (snd_goto (off := 4) (by decide) (by decide +kernel)) x_okn)))))))
theorem o92_14 : x_okL x_xm xm_92 14 b92_14 := x_okc (snd_iconst (n := 0) (by decide) (by decide +kernel)) (x_okc (snd_to) x_okn)
theorem o92_15 : x_okL x_xm xm_92 15 b92_15 := x_okc (snd_zret rfl (by decide +kernel)) x_okn
theorem o92 : ∀ q ∈ t92, x_okL x_xm xm_92 q.1 q.2 := List.forall_mem_cons.mpr ⟨o92_0, List.forall_mem_cons.mpr ⟨o92_14, List.forall_mem_cons.mpr ⟨o92_15, fun _ h => absurd h List.not_mem_nil⟩⟩⟩
theorem p92 : x_okM xm_92 := ⟨by decide, rfl, fun h => by cases h⟩
theorem o93_0 : x_okL x_xm xm_93 0 b93_0 := x_okc (snd_iload_n (k := 0) rfl (by decide +kernel)) (x_okc (snd_iconst (n := 0) (by decide) (by decide +kernel)) (x_okc (snd_iconst (n := 2) (by decide) (by decide +kernel)) (x_okc (snd_calls (M' := xm_92) rfl rfl rfl rfl rfl wd_941 wd_939 wd_940 wd_62 (by decide +kernel) (Nat.le_of_ble_eq_true rfl) (Nat.le_of_ble_eq_true rfl) (by decide +kernel)) (x_okc (snd_if_eq (off := 17) (by decide) (by decide +kernel)) (x_okc (snd_iload_n (k := 1) rfl (by decide +kernel)) (x_okc (snd_iconst (n := 0) (by decide) (by decide +kernel)) (x_okc (snd_bipush (n := 23) (by decide) (by decide +kernel)) (x_okc (snd_calls (M' := xm_92) rfl rfl rfl rfl rfl wd_941 wd_939 wd_940 wd_62 (by decide +kernel) (Nat.le_of_ble_eq_true rfl) (Nat.le_of_ble_eq_true rfl) (by decide +kernel)) (x_okc (snd_if_eq (off := 7) (by decide) (by decide +kernel)) (x_okc (snd_iconst (n := 1) (by decide) (by decide +kernel)) (x_okc (snd_goto (off := 4) (by decide) (by decide +kernel)) x_okn)))))))))))
theorem o93_23 : x_okL x_xm xm_93 23 b93_23 := x_okc (snd_iconst (n := 0) (by decide) (by decide +kernel)) (x_okc (snd_to) x_okn)
theorem o93_24 : x_okL x_xm xm_93 24 b93_24 := x_okc (snd_zret rfl (by decide +kernel)) x_okn
theorem o93 : ∀ q ∈ t93, x_okL x_xm xm_93 q.1 q.2 := List.forall_mem_cons.mpr ⟨o93_0, List.forall_mem_cons.mpr ⟨o93_23, List.forall_mem_cons.mpr ⟨o93_24, fun _ h => absurd h List.not_mem_nil⟩⟩⟩
theorem p93 : x_okM xm_93 := ⟨by decide, rfl, fun h => by cases h⟩
theorem o94_0 : x_okL x_xm xm_94 0 b94_0 := x_okc (snd_aload_n (k := 0) rfl (by decide +kernel)) (x_okc (snd_iload_n (k := 1) rfl (by decide +kernel)) (x_okc (snd_iconst (n := 0) (by decide) (by decide +kernel)) (x_okc (snd_iconst (n := 2) (by decide) (by decide +kernel)) (x_okc (snd_calls (M' := xm_92) rfl rfl rfl rfl rfl wd_941 wd_939 wd_940 wd_62 (by decide +kernel) (Nat.le_of_ble_eq_true rfl) (Nat.le_of_ble_eq_true rfl) (by decide +kernel)) (x_okc (snd_if_eq (off := 17) (by decide) (by decide +kernel)) (x_okc (snd_iload_n (k := 2) rfl (by decide +kernel)) (x_okc (snd_iconst (n := 0) (by decide) (by decide +kernel)) (x_okc (snd_iconst (n := 2) (by decide) (by decide +kernel)) (x_okc (snd_calls (M' := xm_92) rfl rfl rfl rfl rfl wd_941 wd_939 wd_940 wd_62 (by decide +kernel) (Nat.le_of_ble_eq_true rfl) (Nat.le_of_ble_eq_true rfl) (by decide +kernel)) (x_okc (snd_if_eq (off := 8) (by decide) (by decide +kernel)) (x_okc (snd_iload_n (k := 1) rfl (by decide +kernel)) (x_okc (snd_iload_n (k := 2) rfl (by decide +kernel)) (x_okc (snd_icmp_ne (off := 7) (by decide) (by decide +kernel)) (x_okc (snd_to) x_okn))))))))))))))
theorem o94_24 : x_okL x_xm xm_94 24 b94_24 := x_okc (snd_iconst (n := 1) (by decide) (by decide +kernel)) (x_okc (snd_goto (off := 17) (by decide) (by decide +kernel)) x_okn)
theorem o94_28 : x_okL x_xm xm_94 28 b94_28 := x_okc (snd_aload_n (k := 0) rfl (by decide +kernel)) (x_okc (snd_gfi ko_8 (by decide) rfl wd_802 (by decide +kernel)) (x_okc (snd_bipush (n := 16) (by decide) (by decide +kernel)) (x_okc (snd_icmp_ne (off := 7) (by decide) (by decide +kernel)) (x_okc (snd_iconst (n := 2) (by decide) (by decide +kernel)) (x_okc (snd_goto (off := 4) (by decide) (by decide +kernel)) x_okn)))))
theorem o94_41 : x_okL x_xm xm_94 41 b94_41 := x_okc (snd_iconst (n := 0) (by decide) (by decide +kernel)) (x_okc (snd_to) x_okn)
theorem o94_42 : x_okL x_xm xm_94 42 b94_42 := x_okc (snd_callv (M' := xm_91) rfl ko_8 rfl rfl rfl rfl wd_945 wd_942 wd_944 wd_62 wd_27 (by decide +kernel) (Nat.le_of_ble_eq_true rfl) (Nat.le_of_ble_eq_true rfl) (by decide +kernel)) (x_okc (snd_if_eq (off := 5) (by decide) (by decide +kernel)) (x_okc (snd_iconst (n := 0) (by decide) (by decide +kernel)) (x_okc (snd_iret rfl (by decide +kernel)) x_okn)))
theorem o94_50 : x_okL x_xm xm_94 50 b94_50 := x_okc (snd_aload_n (k := 0) rfl (by decide +kernel)) (x_okc (snd_gfr ko_8 (by decide) rfl (by decide) wd_803 (by decide +kernel)) (x_okc (snd_aload_n (k := 0) rfl (by decide +kernel)) (x_okc (snd_gfi ko_8 (by decide) rfl wd_802 (by decide +kernel)) (x_okc (snd_iload_n (k := 1) rfl (by decide +kernel)) (x_okc (snd_ast ka_39 rfl rfl (by decide) (by decide +kernel)) (x_okc (snd_aload_n (k := 0) rfl (by decide +kernel)) (x_okc (snd_gfr ko_8 (by decide) rfl (by decide) wd_804 (by decide +kernel)) (x_okc (snd_aload_n (k := 0) rfl (by decide +kernel)) (x_okc (snd_gfi ko_8 (by decide) rfl wd_802 (by decide +kernel)) (x_okc (snd_iload_n (k := 2) rfl (by decide +kernel)) (x_okc (snd_ast ka_40 rfl rfl (by decide) (by decide +kernel)) (x_okc (snd_aload_n (k := 0) rfl (by decide +kernel)) (x_okc (snd_dup (by decide +kernel)) (x_okc (snd_gfi ko_8 (by decide) rfl wd_802 (by decide +kernel)) (x_okc (snd_iconst (n := 1) (by decide) (by decide +kernel)) (x_okc (snd_iadd (by decide +kernel)) (x_okc (snd_pfi ko_8 (by decide) rfl rfl wd_802 (Or.inl rfl) (by decide +kernel)) (x_okc (snd_aload_n (k := 0) rfl (by decide +kernel)) (x_okc (snd_gfi ko_8 (by decide) rfl wd_802 (by decide +kernel)) (x_okc (snd_iconst (n := 1) (by decide) (by decide +kernel)) (x_okc (snd_isub (by decide +kernel)) (x_okc (snd_iret rfl (by decide +kernel)) x_okn))))))))))))))))))))))
theorem o94 : ∀ q ∈ t94, x_okL x_xm xm_94 q.1 q.2 := List.forall_mem_cons.mpr ⟨o94_0, List.forall_mem_cons.mpr ⟨o94_24, List.forall_mem_cons.mpr ⟨o94_28, List.forall_mem_cons.mpr ⟨o94_41, List.forall_mem_cons.mpr ⟨o94_42, List.forall_mem_cons.mpr ⟨o94_50, fun _ h => absurd h List.not_mem_nil⟩⟩⟩⟩⟩⟩
theorem p94 : x_okM xm_94 := ⟨by decide, rfl, fun h => by cases h⟩
theorem o95_0 : x_okL x_xm xm_95 0 b95_0 := x_okc (snd_iload_n (k := 0) rfl (by decide +kernel)) (x_okc (snd_sipush (n := 999) (by decide) (by decide +kernel)) (x_okc (snd_icmp_le (off := 7) (by decide) (by decide +kernel)) (x_okc (snd_iconst (n := 3) (by decide) (by decide +kernel)) (x_okc (snd_goto (off := 14) (by decide) (by decide +kernel)) x_okn))))
theorem o95_11 : x_okL x_xm xm_95 11 b95_11 := x_okc (snd_iload_n (k := 0) rfl (by decide +kernel)) (x_okc (snd_bipush (n := 99) (by decide) (by decide +kernel)) (x_okc (snd_icmp_le (off := 7) (by decide) (by decide +kernel)) (x_okc (snd_iconst (n := 2) (by decide) (by decide +kernel)) (x_okc (snd_goto (off := 4) (by decide) (by decide +kernel)) x_okn))))
theorem o95_21 : x_okL x_xm xm_95 21 b95_21 := x_okc (snd_iconst (n := 1) (by decide) (by decide +kernel)) (x_okc (snd_to) x_okn)
theorem o95_22 : x_okL x_xm xm_95 22 b95_22 := x_okc (snd_iret rfl (by decide +kernel)) x_okn
theorem o95 : ∀ q ∈ t95, x_okL x_xm xm_95 q.1 q.2 := List.forall_mem_cons.mpr ⟨o95_0, List.forall_mem_cons.mpr ⟨o95_11, List.forall_mem_cons.mpr ⟨o95_21, List.forall_mem_cons.mpr ⟨o95_22, fun _ h => absurd h List.not_mem_nil⟩⟩⟩⟩
theorem p95 : x_okM xm_95 := ⟨by decide, rfl, fun h => by cases h⟩
theorem o96_0 : x_okL x_xm xm_96 0 b96_0 := x_okc (snd_iload_n (k := 0) rfl (by decide +kernel)) (x_okc (snd_istore_n (k := 2) rfl (by decide +kernel)) (x_okc (snd_iload_n (k := 1) rfl (by decide +kernel)) (x_okc (snd_istore_n (k := 3) rfl (by decide +kernel)) (x_okc (snd_to) x_okn))))
theorem o96_4 : x_okL x_xm xm_96 4 b96_4 := x_okc (snd_iload_n (k := 2) rfl (by decide +kernel)) (x_okc (snd_calls (M' := xm_95) rfl rfl rfl rfl rfl wd_955 wd_953 wd_954 wd_62 (by decide +kernel) (Nat.le_of_ble_eq_true rfl) (Nat.le_of_ble_eq_true rfl) (by decide +kernel)) (x_okc (snd_iload_n (k := 3) rfl (by decide +kernel)) (x_okc (snd_calls (M' := xm_95) rfl rfl rfl rfl rfl wd_955 wd_953 wd_954 wd_62 (by decide +kernel) (Nat.le_of_ble_eq_true rfl) (Nat.le_of_ble_eq_true rfl) (by decide +kernel)) (x_okc (snd_icmp_le (off := 11) (by decide) (by decide +kernel)) (x_okc (snd_iload_n (k := 2) rfl (by decide +kernel)) (x_okc (snd_bipush (n := 10) (by decide) (by decide +kernel)) (x_okc (snd_idiv (by decide +kernel)) (x_okc (snd_istore_n (k := 2) rfl (by decide +kernel)) (x_okc (snd_goto (off := -16) (by decide) (by decide +kernel)) x_okn)))))))))
theorem o96_23 : x_okL x_xm xm_96 23 b96_23 := x_okc (snd_iload_n (k := 3) rfl (by decide +kernel)) (x_okc (snd_calls (M' := xm_95) rfl rfl rfl rfl rfl wd_955 wd_953 wd_954 wd_62 (by decide +kernel) (Nat.le_of_ble_eq_true rfl) (Nat.le_of_ble_eq_true rfl) (by decide +kernel)) (x_okc (snd_iload_n (k := 2) rfl (by decide +kernel)) (x_okc (snd_calls (M' := xm_95) rfl rfl rfl rfl rfl wd_955 wd_953 wd_954 wd_62 (by decide +kernel) (Nat.le_of_ble_eq_true rfl) (Nat.le_of_ble_eq_true rfl) (by decide +kernel)) (x_okc (snd_icmp_le (off := 11) (by decide) (by decide +kernel)) (x_okc (snd_iload_n (k := 3) rfl (by decide +kernel)) (x_okc (snd_bipush (n := 10) (by decide) (by decide +kernel)) (x_okc (snd_idiv (by decide +kernel)) (x_okc (snd_istore_n (k := 3) rfl (by decide +kernel)) (x_okc (snd_goto (off := -16) (by decide) (by decide +kernel)) x_okn)))))))))
theorem o96_42 : x_okL x_xm xm_96 42 b96_42 := x_okc (snd_iload_n (k := 2) rfl (by decide +kernel)) (x_okc (snd_iload_n (k := 3) rfl (by decide +kernel)) (x_okc (snd_icmp_ne (off := 7) (by decide) (by decide +kernel)) (x_okc (snd_iconst (n := 1) (by decide) (by decide +kernel)) (x_okc (snd_goto (off := 4) (by decide) (by decide +kernel)) x_okn))))
theorem o96_51 : x_okL x_xm xm_96 51 b96_51 := x_okc (snd_iconst (n := 0) (by decide) (by decide +kernel)) (x_okc (snd_to) x_okn)
theorem o96_52 : x_okL x_xm xm_96 52 b96_52 := x_okc (snd_zret rfl (by decide +kernel)) x_okn
theorem o96 : ∀ q ∈ t96, x_okL x_xm xm_96 q.1 q.2 := List.forall_mem_cons.mpr ⟨o96_0, List.forall_mem_cons.mpr ⟨o96_4, List.forall_mem_cons.mpr ⟨o96_23, List.forall_mem_cons.mpr ⟨o96_42, List.forall_mem_cons.mpr ⟨o96_51, List.forall_mem_cons.mpr ⟨o96_52, fun _ h => absurd h List.not_mem_nil⟩⟩⟩⟩⟩⟩
theorem p96 : x_okM xm_96 := ⟨by decide, rfl, fun h => by cases h⟩
theorem o97_0 : x_okL x_xm xm_97 0 b97_0 := x_okc (snd_iload_n (k := 2) rfl (by decide +kernel)) (x_okc (snd_bipush (n := 10) (by decide) (by decide +kernel)) (x_okc (snd_bipush (n := 19) (by decide) (by decide +kernel)) (x_okc (snd_calls (M' := xm_92) rfl rfl rfl rfl rfl wd_941 wd_939 wd_940 wd_62 (by decide +kernel) (Nat.le_of_ble_eq_true rfl) (Nat.le_of_ble_eq_true rfl) (by decide +kernel)) (x_okc (snd_if_ne (off := 28) (by decide) (by decide +kernel)) (x_okc (snd_iload_n (k := 2) rfl (by decide +kernel)) (x_okc (snd_bipush (n := 100) (by decide) (by decide +kernel)) (x_okc (snd_sipush (n := 199) (by decide) (by decide +kernel)) (x_okc (snd_calls (M' := xm_92) rfl rfl rfl rfl rfl wd_941 wd_939 wd_940 wd_62 (by decide +kernel) (Nat.le_of_ble_eq_true rfl) (Nat.le_of_ble_eq_true rfl) (by decide +kernel)) (x_okc (snd_if_ne (off := 16) (by decide) (by decide +kernel)) (x_okc (snd_iload_n (k := 2) rfl (by decide +kernel)) (x_okc (snd_sipush (n := 1000) (by decide) (by decide +kernel)) (x_okc (snd_sipush (n := 1999) (by decide) (by decide +kernel)) (x_okc (snd_calls (M' := xm_92) rfl rfl rfl rfl rfl wd_941 wd_939 wd_940 wd_62 (by decide +kernel) (Nat.le_of_ble_eq_true rfl) (Nat.le_of_ble_eq_true rfl) (by decide +kernel)) (x_okc (snd_if_eq (off := 7) (by decide) (by decide +kernel)) (x_okc (snd_to) x_okn)))))))))))))))
theorem o97_36 : x_okL x_xm xm_97 36 b97_36 := x_okc (snd_iconst (n := 1) (by decide) (by decide +kernel)) (x_okc (snd_goto (off := 4) (by decide) (by decide +kernel)) x_okn)
theorem o97_40 : x_okL x_xm xm_97 40 b97_40 := x_okc (snd_iconst (n := 0) (by decide) (by decide +kernel)) (x_okc (snd_to) x_okn)
theorem o97_41 : x_okL x_xm xm_97 41 b97_41 := x_okc (snd_istore (by decide +kernel)) (x_okc (snd_iload_n (k := 1) rfl (by decide +kernel)) (x_okc (snd_iconst (n := 0) (by decide) (by decide +kernel)) (x_okc (snd_iconst (n := 2) (by decide) (by decide +kernel)) (x_okc (snd_calls (M' := xm_92) rfl rfl rfl rfl rfl wd_941 wd_939 wd_940 wd_62 (by decide +kernel) (Nat.le_of_ble_eq_true rfl) (Nat.le_of_ble_eq_true rfl) (by decide +kernel)) (x_okc (snd_if_eq (off := 44) (by decide) (by decide +kernel)) (x_okc (snd_iload (by decide +kernel)) (x_okc (snd_if_eq (off := 39) (by decide) (by decide +kernel)) (x_okc (snd_iload_n (k := 3) rfl (by decide +kernel)) (x_okc (snd_iconst (n := 0) (by decide) (by decide +kernel)) (x_okc (snd_iconst (n := 2) (by decide) (by decide +kernel)) (x_okc (snd_calls (M' := xm_92) rfl rfl rfl rfl rfl wd_941 wd_939 wd_940 wd_62 (by decide +kernel) (Nat.le_of_ble_eq_true rfl) (Nat.le_of_ble_eq_true rfl) (by decide +kernel)) (x_okc (snd_if_eq (off := 30) (by decide) (by decide +kernel)) (x_okc (snd_iload (by decide +kernel)) (x_okc (snd_iconst (n := 0) (by decide) (by decide +kernel)) (x_okc (snd_bipush (n := 99) (by decide) (by decide +kernel)) (x_okc (snd_calls (M' := xm_92) rfl rfl rfl rfl rfl wd_941 wd_939 wd_940 wd_62 (by decide +kernel) (Nat.le_of_ble_eq_true rfl) (Nat.le_of_ble_eq_true rfl) (by decide +kernel)) (x_okc (snd_if_eq (off := 19) (by decide) (by decide +kernel)) (x_okc (snd_iload (by decide +kernel)) (x_okc (snd_iconst (n := 0) (by decide) (by decide +kernel)) (x_okc (snd_sipush (n := 1000) (by decide) (by decide +kernel)) (x_okc (snd_calls (M' := xm_92) rfl rfl rfl rfl rfl wd_941 wd_939 wd_940 wd_62 (by decide +kernel) (Nat.le_of_ble_eq_true rfl) (Nat.le_of_ble_eq_true rfl) (by decide +kernel)) (x_okc (snd_if_eq (off := 7) (by decide) (by decide +kernel)) (x_okc (snd_iconst (n := 1) (by decide) (by decide +kernel)) (x_okc (snd_goto (off := 4) (by decide) (by decide +kernel)) x_okn))))))))))))))))))))))))
theorem o97_93 : x_okL x_xm xm_97 93 b97_93 := x_okc (snd_iconst (n := 0) (by decide) (by decide +kernel)) (x_okc (snd_to) x_okn)
theorem o97_94 : x_okL x_xm xm_97 94 b97_94 := x_okc (snd_istore (by decide +kernel)) (x_okc (snd_aload_n (k := 0) rfl (by decide +kernel)) (x_okc (snd_iload (by decide +kernel)) (x_okc (snd_if_eq (off := 7) (by decide) (by decide +kernel)) (x_okc (snd_iconst (n := 0) (by decide) (by decide +kernel)) (x_okc (snd_goto (off := 4) (by decide) (by decide +kernel)) x_okn)))))
theorem o97_106 : x_okL x_xm xm_97 106 b97_106 := x_okc (snd_iconst (n := 1) (by decide) (by decide +kernel)) (x_okc (snd_to) x_okn)
theorem o97_107 : x_okL x_xm xm_97 107 b97_107 := x_okc (snd_callv (M' := xm_91) rfl ko_8 rfl rfl rfl rfl wd_945 wd_942 wd_944 wd_62 wd_27 (by decide +kernel) (Nat.le_of_ble_eq_true rfl) (Nat.le_of_ble_eq_true rfl) (by decide +kernel)) (x_okc (snd_if_eq (off := 5) (by decide) (by decide +kernel)) (x_okc (snd_iconst (n := 0) (by decide) (by decide +kernel)) (x_okc (snd_iret rfl (by decide +kernel)) x_okn)))
theorem o97_115 : x_okL x_xm xm_97 115 b97_115 := x_okc (snd_iconst (n := -1) (by decide) (by decide +kernel)) (x_okc (snd_istore (by decide +kernel)) (x_okc (snd_iconst (n := 0) (by decide) (by decide +kernel)) (x_okc (snd_istore (by decide +kernel)) (x_okc (snd_bipush (n := 12) (by decide) (by decide +kernel)) (x_okc (snd_iload_n (k := 1) rfl (by decide +kernel)) (x_okc (snd_imul (by decide +kernel)) (x_okc (snd_istore (by decide +kernel)) (x_okc (snd_to) x_okn))))))))
theorem o97_127 : x_okL x_xm xm_97 127 b97_127 := x_okc (snd_iload (by decide +kernel)) (x_okc (snd_bipush (n := 12) (by decide) (by decide +kernel)) (x_okc (snd_iload_n (k := 1) rfl (by decide +kernel)) (x_okc (snd_imul (by decide +kernel)) (x_okc (snd_aload_n (k := 0) rfl (by decide +kernel)) (x_okc (snd_gfr ko_8 (by decide) rfl (by decide) wd_792 (by decide +kernel)) (x_okc (snd_iload_n (k := 1) rfl (by decide +kernel)) (x_okc (snd_ald ka_29 rfl rfl (by decide) (by decide +kernel)) (x_okc (snd_iadd (by decide +kernel)) (x_okc (snd_icmp_ge (off := 66) (by decide) (by decide +kernel)) (x_okc (snd_aload_n (k := 0) rfl (by decide +kernel)) (x_okc (snd_gfr ko_8 (by decide) rfl (by decide) wd_793 (by decide +kernel)) (x_okc (snd_iload (by decide +kernel)) (x_okc (snd_ald ka_30 rfl rfl (by decide) (by decide +kernel)) (x_okc (snd_iload_n (k := 2) rfl (by decide +kernel)) (x_okc (snd_icmp_ne (off := 8) (by decide) (by decide +kernel)) (x_okc (snd_iload (by decide +kernel)) (x_okc (snd_goto (off := 5) (by decide) (by decide +kernel)) x_okn)))))))))))))))))
theorem o97_159 : x_okL x_xm xm_97 159 b97_159 := x_okc (snd_iload (by decide +kernel)) (x_okc (snd_to) x_okn)
theorem o97_161 : x_okL x_xm xm_97 161 b97_161 := x_okc (snd_istore (by decide +kernel)) (x_okc (snd_iload (by decide +kernel)) (x_okc (snd_if_ne (off := 28) (by decide) (by decide +kernel)) (x_okc (snd_aload_n (k := 0) rfl (by decide +kernel)) (x_okc (snd_gfr ko_8 (by decide) rfl (by decide) wd_793 (by decide +kernel)) (x_okc (snd_iload (by decide +kernel)) (x_okc (snd_ald ka_30 rfl rfl (by decide) (by decide +kernel)) (x_okc (snd_iload_n (k := 2) rfl (by decide +kernel)) (x_okc (snd_icmp_eq (off := 21) (by decide) (by decide +kernel)) (x_okc (snd_aload_n (k := 0) rfl (by decide +kernel)) (x_okc (snd_gfr ko_8 (by decide) rfl (by decide) wd_793 (by decide +kernel)) (x_okc (snd_iload (by decide +kernel)) (x_okc (snd_ald ka_30 rfl rfl (by decide) (by decide +kernel)) (x_okc (snd_iload_n (k := 2) rfl (by decide +kernel)) (x_okc (snd_calls (M' := xm_96) rfl rfl rfl rfl rfl wd_952 wd_950 wd_951 wd_62 (by decide +kernel) (Nat.le_of_ble_eq_true rfl) (Nat.le_of_ble_eq_true rfl) (by decide +kernel)) (x_okc (snd_if_eq (off := 7) (by decide) (by decide +kernel)) (x_okc (snd_to) x_okn))))))))))))))))
theorem o97_193 : x_okL x_xm xm_97 193 b97_193 := x_okc (snd_iconst (n := 1) (by decide) (by decide +kernel)) (x_okc (snd_goto (off := 4) (by decide) (by decide +kernel)) x_okn)
theorem o97_197 : x_okL x_xm xm_97 197 b97_197 := x_okc (snd_iconst (n := 0) (by decide) (by decide +kernel)) (x_okc (snd_to) x_okn)
theorem o97_198 : x_okL x_xm xm_97 198 b97_198 := x_okc (snd_istore (by decide +kernel)) (x_okc (snd_iinc (n := 1) (by decide) (by decide +kernel)) (x_okc (snd_goto (off := -76) (by decide) (by decide +kernel)) x_okn))
theorem o97_206 : x_okL x_xm xm_97 206 b97_206 := x_okc (snd_iload (by decide +kernel)) (x_okc (snd_if_ne (off := 19) (by decide) (by decide +kernel)) (x_okc (snd_iload (by decide +kernel)) (x_okc (snd_if_ge (off := 18) (by decide) (by decide +kernel)) (x_okc (snd_aload_n (k := 0) rfl (by decide +kernel)) (x_okc (snd_gfr ko_8 (by decide) rfl (by decide) wd_792 (by decide +kernel)) (x_okc (snd_iload_n (k := 1) rfl (by decide +kernel)) (x_okc (snd_ald ka_29 rfl rfl (by decide) (by decide +kernel)) (x_okc (snd_bipush (n := 12) (by decide) (by decide +kernel)) (x_okc (snd_icmp_ne (off := 7) (by decide) (by decide +kernel)) (x_okc (snd_to) x_okn))))))))))
theorem o97_227 : x_okL x_xm xm_97 227 b97_227 := x_okc (snd_iconst (n := 1) (by decide) (by decide +kernel)) (x_okc (snd_goto (off := 4) (by decide) (by decide +kernel)) x_okn)
theorem o97_231 : x_okL x_xm xm_97 231 b97_231 := x_okc (snd_iconst (n := 0) (by decide) (by decide +kernel)) (x_okc (snd_to) x_okn)
theorem o97_232 : x_okL x_xm xm_97 232 b97_232 := x_okc (snd_istore (by decide +kernel)) (x_okc (snd_iload (by decide +kernel)) (x_okc (snd_if_lt (off := 90) (by decide) (by decide +kernel)) (x_okc (snd_iload (by decide +kernel)) (x_okc (snd_if_ne (off := 29) (by decide) (by decide +kernel)) (x_okc (snd_aload_n (k := 0) rfl (by decide +kernel)) (x_okc (snd_gfr ko_8 (by decide) rfl (by decide) wd_797 (by decide +kernel)) (x_okc (snd_iload (by decide +kernel)) (x_okc (snd_bald ka_34 rfl rfl (by decide) (by decide +kernel)) (x_okc (snd_if_ne (off := 19) (by decide) (by decide +kernel)) (x_okc (snd_iload_n (k := 3) rfl (by decide +kernel)) (x_okc (snd_iload_n (k := 1) rfl (by decide +kernel)) (x_okc (snd_icmp_eq (off := 14) (by decide) (by decide +kernel)) (x_okc (snd_aload_n (k := 0) rfl (by decide +kernel)) (x_okc (snd_gfr ko_8 (by decide) rfl (by decide) wd_796 (by decide +kernel)) (x_okc (snd_iload (by decide +kernel)) (x_okc (snd_ald ka_33 rfl rfl (by decide) (by decide +kernel)) (x_okc (snd_iconst (n := 3) (by decide) (by decide +kernel)) (x_okc (snd_icmp_ne (off := 7) (by decide) (by decide +kernel)) (x_okc (snd_to) x_okn)))))))))))))))))))
theorem o97_270 : x_okL x_xm xm_97 270 b97_270 := x_okc (snd_iconst (n := 1) (by decide) (by decide +kernel)) (x_okc (snd_goto (off := 4) (by decide) (by decide +kernel)) x_okn)
theorem o97_274 : x_okL x_xm xm_97 274 b97_274 := x_okc (snd_iconst (n := 0) (by decide) (by decide +kernel)) (x_okc (snd_to) x_okn)
theorem o97_275 : x_okL x_xm xm_97 275 b97_275 := x_okc (snd_istore (by decide +kernel)) (x_okc (snd_iconst (n := 0) (by decide) (by decide +kernel)) (x_okc (snd_istore (by decide +kernel)) (x_okc (snd_to) x_okn)))
theorem o97_280 : x_okL x_xm xm_97 280 b97_280 := x_okc (snd_iload (by decide +kernel)) (x_okc (snd_aload_n (k := 0) rfl (by decide +kernel)) (x_okc (snd_gfr ko_8 (by decide) rfl (by decide) wd_796 (by decide +kernel)) (x_okc (snd_iload (by decide +kernel)) (x_okc (snd_ald ka_33 rfl rfl (by decide) (by decide +kernel)) (x_okc (snd_icmp_ge (off := 37) (by decide) (by decide +kernel)) (x_okc (snd_iload (by decide +kernel)) (x_okc (snd_if_ne (off := 19) (by decide) (by decide +kernel)) (x_okc (snd_aload_n (k := 0) rfl (by decide +kernel)) (x_okc (snd_gfr ko_8 (by decide) rfl (by decide) wd_798 (by decide +kernel)) (x_okc (snd_iconst (n := 3) (by decide) (by decide +kernel)) (x_okc (snd_iload (by decide +kernel)) (x_okc (snd_imul (by decide +kernel)) (x_okc (snd_iload (by decide +kernel)) (x_okc (snd_iadd (by decide +kernel)) (x_okc (snd_ald ka_35 rfl rfl (by decide) (by decide +kernel)) (x_okc (snd_iload_n (k := 3) rfl (by decide +kernel)) (x_okc (snd_icmp_ne (off := 7) (by decide) (by decide +kernel)) (x_okc (snd_to) x_okn))))))))))))))))))
theorem o97_313 : x_okL x_xm xm_97 313 b97_313 := x_okc (snd_iconst (n := 1) (by decide) (by decide +kernel)) (x_okc (snd_goto (off := 4) (by decide) (by decide +kernel)) x_okn)
theorem o97_317 : x_okL x_xm xm_97 317 b97_317 := x_okc (snd_iconst (n := 0) (by decide) (by decide +kernel)) (x_okc (snd_to) x_okn)
theorem o97_318 : x_okL x_xm xm_97 318 b97_318 := x_okc (snd_istore (by decide +kernel)) (x_okc (snd_iinc (n := 1) (by decide) (by decide +kernel)) (x_okc (snd_goto (off := -43) (by decide) (by decide +kernel)) x_okn))
theorem o97_326 : x_okL x_xm xm_97 326 b97_326 := x_okc (snd_aload_n (k := 0) rfl (by decide +kernel)) (x_okc (snd_iload (by decide +kernel)) (x_okc (snd_if_eq (off := 7) (by decide) (by decide +kernel)) (x_okc (snd_iconst (n := 2) (by decide) (by decide +kernel)) (x_okc (snd_goto (off := 4) (by decide) (by decide +kernel)) x_okn))))
theorem o97_336 : x_okL x_xm xm_97 336 b97_336 := x_okc (snd_iconst (n := 0) (by decide) (by decide +kernel)) (x_okc (snd_to) x_okn)
theorem o97_337 : x_okL x_xm xm_97 337 b97_337 := x_okc (snd_callv (M' := xm_91) rfl ko_8 rfl rfl rfl rfl wd_945 wd_942 wd_944 wd_62 wd_27 (by decide +kernel) (Nat.le_of_ble_eq_true rfl) (Nat.le_of_ble_eq_true rfl) (by decide +kernel)) (x_okc (snd_if_eq (off := 5) (by decide) (by decide +kernel)) (x_okc (snd_iconst (n := 0) (by decide) (by decide +kernel)) (x_okc (snd_iret rfl (by decide +kernel)) x_okn)))
theorem o97_345 : x_okL x_xm xm_97 345 b97_345 := x_okc (snd_iload (by decide +kernel)) (x_okc (snd_if_ge (off := 59) (by decide) (by decide +kernel)) (x_okc (snd_bipush (n := 12) (by decide) (by decide +kernel)) (x_okc (snd_iload_n (k := 1) rfl (by decide +kernel)) (x_okc (snd_imul (by decide +kernel)) (x_okc (snd_aload_n (k := 0) rfl (by decide +kernel)) (x_okc (snd_gfr ko_8 (by decide) rfl (by decide) wd_792 (by decide +kernel)) (x_okc (snd_iload_n (k := 1) rfl (by decide +kernel)) (x_okc (snd_ald ka_29 rfl rfl (by decide) (by decide +kernel)) (x_okc (snd_iadd (by decide +kernel)) (x_okc (snd_istore (by decide +kernel)) (x_okc (snd_aload_n (k := 0) rfl (by decide +kernel)) (x_okc (snd_gfr ko_8 (by decide) rfl (by decide) wd_792 (by decide +kernel)) (x_okc (snd_iload_n (k := 1) rfl (by decide +kernel)) (x_okc (snd_dup2 (by decide +kernel)) (x_okc (snd_ald ka_29 rfl rfl (by decide) (by decide +kernel)) (x_okc (snd_iconst (n := 1) (by decide) (by decide +kernel)) (x_okc (snd_iadd (by decide +kernel)) (x_okc (snd_ast ka_29 rfl rfl (by decide) (by decide +kernel)) (x_okc (snd_aload_n (k := 0) rfl (by decide +kernel)) (x_okc (snd_gfr ko_8 (by decide) rfl (by decide) wd_793 (by decide +kernel)) (x_okc (snd_iload (by decide +kernel)) (x_okc (snd_iload_n (k := 2) rfl (by decide +kernel)) (x_okc (snd_ast ka_30 rfl rfl (by decide) (by decide +kernel)) (x_okc (snd_aload_n (k := 0) rfl (by decide +kernel)) (x_okc (snd_gfr ko_8 (by decide) rfl (by decide) wd_797 (by decide +kernel)) (x_okc (snd_iload (by decide +kernel)) (x_okc (snd_iload_n (k := 3) rfl (by decide +kernel)) (x_okc (snd_iload_n (k := 1) rfl (by decide +kernel)) (x_okc (snd_icmp_ne (off := 7) (by decide) (by decide +kernel)) (x_okc (snd_iconst (n := 1) (by decide) (by decide +kernel)) (x_okc (snd_goto (off := 4) (by decide) (by decide +kernel)) x_okn)))))))))))))))))))))))))))))))
theorem o97_396 : x_okL x_xm xm_97 396 b97_396 := x_okc (snd_iconst (n := 0) (by decide) (by decide +kernel)) (x_okc (snd_to) x_okn)
theorem o97_397 : x_okL x_xm xm_97 397 b97_397 := x_okc (snd_zst ka_34 rfl rfl (by decide) (by decide +kernel)) (x_okc (snd_aload_n (k := 0) rfl (by decide +kernel)) (x_okc (snd_gfr ko_8 (by decide) rfl (by decide) wd_796 (by decide +kernel)) (x_okc (snd_iload (by decide +kernel)) (x_okc (snd_iconst (n := 0) (by decide) (by decide +kernel)) (x_okc (snd_ast ka_33 rfl rfl (by decide) (by decide +kernel)) (x_okc (snd_to) x_okn))))))
theorem o97_406 : x_okL x_xm xm_97 406 b97_406 := x_okc (snd_aload_n (k := 0) rfl (by decide +kernel)) (x_okc (snd_gfr ko_8 (by decide) rfl (by decide) wd_794 (by decide +kernel)) (x_okc (snd_iload (by decide +kernel)) (x_okc (snd_iload (by decide +kernel)) (x_okc (snd_ast ka_31 rfl rfl (by decide) (by decide +kernel)) (x_okc (snd_aload_n (k := 0) rfl (by decide +kernel)) (x_okc (snd_gfr ko_8 (by decide) rfl (by decide) wd_795 (by decide +kernel)) (x_okc (snd_iload (by decide +kernel)) (x_okc (snd_iload (by decide +kernel)) (x_okc (snd_ast ka_32 rfl rfl (by decide) (by decide +kernel)) (x_okc (snd_iload_n (k := 3) rfl (by decide +kernel)) (x_okc (snd_iload_n (k := 1) rfl (by decide +kernel)) (x_okc (snd_icmp_eq (off := 32) (by decide) (by decide +kernel)) (x_okc (snd_aload_n (k := 0) rfl (by decide +kernel)) (x_okc (snd_gfr ko_8 (by decide) rfl (by decide) wd_798 (by decide +kernel)) (x_okc (snd_iconst (n := 3) (by decide) (by decide +kernel)) (x_okc (snd_iload (by decide +kernel)) (x_okc (snd_imul (by decide +kernel)) (x_okc (snd_aload_n (k := 0) rfl (by decide +kernel)) (x_okc (snd_gfr ko_8 (by decide) rfl (by decide) wd_796 (by decide +kernel)) (x_okc (snd_iload (by decide +kernel)) (x_okc (snd_ald ka_33 rfl rfl (by decide) (by decide +kernel)) (x_okc (snd_iadd (by decide +kernel)) (x_okc (snd_iload_n (k := 3) rfl (by decide +kernel)) (x_okc (snd_ast ka_35 rfl rfl (by decide) (by decide +kernel)) (x_okc (snd_aload_n (k := 0) rfl (by decide +kernel)) (x_okc (snd_gfr ko_8 (by decide) rfl (by decide) wd_796 (by decide +kernel)) (x_okc (snd_iload (by decide +kernel)) (x_okc (snd_dup2 (by decide +kernel)) (x_okc (snd_ald ka_33 rfl rfl (by decide) (by decide +kernel)) (x_okc (snd_iconst (n := 1) (by decide) (by decide +kernel)) (x_okc (snd_iadd (by decide +kernel)) (x_okc (snd_ast ka_33 rfl rfl (by decide) (by decide +kernel)) (x_okc (snd_to) x_okn)))))))))))))))))))))))))))))))))
theorem o97_458 : x_okL x_xm xm_97 458 b97_458 := x_okc (snd_aload_n (k := 0) rfl (by decide +kernel)) (x_okc (snd_gfr ko_8 (by decide) rfl (by decide) wd_796 (by decide +kernel)) (x_okc (snd_iload (by decide +kernel)) (x_okc (snd_ald ka_33 rfl rfl (by decide) (by decide +kernel)) (x_okc (snd_iret rfl (by decide +kernel)) x_okn))))
theorem o97 : ∀ q ∈ t97, x_okL x_xm xm_97 q.1 q.2 := List.forall_mem_cons.mpr ⟨o97_0, List.forall_mem_cons.mpr ⟨o97_36, List.forall_mem_cons.mpr ⟨o97_40, List.forall_mem_cons.mpr ⟨o97_41, List.forall_mem_cons.mpr ⟨o97_93, List.forall_mem_cons.mpr ⟨o97_94, List.forall_mem_cons.mpr ⟨o97_106, List.forall_mem_cons.mpr ⟨o97_107, List.forall_mem_cons.mpr ⟨o97_115, List.forall_mem_cons.mpr ⟨o97_127, List.forall_mem_cons.mpr ⟨o97_159, List.forall_mem_cons.mpr ⟨o97_161, List.forall_mem_cons.mpr ⟨o97_193, List.forall_mem_cons.mpr ⟨o97_197, List.forall_mem_cons.mpr ⟨o97_198, List.forall_mem_cons.mpr ⟨o97_206, List.forall_mem_cons.mpr ⟨o97_227, List.forall_mem_cons.mpr ⟨o97_231, List.forall_mem_cons.mpr ⟨o97_232, List.forall_mem_cons.mpr ⟨o97_270, List.forall_mem_cons.mpr ⟨o97_274, List.forall_mem_cons.mpr ⟨o97_275, List.forall_mem_cons.mpr ⟨o97_280, List.forall_mem_cons.mpr ⟨o97_313, List.forall_mem_cons.mpr ⟨o97_317, List.forall_mem_cons.mpr ⟨o97_318, List.forall_mem_cons.mpr ⟨o97_326, List.forall_mem_cons.mpr ⟨o97_336, List.forall_mem_cons.mpr ⟨o97_337, List.forall_mem_cons.mpr ⟨o97_345, List.forall_mem_cons.mpr ⟨o97_396, List.forall_mem_cons.mpr ⟨o97_397, List.forall_mem_cons.mpr ⟨o97_406, List.forall_mem_cons.mpr ⟨o97_458, fun _ h => absurd h List.not_mem_nil⟩⟩⟩⟩⟩⟩⟩⟩⟩⟩⟩⟩⟩⟩⟩⟩⟩⟩⟩⟩⟩⟩⟩⟩⟩⟩⟩⟩⟩⟩⟩⟩⟩⟩
theorem p97 : x_okM xm_97 := ⟨by decide, rfl, fun h => by cases h⟩
end
section
theorem o98_0 : x_okL x_xm xm_98 0 b98_0 := x_okc (snd_aload_n (k := 0) rfl (by decide +kernel)) (x_okc (snd_iload_n (k := 1) rfl (by decide +kernel)) (x_okc (snd_iload_n (k := 3) rfl (by decide +kernel)) (x_okc (snd_calls (M' := xm_93) rfl rfl rfl rfl rfl wd_962 wd_960 wd_961 wd_62 (by decide +kernel) (Nat.le_of_ble_eq_true rfl) (Nat.le_of_ble_eq_true rfl) (by decide +kernel)) (x_okc (snd_if_eq (off := 16) (by decide) (by decide +kernel)) (x_okc (snd_iload_n (k := 2) rfl (by decide +kernel)) (x_okc (snd_iconst (n := 0) (by decide) (by decide +kernel)) (x_okc (snd_iconst (n := 3) (by decide) (by decide +kernel)) (x_okc (snd_calls (M' := xm_92) rfl rfl rfl rfl rfl wd_941 wd_939 wd_940 wd_62 (by decide +kernel) (Nat.le_of_ble_eq_true rfl) (Nat.le_of_ble_eq_true rfl) (by decide +kernel)) (x_okc (snd_if_eq (off := 7) (by decide) (by decide +kernel)) (x_okc (snd_iconst (n := 0) (by decide) (by decide +kernel)) (x_okc (snd_goto (off := 4) (by decide) (by decide +kernel)) x_okn)))))))))))
theorem o98_22 : x_okL x_xm xm_98 22 b98_22 := x_okc (snd_iconst (n := 1) (by decide) (by decide +kernel)) (x_okc (snd_to) x_okn)
theorem o98_23 : x_okL x_xm xm_98 23 b98_23 := x_okc (snd_callv (M' := xm_91) rfl ko_8 rfl rfl rfl rfl wd_945 wd_942 wd_944 wd_62 wd_27 (by decide +kernel) (Nat.le_of_ble_eq_true rfl) (Nat.le_of_ble_eq_true rfl) (by decide +kernel)) (x_okc (snd_if_eq (off := 5) (by decide) (by decide +kernel)) (x_okc (snd_iconst (n := 0) (by decide) (by decide +kernel)) (x_okc (snd_iret rfl (by decide +kernel)) x_okn)))
theorem o98_31 : x_okL x_xm xm_98 31 b98_31 := x_okc (snd_iconst (n := 0) (by decide) (by decide +kernel)) (x_okc (snd_istore (by decide +kernel)) (x_okc (snd_iconst (n := 4) (by decide) (by decide +kernel)) (x_okc (snd_iload_n (k := 1) rfl (by decide +kernel)) (x_okc (snd_imul (by decide +kernel)) (x_okc (snd_istore (by decide +kernel)) (x_okc (snd_to) x_okn))))))
theorem o98_39 : x_okL x_xm xm_98 39 b98_39 := x_okc (snd_iload (by decide +kernel)) (x_okc (snd_iconst (n := 4) (by decide) (by decide +kernel)) (x_okc (snd_iload_n (k := 1) rfl (by decide +kernel)) (x_okc (snd_imul (by decide +kernel)) (x_okc (snd_iconst (n := 4) (by decide) (by decide +kernel)) (x_okc (snd_iadd (by decide +kernel)) (x_okc (snd_icmp_ge (off := 59) (by decide) (by decide +kernel)) (x_okc (snd_iconst (n := 0) (by decide) (by decide +kernel)) (x_okc (snd_istore (by decide +kernel)) (x_okc (snd_to) x_okn)))))))))
theorem o98_52 : x_okL x_xm xm_98 52 b98_52 := x_okc (snd_iload (by decide +kernel)) (x_okc (snd_aload_n (k := 0) rfl (by decide +kernel)) (x_okc (snd_gfr ko_8 (by decide) rfl (by decide) wd_789 (by decide +kernel)) (x_okc (snd_iload (by decide +kernel)) (x_okc (snd_ald ka_26 rfl rfl (by decide) (by decide +kernel)) (x_okc (snd_icmp_ge (off := 38) (by decide) (by decide +kernel)) (x_okc (snd_iload (by decide +kernel)) (x_okc (snd_if_ne (off := 20) (by decide) (by decide +kernel)) (x_okc (snd_aload_n (k := 0) rfl (by decide +kernel)) (x_okc (snd_gfr ko_8 (by decide) rfl (by decide) wd_790 (by decide +kernel)) (x_okc (snd_bipush (n := 6) (by decide) (by decide +kernel)) (x_okc (snd_iload (by decide +kernel)) (x_okc (snd_imul (by decide +kernel)) (x_okc (snd_iload (by decide +kernel)) (x_okc (snd_iadd (by decide +kernel)) (x_okc (snd_ald ka_27 rfl rfl (by decide) (by decide +kernel)) (x_okc (snd_iload_n (k := 3) rfl (by decide +kernel)) (x_okc (snd_icmp_ne (off := 7) (by decide) (by decide +kernel)) (x_okc (snd_to) x_okn))))))))))))))))))
theorem o98_86 : x_okL x_xm xm_98 86 b98_86 := x_okc (snd_iconst (n := 1) (by decide) (by decide +kernel)) (x_okc (snd_goto (off := 4) (by decide) (by decide +kernel)) x_okn)
theorem o98_90 : x_okL x_xm xm_98 90 b98_90 := x_okc (snd_iconst (n := 0) (by decide) (by decide +kernel)) (x_okc (snd_to) x_okn)
theorem o98_91 : x_okL x_xm xm_98 91 b98_91 := x_okc (snd_istore (by decide +kernel)) (x_okc (snd_iinc (n := 1) (by decide) (by decide +kernel)) (x_okc (snd_goto (off := -44) (by decide) (by decide +kernel)) x_okn))
theorem o98_99 : x_okL x_xm xm_98 99 b98_99 := x_okc (snd_iinc (n := 1) (by decide) (by decide +kernel)) (x_okc (snd_goto (off := -63) (by decide) (by decide +kernel)) x_okn)
theorem o98_105 : x_okL x_xm xm_98 105 b98_105 := x_okc (snd_iconst (n := 4) (by decide) (by decide +kernel)) (x_okc (snd_iload_n (k := 1) rfl (by decide +kernel)) (x_okc (snd_imul (by decide +kernel)) (x_okc (snd_iload_n (k := 2) rfl (by decide +kernel)) (x_okc (snd_iadd (by decide +kernel)) (x_okc (snd_istore (by decide +kernel)) (x_okc (snd_aload_n (k := 0) rfl (by decide +kernel)) (x_okc (snd_iload (by decide +kernel)) (x_okc (snd_if_ne (off := 15) (by decide) (by decide +kernel)) (x_okc (snd_aload_n (k := 0) rfl (by decide +kernel)) (x_okc (snd_gfr ko_8 (by decide) rfl (by decide) wd_789 (by decide +kernel)) (x_okc (snd_iload (by decide +kernel)) (x_okc (snd_ald ka_26 rfl rfl (by decide) (by decide +kernel)) (x_okc (snd_bipush (n := 6) (by decide) (by decide +kernel)) (x_okc (snd_icmp_ne (off := 7) (by decide) (by decide +kernel)) (x_okc (snd_to) x_okn)))))))))))))))
theorem o98_130 : x_okL x_xm xm_98 130 b98_130 := x_okc (snd_iconst (n := 2) (by decide) (by decide +kernel)) (x_okc (snd_goto (off := 4) (by decide) (by decide +kernel)) x_okn)
theorem o98_134 : x_okL x_xm xm_98 134 b98_134 := x_okc (snd_iconst (n := 0) (by decide) (by decide +kernel)) (x_okc (snd_to) x_okn)
theorem o98_135 : x_okL x_xm xm_98 135 b98_135 := x_okc (snd_callv (M' := xm_91) rfl ko_8 rfl rfl rfl rfl wd_945 wd_942 wd_944 wd_62 wd_27 (by decide +kernel) (Nat.le_of_ble_eq_true rfl) (Nat.le_of_ble_eq_true rfl) (by decide +kernel)) (x_okc (snd_if_eq (off := 5) (by decide) (by decide +kernel)) (x_okc (snd_iconst (n := 0) (by decide) (by decide +kernel)) (x_okc (snd_iret rfl (by decide +kernel)) x_okn)))
theorem o98_143 : x_okL x_xm xm_98 143 b98_143 := x_okc (snd_aload_n (k := 0) rfl (by decide +kernel)) (x_okc (snd_gfr ko_8 (by decide) rfl (by decide) wd_790 (by decide +kernel)) (x_okc (snd_bipush (n := 6) (by decide) (by decide +kernel)) (x_okc (snd_iload (by decide +kernel)) (x_okc (snd_imul (by decide +kernel)) (x_okc (snd_aload_n (k := 0) rfl (by decide +kernel)) (x_okc (snd_gfr ko_8 (by decide) rfl (by decide) wd_789 (by decide +kernel)) (x_okc (snd_iload (by decide +kernel)) (x_okc (snd_ald ka_26 rfl rfl (by decide) (by decide +kernel)) (x_okc (snd_iadd (by decide +kernel)) (x_okc (snd_iload_n (k := 3) rfl (by decide +kernel)) (x_okc (snd_ast ka_27 rfl rfl (by decide) (by decide +kernel)) (x_okc (snd_aload_n (k := 0) rfl (by decide +kernel)) (x_okc (snd_gfr ko_8 (by decide) rfl (by decide) wd_789 (by decide +kernel)) (x_okc (snd_iload (by decide +kernel)) (x_okc (snd_dup2 (by decide +kernel)) (x_okc (snd_ald ka_26 rfl rfl (by decide) (by decide +kernel)) (x_okc (snd_iconst (n := 1) (by decide) (by decide +kernel)) (x_okc (snd_iadd (by decide +kernel)) (x_okc (snd_ast ka_26 rfl rfl (by decide) (by decide +kernel)) (x_okc (snd_aload_n (k := 0) rfl (by decide +kernel)) (x_okc (snd_gfr ko_8 (by decide) rfl (by decide) wd_789 (by decide +kernel)) (x_okc (snd_iload (by decide +kernel)) (x_okc (snd_ald ka_26 rfl rfl (by decide) (by decide +kernel)) (x_okc (snd_iret rfl (by decide +kernel)) x_okn))))))))))))))))))))))))
theorem o98 : ∀ q ∈ t98, x_okL x_xm xm_98 q.1 q.2 := List.forall_mem_cons.mpr ⟨o98_0, List.forall_mem_cons.mpr ⟨o98_22, List.forall_mem_cons.mpr ⟨o98_23, List.forall_mem_cons.mpr ⟨o98_31, List.forall_mem_cons.mpr ⟨o98_39, List.forall_mem_cons.mpr ⟨o98_52, List.forall_mem_cons.mpr ⟨o98_86, List.forall_mem_cons.mpr ⟨o98_90, List.forall_mem_cons.mpr ⟨o98_91, List.forall_mem_cons.mpr ⟨o98_99, List.forall_mem_cons.mpr ⟨o98_105, List.forall_mem_cons.mpr ⟨o98_130, List.forall_mem_cons.mpr ⟨o98_134, List.forall_mem_cons.mpr ⟨o98_135, List.forall_mem_cons.mpr ⟨o98_143, fun _ h => absurd h List.not_mem_nil⟩⟩⟩⟩⟩⟩⟩⟩⟩⟩⟩⟩⟩⟩⟩
theorem p98 : x_okM xm_98 := ⟨by decide, rfl, fun h => by cases h⟩
theorem o99_0 : x_okL x_xm xm_99 0 b99_0 := x_okc (snd_iload_n (k := 1) rfl (by decide +kernel)) (x_okc (snd_sipush (n := 5000) (by decide) (by decide +kernel)) (x_okc (snd_icmp_lt (off := 15) (by decide) (by decide +kernel)) (x_okc (snd_aload_n (k := 0) rfl (by decide +kernel)) (x_okc (snd_gfr ko_8 (by decide) rfl (by decide) wd_805 (by decide +kernel)) (x_okc (snd_iload_n (k := 1) rfl (by decide +kernel)) (x_okc (snd_sipush (n := 5000) (by decide) (by decide +kernel)) (x_okc (snd_isub (by decide +kernel)) (x_okc (snd_iload_n (k := 2) rfl (by decide +kernel)) (x_okc (snd_ast ka_41 rfl rfl (by decide) (by decide +kernel)) (x_okc (snd_ret rfl (by decide +kernel)) x_okn))))))))))
theorem o99_19 : x_okL x_xm xm_99 19 b99_19 := x_okc (snd_iload_n (k := 1) rfl (by decide +kernel)) (x_okc (snd_sipush (n := 1000) (by decide) (by decide +kernel)) (x_okc (snd_idiv (by decide +kernel)) (x_okc (snd_istore_n (k := 3) rfl (by decide +kernel)) (x_okc (snd_iload_n (k := 1) rfl (by decide +kernel)) (x_okc (snd_sipush (n := 1000) (by decide) (by decide +kernel)) (x_okc (snd_irem (by decide +kernel)) (x_okc (snd_istore (by decide +kernel)) (x_okc (snd_iload (by decide +kernel)) (x_okc (snd_bipush (n := 30) (by decide) (by decide +kernel)) (x_okc (snd_icmp_lt (off := 21) (by decide) (by decide +kernel)) (x_okc (snd_aload_n (k := 0) rfl (by decide +kernel)) (x_okc (snd_gfr ko_8 (by decide) rfl (by decide) wd_801 (by decide +kernel)) (x_okc (snd_iconst (n := 3) (by decide) (by decide +kernel)) (x_okc (snd_iload_n (k := 3) rfl (by decide +kernel)) (x_okc (snd_imul (by decide +kernel)) (x_okc (snd_iload (by decide +kernel)) (x_okc (snd_iadd (by decide +kernel)) (x_okc (snd_bipush (n := 30) (by decide) (by decide +kernel)) (x_okc (snd_isub (by decide +kernel)) (x_okc (snd_iload_n (k := 2) rfl (by decide +kernel)) (x_okc (snd_ast ka_38 rfl rfl (by decide) (by decide +kernel)) (x_okc (snd_goto (off := 41) (by decide) (by decide +kernel)) x_okn))))))))))))))))))))))
theorem o99_57 : x_okL x_xm xm_99 57 b99_57 := x_okc (snd_iload (by decide +kernel)) (x_okc (snd_bipush (n := 20) (by decide) (by decide +kernel)) (x_okc (snd_icmp_lt (off := 21) (by decide) (by decide +kernel)) (x_okc (snd_aload_n (k := 0) rfl (by decide +kernel)) (x_okc (snd_gfr ko_8 (by decide) rfl (by decide) wd_800 (by decide +kernel)) (x_okc (snd_iconst (n := 5) (by decide) (by decide +kernel)) (x_okc (snd_iload_n (k := 3) rfl (by decide +kernel)) (x_okc (snd_imul (by decide +kernel)) (x_okc (snd_iload (by decide +kernel)) (x_okc (snd_iadd (by decide +kernel)) (x_okc (snd_bipush (n := 20) (by decide) (by decide +kernel)) (x_okc (snd_isub (by decide +kernel)) (x_okc (snd_iload_n (k := 2) rfl (by decide +kernel)) (x_okc (snd_ast ka_37 rfl rfl (by decide) (by decide +kernel)) (x_okc (snd_goto (off := 16) (by decide) (by decide +kernel)) x_okn))))))))))))))
theorem o99_82 : x_okL x_xm xm_99 82 b99_82 := x_okc (snd_aload_n (k := 0) rfl (by decide +kernel)) (x_okc (snd_gfr ko_8 (by decide) rfl (by decide) wd_799 (by decide +kernel)) (x_okc (snd_bipush (n := 12) (by decide) (by decide +kernel)) (x_okc (snd_iload_n (k := 3) rfl (by decide +kernel)) (x_okc (snd_imul (by decide +kernel)) (x_okc (snd_iload (by decide +kernel)) (x_okc (snd_iadd (by decide +kernel)) (x_okc (snd_iload_n (k := 2) rfl (by decide +kernel)) (x_okc (snd_ast ka_36 rfl rfl (by decide) (by decide +kernel)) (x_okc (snd_to) x_okn)))))))))
theorem o99_95 : x_okL x_xm xm_99 95 b99_95 := x_okc (snd_ret rfl (by decide +kernel)) x_okn
theorem o99 : ∀ q ∈ t99, x_okL x_xm xm_99 q.1 q.2 := List.forall_mem_cons.mpr ⟨o99_0, List.forall_mem_cons.mpr ⟨o99_19, List.forall_mem_cons.mpr ⟨o99_57, List.forall_mem_cons.mpr ⟨o99_82, List.forall_mem_cons.mpr ⟨o99_95, fun _ h => absurd h List.not_mem_nil⟩⟩⟩⟩⟩
theorem p99 : x_okM xm_99 := ⟨by decide, rfl, fun h => by cases h⟩
theorem o100_0 : x_okL x_xm xm_100 0 b100_0 := x_okc (snd_aload_n (k := 0) rfl (by decide +kernel)) (x_okc (snd_gfr ko_8 (by decide) rfl (by decide) wd_828 (by decide +kernel)) (x_okc (snd_bipush (n := 16) (by decide) (by decide +kernel)) (x_okc (snd_iload_n (k := 1) rfl (by decide +kernel)) (x_okc (snd_imul (by decide +kernel)) (x_okc (snd_aload_n (k := 0) rfl (by decide +kernel)) (x_okc (snd_gfr ko_8 (by decide) rfl (by decide) wd_827 (by decide +kernel)) (x_okc (snd_iload_n (k := 1) rfl (by decide +kernel)) (x_okc (snd_ald ka_63 rfl rfl (by decide) (by decide +kernel)) (x_okc (snd_iadd (by decide +kernel)) (x_okc (snd_iload_n (k := 2) rfl (by decide +kernel)) (x_okc (snd_ast ka_64 rfl rfl (by decide) (by decide +kernel)) (x_okc (snd_aload_n (k := 0) rfl (by decide +kernel)) (x_okc (snd_gfr ko_8 (by decide) rfl (by decide) wd_827 (by decide +kernel)) (x_okc (snd_iload_n (k := 1) rfl (by decide +kernel)) (x_okc (snd_dup2 (by decide +kernel)) (x_okc (snd_ald ka_63 rfl rfl (by decide) (by decide +kernel)) (x_okc (snd_iconst (n := 1) (by decide) (by decide +kernel)) (x_okc (snd_iadd (by decide +kernel)) (x_okc (snd_ast ka_63 rfl rfl (by decide) (by decide +kernel)) (x_okc (snd_aload_n (k := 0) rfl (by decide +kernel)) (x_okc (snd_iload_n (k := 2) rfl (by decide +kernel)) (x_okc (snd_iload_n (k := 1) rfl (by decide +kernel)) (x_okc (snd_callv (M' := xm_99) rfl ko_8 rfl rfl rfl rfl wd_986 wd_983 wd_985 wd_62 wd_32 (by decide +kernel) (Nat.le_of_ble_eq_true rfl) (Nat.le_of_ble_eq_true rfl) (by decide +kernel)) (x_okc (snd_ret rfl (by decide +kernel)) x_okn))))))))))))))))))))))))
theorem o100 : ∀ q ∈ t100, x_okL x_xm xm_100 q.1 q.2 := List.forall_mem_cons.mpr ⟨o100_0, fun _ h => absurd h List.not_mem_nil⟩
theorem p100 : x_okM xm_100 := ⟨by decide, rfl, fun h => by cases h⟩
theorem o101_0 : x_okL x_xm xm_101 0 b101_0 := x_okc (snd_aload_n (k := 0) rfl (by decide +kernel)) (x_okc (snd_iload_n (k := 2) rfl (by decide +kernel)) (x_okc (snd_iconst (n := -1) (by decide) (by decide +kernel)) (x_okc (snd_callv (M' := xm_99) rfl ko_8 rfl rfl rfl rfl wd_986 wd_983 wd_985 wd_62 wd_32 (by decide +kernel) (Nat.le_of_ble_eq_true rfl) (Nat.le_of_ble_eq_true rfl) (by decide +kernel)) (x_okc (snd_iconst (n := 0) (by decide) (by decide +kernel)) (x_okc (snd_istore_n (k := 3) rfl (by decide +kernel)) (x_okc (snd_iconst (n := 0) (by decide) (by decide +kernel)) (x_okc (snd_istore (by decide +kernel)) (x_okc (snd_to) x_okn))))))))
theorem o101_11 : x_okL x_xm xm_101 11 b101_11 := x_okc (snd_iload (by decide +kernel)) (x_okc (snd_aload_n (k := 0) rfl (by decide +kernel)) (x_okc (snd_gfr ko_8 (by decide) rfl (by decide) wd_827 (by decide +kernel)) (x_okc (snd_iload_n (k := 1) rfl (by decide +kernel)) (x_okc (snd_ald ka_63 rfl rfl (by decide) (by decide +kernel)) (x_okc (snd_icmp_ge (off := 51) (by decide) (by decide +kernel)) (x_okc (snd_aload_n (k := 0) rfl (by decide +kernel)) (x_okc (snd_gfr ko_8 (by decide) rfl (by decide) wd_828 (by decide +kernel)) (x_okc (snd_bipush (n := 16) (by decide) (by decide +kernel)) (x_okc (snd_iload_n (k := 1) rfl (by decide +kernel)) (x_okc (snd_imul (by decide +kernel)) (x_okc (snd_iload (by decide +kernel)) (x_okc (snd_iadd (by decide +kernel)) (x_okc (snd_ald ka_64 rfl rfl (by decide) (by decide +kernel)) (x_okc (snd_iload_n (k := 2) rfl (by decide +kernel)) (x_okc (snd_icmp_eq (off := 29) (by decide) (by decide +kernel)) (x_okc (snd_aload_n (k := 0) rfl (by decide +kernel)) (x_okc (snd_gfr ko_8 (by decide) rfl (by decide) wd_828 (by decide +kernel)) (x_okc (snd_bipush (n := 16) (by decide) (by decide +kernel)) (x_okc (snd_iload_n (k := 1) rfl (by decide +kernel)) (x_okc (snd_imul (by decide +kernel)) (x_okc (snd_iload_n (k := 3) rfl (by decide +kernel)) (x_okc (snd_iadd (by decide +kernel)) (x_okc (snd_aload_n (k := 0) rfl (by decide +kernel)) (x_okc (snd_gfr ko_8 (by decide) rfl (by decide) wd_828 (by decide +kernel)) (x_okc (snd_bipush (n := 16) (by decide) (by decide +kernel)) (x_okc (snd_iload_n (k := 1) rfl (by decide +kernel)) (x_okc (snd_imul (by decide +kernel)) (x_okc (snd_iload (by decide +kernel)) (x_okc (snd_iadd (by decide +kernel)) (x_okc (snd_ald ka_64 rfl rfl (by decide) (by decide +kernel)) (x_okc (snd_ast ka_64 rfl rfl (by decide) (by decide +kernel)) (x_okc (snd_iinc (n := 1) (by decide) (by decide +kernel)) (x_okc (snd_to) x_okn)))))))))))))))))))))))))))))))))
theorem o101_64 : x_okL x_xm xm_101 64 b101_64 := x_okc (snd_iinc (n := 1) (by decide) (by decide +kernel)) (x_okc (snd_goto (off := -56) (by decide) (by decide +kernel)) x_okn)
theorem o101_70 : x_okL x_xm xm_101 70 b101_70 := x_okc (snd_aload_n (k := 0) rfl (by decide +kernel)) (x_okc (snd_gfr ko_8 (by decide) rfl (by decide) wd_827 (by decide +kernel)) (x_okc (snd_iload_n (k := 1) rfl (by decide +kernel)) (x_okc (snd_iload_n (k := 3) rfl (by decide +kernel)) (x_okc (snd_ast ka_63 rfl rfl (by decide) (by decide +kernel)) (x_okc (snd_ret rfl (by decide +kernel)) x_okn)))))
theorem o101 : ∀ q ∈ t101, x_okL x_xm xm_101 q.1 q.2 := List.forall_mem_cons.mpr ⟨o101_0, List.forall_mem_cons.mpr ⟨o101_11, List.forall_mem_cons.mpr ⟨o101_64, List.forall_mem_cons.mpr ⟨o101_70, fun _ h => absurd h List.not_mem_nil⟩⟩⟩⟩
theorem p101 : x_okM xm_101 := ⟨by decide, rfl, fun h => by cases h⟩
theorem o102_0 : x_okL x_xm xm_102 0 b102_0 := x_okc (snd_iconst (n := 0) (by decide) (by decide +kernel)) (x_okc (snd_istore_n (k := 2) rfl (by decide +kernel)) (x_okc (snd_to) x_okn))
theorem o102_2 : x_okL x_xm xm_102 2 b102_2 := x_okc (snd_iload_n (k := 2) rfl (by decide +kernel)) (x_okc (snd_iconst (n := 3) (by decide) (by decide +kernel)) (x_okc (snd_icmp_ge (off := 80) (by decide) (by decide +kernel)) (x_okc (snd_iconst (n := 0) (by decide) (by decide +kernel)) (x_okc (snd_istore_n (k := 3) rfl (by decide +kernel)) (x_okc (snd_iconst (n := 0) (by decide) (by decide +kernel)) (x_okc (snd_istore (by decide +kernel)) (x_okc (snd_to) x_okn)))))))
theorem o102_12 : x_okL x_xm xm_102 12 b102_12 := x_okc (snd_iload (by decide +kernel)) (x_okc (snd_aload_n (k := 0) rfl (by decide +kernel)) (x_okc (snd_gfr ko_8 (by decide) rfl (by decide) wd_809 (by decide +kernel)) (x_okc (snd_iload_n (k := 2) rfl (by decide +kernel)) (x_okc (snd_ald ka_45 rfl rfl (by decide) (by decide +kernel)) (x_okc (snd_icmp_ge (off := 51) (by decide) (by decide +kernel)) (x_okc (snd_aload_n (k := 0) rfl (by decide +kernel)) (x_okc (snd_gfr ko_8 (by decide) rfl (by decide) wd_810 (by decide +kernel)) (x_okc (snd_bipush (n := 72) (by decide) (by decide +kernel)) (x_okc (snd_iload_n (k := 2) rfl (by decide +kernel)) (x_okc (snd_imul (by decide +kernel)) (x_okc (snd_iload (by decide +kernel)) (x_okc (snd_iadd (by decide +kernel)) (x_okc (snd_ald ka_46 rfl rfl (by decide) (by decide +kernel)) (x_okc (snd_iload_n (k := 1) rfl (by decide +kernel)) (x_okc (snd_icmp_eq (off := 29) (by decide) (by decide +kernel)) (x_okc (snd_aload_n (k := 0) rfl (by decide +kernel)) (x_okc (snd_gfr ko_8 (by decide) rfl (by decide) wd_810 (by decide +kernel)) (x_okc (snd_bipush (n := 72) (by decide) (by decide +kernel)) (x_okc (snd_iload_n (k := 2) rfl (by decide +kernel)) (x_okc (snd_imul (by decide +kernel)) (x_okc (snd_iload_n (k := 3) rfl (by decide +kernel)) (x_okc (snd_iadd (by decide +kernel)) (x_okc (snd_aload_n (k := 0) rfl (by decide +kernel)) (x_okc (snd_gfr ko_8 (by decide) rfl (by decide) wd_810 (by decide +kernel)) (x_okc (snd_bipush (n := 72) (by decide) (by decide +kernel)) (x_okc (snd_iload_n (k := 2) rfl (by decide +kernel)) (x_okc (snd_imul (by decide +kernel)) (x_okc (snd_iload (by decide +kernel)) (x_okc (snd_iadd (by decide +kernel)) (x_okc (snd_ald ka_46 rfl rfl (by decide) (by decide +kernel)) (x_okc (snd_ast ka_46 rfl rfl (by decide) (by decide +kernel)) (x_okc (snd_iinc (n := 1) (by decide) (by decide +kernel)) (x_okc (snd_to) x_okn)))))))))))))))))))))))))))))))))
theorem o102_65 : x_okL x_xm xm_102 65 b102_65 := x_okc (snd_iinc (n := 1) (by decide) (by decide +kernel)) (x_okc (snd_goto (off := -56) (by decide) (by decide +kernel)) x_okn)
theorem o102_71 : x_okL x_xm xm_102 71 b102_71 := x_okc (snd_aload_n (k := 0) rfl (by decide +kernel)) (x_okc (snd_gfr ko_8 (by decide) rfl (by decide) wd_809 (by decide +kernel)) (x_okc (snd_iload_n (k := 2) rfl (by decide +kernel)) (x_okc (snd_iload_n (k := 3) rfl (by decide +kernel)) (x_okc (snd_ast ka_45 rfl rfl (by decide) (by decide +kernel)) (x_okc (snd_iinc (n := 1) (by decide) (by decide +kernel)) (x_okc (snd_goto (off := -79) (by decide) (by decide +kernel)) x_okn))))))
theorem o102_84 : x_okL x_xm xm_102 84 b102_84 := x_okc (snd_ret rfl (by decide +kernel)) x_okn
theorem o102 : ∀ q ∈ t102, x_okL x_xm xm_102 q.1 q.2 := List.forall_mem_cons.mpr ⟨o102_0, List.forall_mem_cons.mpr ⟨o102_2, List.forall_mem_cons.mpr ⟨o102_12, List.forall_mem_cons.mpr ⟨o102_65, List.forall_mem_cons.mpr ⟨o102_71, List.forall_mem_cons.mpr ⟨o102_84, fun _ h => absurd h List.not_mem_nil⟩⟩⟩⟩⟩⟩
theorem p102 : x_okM xm_102 := ⟨by decide, rfl, fun h => by cases h⟩
theorem o103_0 : x_okL x_xm xm_103 0 b103_0 := x_okc (snd_aload_n (k := 0) rfl (by decide +kernel)) (x_okc (snd_gfr ko_8 (by decide) rfl (by decide) wd_811 (by decide +kernel)) (x_okc (snd_iload_n (k := 1) rfl (by decide +kernel)) (x_okc (snd_iconst (n := 2) (by decide) (by decide +kernel)) (x_okc (snd_ast ka_47 rfl rfl (by decide) (by decide +kernel)) (x_okc (snd_aload_n (k := 0) rfl (by decide +kernel)) (x_okc (snd_gfr ko_8 (by decide) rfl (by decide) wd_814 (by decide +kernel)) (x_okc (snd_iload_n (k := 1) rfl (by decide +kernel)) (x_okc (snd_iload_n (k := 2) rfl (by decide +kernel)) (x_okc (snd_ast ka_50 rfl rfl (by decide) (by decide +kernel)) (x_okc (snd_aload_n (k := 0) rfl (by decide +kernel)) (x_okc (snd_gfr ko_8 (by decide) rfl (by decide) wd_823 (by decide +kernel)) (x_okc (snd_iload_n (k := 1) rfl (by decide +kernel)) (x_okc (snd_aload_n (k := 0) rfl (by decide +kernel)) (x_okc (snd_gfi ko_8 (by decide) rfl wd_783 (by decide +kernel)) (x_okc (snd_ast ka_59 rfl rfl (by decide) (by decide +kernel)) (x_okc (snd_aload_n (k := 0) rfl (by decide +kernel)) (x_okc (snd_gfr ko_8 (by decide) rfl (by decide) wd_810 (by decide +kernel)) (x_okc (snd_bipush (n := 72) (by decide) (by decide +kernel)) (x_okc (snd_iload_n (k := 2) rfl (by decide +kernel)) (x_okc (snd_imul (by decide +kernel)) (x_okc (snd_aload_n (k := 0) rfl (by decide +kernel)) (x_okc (snd_gfr ko_8 (by decide) rfl (by decide) wd_809 (by decide +kernel)) (x_okc (snd_iload_n (k := 2) rfl (by decide +kernel)) (x_okc (snd_ald ka_45 rfl rfl (by decide) (by decide +kernel)) (x_okc (snd_iadd (by decide +kernel)) (x_okc (snd_iload_n (k := 1) rfl (by decide +kernel)) (x_okc (snd_ast ka_46 rfl rfl (by decide) (by decide +kernel)) (x_okc (snd_aload_n (k := 0) rfl (by decide +kernel)) (x_okc (snd_gfr ko_8 (by decide) rfl (by decide) wd_809 (by decide +kernel)) (x_okc (snd_iload_n (k := 2) rfl (by decide +kernel)) (x_okc (snd_dup2 (by decide +kernel)) (x_okc (snd_ald ka_45 rfl rfl (by decide) (by decide +kernel)) (x_okc (snd_iconst (n := 1) (by decide) (by decide +kernel)) (x_okc (snd_iadd (by decide +kernel)) (x_okc (snd_ast ka_45 rfl rfl (by decide) (by decide +kernel)) (x_okc (snd_ret rfl (by decide +kernel)) x_okn))))))))))))))))))))))))))))))))))))
theorem o103 : ∀ q ∈ t103, x_okL x_xm xm_103 q.1 q.2 := List.forall_mem_cons.mpr ⟨o103_0, fun _ h => absurd h List.not_mem_nil⟩
theorem p103 : x_okM xm_103 := ⟨by decide, rfl, fun h => by cases h⟩
theorem o104_0 : x_okL x_xm xm_104 0 b104_0 := x_okc (snd_aload_n (k := 0) rfl (by decide +kernel)) (x_okc (snd_gfr ko_8 (by decide) rfl (by decide) wd_827 (by decide +kernel)) (x_okc (snd_iload_n (k := 1) rfl (by decide +kernel)) (x_okc (snd_ald ka_63 rfl rfl (by decide) (by decide +kernel)) (x_okc (snd_if_le (off := 29) (by decide) (by decide +kernel)) (x_okc (snd_aload_n (k := 0) rfl (by decide +kernel)) (x_okc (snd_iload_n (k := 1) rfl (by decide +kernel)) (x_okc (snd_aload_n (k := 0) rfl (by decide +kernel)) (x_okc (snd_gfr ko_8 (by decide) rfl (by decide) wd_828 (by decide +kernel)) (x_okc (snd_bipush (n := 16) (by decide) (by decide +kernel)) (x_okc (snd_iload_n (k := 1) rfl (by decide +kernel)) (x_okc (snd_imul (by decide +kernel)) (x_okc (snd_aload_n (k := 0) rfl (by decide +kernel)) (x_okc (snd_gfr ko_8 (by decide) rfl (by decide) wd_827 (by decide +kernel)) (x_okc (snd_iload_n (k := 1) rfl (by decide +kernel)) (x_okc (snd_ald ka_63 rfl rfl (by decide) (by decide +kernel)) (x_okc (snd_iadd (by decide +kernel)) (x_okc (snd_iconst (n := 1) (by decide) (by decide +kernel)) (x_okc (snd_isub (by decide +kernel)) (x_okc (snd_ald ka_64 rfl rfl (by decide) (by decide +kernel)) (x_okc (snd_callv (M' := xm_101) rfl ko_8 rfl rfl rfl rfl wd_1002 wd_999 wd_1001 wd_62 wd_35 (by decide +kernel) (Nat.le_of_ble_eq_true rfl) (Nat.le_of_ble_eq_true rfl) (by decide +kernel)) (x_okc (snd_goto (off := -32) (by decide) (by decide +kernel)) x_okn)))))))))))))))))))))
theorem o104_35 : x_okL x_xm xm_104 35 b104_35 := x_okc (snd_aload_n (k := 0) rfl (by decide +kernel)) (x_okc (snd_iload_n (k := 1) rfl (by decide +kernel)) (x_okc (snd_callv (M' := xm_102) rfl ko_8 rfl rfl rfl rfl wd_1006 wd_1003 wd_1005 wd_62 wd_36 (by decide +kernel) (Nat.le_of_ble_eq_true rfl) (Nat.le_of_ble_eq_true rfl) (by decide +kernel)) (x_okc (snd_aload_n (k := 0) rfl (by decide +kernel)) (x_okc (snd_gfr ko_8 (by decide) rfl (by decide) wd_811 (by decide +kernel)) (x_okc (snd_iload_n (k := 1) rfl (by decide +kernel)) (x_okc (snd_iconst (n := 0) (by decide) (by decide +kernel)) (x_okc (snd_ast ka_47 rfl rfl (by decide) (by decide +kernel)) (x_okc (snd_aload_n (k := 0) rfl (by decide +kernel)) (x_okc (snd_gfr ko_8 (by decide) rfl (by decide) wd_821 (by decide +kernel)) (x_okc (snd_iload_n (k := 1) rfl (by decide +kernel)) (x_okc (snd_ald ka_57 rfl rfl (by decide) (by decide +kernel)) (x_okc (snd_if_lt (off := 15) (by decide) (by decide +kernel)) (x_okc (snd_aload_n (k := 0) rfl (by decide +kernel)) (x_okc (snd_gfr ko_8 (by decide) rfl (by decide) wd_791 (by decide +kernel)) (x_okc (snd_aload_n (k := 0) rfl (by decide +kernel)) (x_okc (snd_gfr ko_8 (by decide) rfl (by decide) wd_821 (by decide +kernel)) (x_okc (snd_iload_n (k := 1) rfl (by decide +kernel)) (x_okc (snd_ald ka_57 rfl rfl (by decide) (by decide +kernel)) (x_okc (snd_iconst (n := -1) (by decide) (by decide +kernel)) (x_okc (snd_ast ka_28 rfl rfl (by decide) (by decide +kernel)) (x_okc (snd_to) x_okn)))))))))))))))))))))
theorem o104_68 : x_okL x_xm xm_104 68 b104_68 := x_okc (snd_ret rfl (by decide +kernel)) x_okn
theorem o104 : ∀ q ∈ t104, x_okL x_xm xm_104 q.1 q.2 := List.forall_mem_cons.mpr ⟨o104_0, List.forall_mem_cons.mpr ⟨o104_35, List.forall_mem_cons.mpr ⟨o104_68, fun _ h => absurd h List.not_mem_nil⟩⟩⟩
theorem p104 : x_okM xm_104 := ⟨by decide, rfl, fun h => by cases h⟩
theorem o105_0 : x_okL x_xm xm_105 0 b105_0 := x_okc (snd_aload_n (k := 0) rfl (by decide +kernel)) (x_okc (snd_iload_n (k := 1) rfl (by decide +kernel)) (x_okc (snd_callv (M' := xm_104) rfl ko_8 rfl rfl rfl rfl wd_998 wd_995 wd_997 wd_62 wd_34 (by decide +kernel) (Nat.le_of_ble_eq_true rfl) (Nat.le_of_ble_eq_true rfl) (by decide +kernel)) (x_okc (snd_aload_n (k := 0) rfl (by decide +kernel)) (x_okc (snd_gfr ko_8 (by decide) rfl (by decide) wd_821 (by decide +kernel)) (x_okc (snd_iload_n (k := 1) rfl (by decide +kernel)) (x_okc (snd_iconst (n := -1) (by decide) (by decide +kernel)) (x_okc (snd_ast ka_57 rfl rfl (by decide) (by decide +kernel)) (x_okc (snd_aload_n (k := 0) rfl (by decide +kernel)) (x_okc (snd_gfr ko_8 (by decide) rfl (by decide) wd_786 (by decide +kernel)) (x_okc (snd_iload_n (k := 1) rfl (by decide +kernel)) (x_okc (snd_iload_n (k := 2) rfl (by decide +kernel)) (x_okc (snd_ast ka_23 rfl rfl (by decide) (by decide +kernel)) (x_okc (snd_ret rfl (by decide +kernel)) x_okn)))))))))))))
theorem o105 : ∀ q ∈ t105, x_okL x_xm xm_105 q.1 q.2 := List.forall_mem_cons.mpr ⟨o105_0, fun _ h => absurd h List.not_mem_nil⟩
theorem p105 : x_okM xm_105 := ⟨by decide, rfl, fun h => by cases h⟩
theorem o106_0 : x_okL x_xm xm_106 0 b106_0 := x_okc (snd_aload_n (k := 0) rfl (by decide +kernel)) (x_okc (snd_gfr ko_8 (by decide) rfl (by decide) wd_821 (by decide +kernel)) (x_okc (snd_iload_n (k := 1) rfl (by decide +kernel)) (x_okc (snd_ald ka_57 rfl rfl (by decide) (by decide +kernel)) (x_okc (snd_istore_n (k := 3) rfl (by decide +kernel)) (x_okc (snd_aload_n (k := 0) rfl (by decide +kernel)) (x_okc (snd_iload_n (k := 1) rfl (by decide +kernel)) (x_okc (snd_callv (M' := xm_104) rfl ko_8 rfl rfl rfl rfl wd_998 wd_995 wd_997 wd_62 wd_34 (by decide +kernel) (Nat.le_of_ble_eq_true rfl) (Nat.le_of_ble_eq_true rfl) (by decide +kernel)) (x_okc (snd_aload_n (k := 0) rfl (by decide +kernel)) (x_okc (snd_gfr ko_8 (by decide) rfl (by decide) wd_821 (by decide +kernel)) (x_okc (snd_iload_n (k := 1) rfl (by decide +kernel)) (x_okc (snd_iconst (n := -1) (by decide) (by decide +kernel)) (x_okc (snd_ast ka_57 rfl rfl (by decide) (by decide +kernel)) (x_okc (snd_aload_n (k := 0) rfl (by decide +kernel)) (x_okc (snd_gfr ko_8 (by decide) rfl (by decide) wd_785 (by decide +kernel)) (x_okc (snd_iload_n (k := 1) rfl (by decide +kernel)) (x_okc (snd_bald ka_22 rfl rfl (by decide) (by decide +kernel)) (x_okc (snd_if_eq (off := 10) (by decide) (by decide +kernel)) (x_okc (snd_aload_n (k := 0) rfl (by decide +kernel)) (x_okc (snd_gfr ko_8 (by decide) rfl (by decide) wd_786 (by decide +kernel)) (x_okc (snd_iload_n (k := 1) rfl (by decide +kernel)) (x_okc (snd_iload_n (k := 2) rfl (by decide +kernel)) (x_okc (snd_ast ka_23 rfl rfl (by decide) (by decide +kernel)) (x_okc (snd_to) x_okn)))))))))))))))))))))))
theorem o106_35 : x_okL x_xm xm_106 35 b106_35 := x_okc (snd_iload_n (k := 3) rfl (by decide +kernel)) (x_okc (snd_if_lt (off := 19) (by decide) (by decide +kernel)) (x_okc (snd_aload_n (k := 0) rfl (by decide +kernel)) (x_okc (snd_gfr ko_8 (by decide) rfl (by decide) wd_785 (by decide +kernel)) (x_okc (snd_iload_n (k := 3) rfl (by decide +kernel)) (x_okc (snd_bald ka_22 rfl rfl (by decide) (by decide +kernel)) (x_okc (snd_if_eq (off := 10) (by decide) (by decide +kernel)) (x_okc (snd_aload_n (k := 0) rfl (by decide +kernel)) (x_okc (snd_gfr ko_8 (by decide) rfl (by decide) wd_786 (by decide +kernel)) (x_okc (snd_iload_n (k := 3) rfl (by decide +kernel)) (x_okc (snd_iconst (n := 3) (by decide) (by decide +kernel)) (x_okc (snd_ast ka_23 rfl rfl (by decide) (by decide +kernel)) (x_okc (snd_to) x_okn))))))))))))
theorem o106_55 : x_okL x_xm xm_106 55 b106_55 := x_okc (snd_ret rfl (by decide +kernel)) x_okn
theorem o106 : ∀ q ∈ t106, x_okL x_xm xm_106 q.1 q.2 := List.forall_mem_cons.mpr ⟨o106_0, List.forall_mem_cons.mpr ⟨o106_35, List.forall_mem_cons.mpr ⟨o106_55, fun _ h => absurd h List.not_mem_nil⟩⟩⟩
theorem p106 : x_okM xm_106 := ⟨by decide, rfl, fun h => by cases h⟩
theorem o107_0 : x_okL x_xm xm_107 0 b107_0 := x_okc (snd_iconst (n := -1) (by decide) (by decide +kernel)) (x_okc (snd_istore_n (k := 2) rfl (by decide +kernel)) (x_okc (snd_iconst (n := 2) (by decide) (by decide +kernel)) (x_okc (snd_istore_n (k := 3) rfl (by decide +kernel)) (x_okc (snd_to) x_okn))))
theorem o107_4 : x_okL x_xm xm_107 4 b107_4 := x_okc (snd_iload_n (k := 3) rfl (by decide +kernel)) (x_okc (snd_if_lt (off := 28) (by decide) (by decide +kernel)) (x_okc (snd_aload_n (k := 0) rfl (by decide +kernel)) (x_okc (snd_gfr ko_8 (by decide) rfl (by decide) wd_801 (by decide +kernel)) (x_okc (snd_iconst (n := 3) (by decide) (by decide +kernel)) (x_okc (snd_iload_n (k := 1) rfl (by decide +kernel)) (x_okc (snd_imul (by decide +kernel)) (x_okc (snd_iload_n (k := 3) rfl (by decide +kernel)) (x_okc (snd_iadd (by decide +kernel)) (x_okc (snd_ald ka_38 rfl rfl (by decide) (by decide +kernel)) (x_okc (snd_if_ge (off := 7) (by decide) (by decide +kernel)) (x_okc (snd_iload_n (k := 3) rfl (by decide +kernel)) (x_okc (snd_goto (off := 4) (by decide) (by decide +kernel)) x_okn))))))))))))
theorem o107_25 : x_okL x_xm xm_107 25 b107_25 := x_okc (snd_iload_n (k := 2) rfl (by decide +kernel)) (x_okc (snd_to) x_okn)
theorem o107_26 : x_okL x_xm xm_107 26 b107_26 := x_okc (snd_istore_n (k := 2) rfl (by decide +kernel)) (x_okc (snd_iinc (n := -1) (by decide) (by decide +kernel)) (x_okc (snd_goto (off := -26) (by decide) (by decide +kernel)) x_okn))
theorem o107_33 : x_okL x_xm xm_107 33 b107_33 := x_okc (snd_iload_n (k := 2) rfl (by decide +kernel)) (x_okc (snd_iret rfl (by decide +kernel)) x_okn)
theorem o107 : ∀ q ∈ t107, x_okL x_xm xm_107 q.1 q.2 := List.forall_mem_cons.mpr ⟨o107_0, List.forall_mem_cons.mpr ⟨o107_4, List.forall_mem_cons.mpr ⟨o107_25, List.forall_mem_cons.mpr ⟨o107_26, List.forall_mem_cons.mpr ⟨o107_33, fun _ h => absurd h List.not_mem_nil⟩⟩⟩⟩⟩
theorem p107 : x_okM xm_107 := ⟨by decide, rfl, fun h => by cases h⟩
theorem o108_0 : x_okL x_xm xm_108 0 b108_0 := x_okc (snd_iconst (n := 0) (by decide) (by decide +kernel)) (x_okc (snd_istore_n (k := 2) rfl (by decide +kernel)) (x_okc (snd_bipush (n := 24) (by decide) (by decide +kernel)) (x_okc (snd_iload_n (k := 1) rfl (by decide +kernel)) (x_okc (snd_imul (by decide +kernel)) (x_okc (snd_istore_n (k := 3) rfl (by decide +kernel)) (x_okc (snd_to) x_okn))))))
theorem o108_7 : x_okL x_xm xm_108 7 b108_7 := x_okc (snd_iload_n (k := 3) rfl (by decide +kernel)) (x_okc (snd_bipush (n := 24) (by decide) (by decide +kernel)) (x_okc (snd_iload_n (k := 1) rfl (by decide +kernel)) (x_okc (snd_imul (by decide +kernel)) (x_okc (snd_bipush (n := 24) (by decide) (by decide +kernel)) (x_okc (snd_iadd (by decide +kernel)) (x_okc (snd_icmp_ge (off := 28) (by decide) (by decide +kernel)) (x_okc (snd_iload_n (k := 2) rfl (by decide +kernel)) (x_okc (snd_if_ne (off := 12) (by decide) (by decide +kernel)) (x_okc (snd_aload_n (k := 0) rfl (by decide +kernel)) (x_okc (snd_gfr ko_8 (by decide) rfl (by decide) wd_787 (by decide +kernel)) (x_okc (snd_iload_n (k := 3) rfl (by decide +kernel)) (x_okc (snd_ald ka_24 rfl rfl (by decide) (by decide +kernel)) (x_okc (snd_if_lt (off := 7) (by decide) (by decide +kernel)) (x_okc (snd_to) x_okn))))))))))))))
theorem o108_31 : x_okL x_xm xm_108 31 b108_31 := x_okc (snd_iconst (n := 1) (by decide) (by decide +kernel)) (x_okc (snd_goto (off := 4) (by decide) (by decide +kernel)) x_okn)
theorem o108_35 : x_okL x_xm xm_108 35 b108_35 := x_okc (snd_iconst (n := 0) (by decide) (by decide +kernel)) (x_okc (snd_to) x_okn)
theorem o108_36 : x_okL x_xm xm_108 36 b108_36 := x_okc (snd_istore_n (k := 2) rfl (by decide +kernel)) (x_okc (snd_iinc (n := 1) (by decide) (by decide +kernel)) (x_okc (snd_goto (off := -33) (by decide) (by decide +kernel)) x_okn))
theorem o108_43 : x_okL x_xm xm_108 43 b108_43 := x_okc (snd_iload_n (k := 2) rfl (by decide +kernel)) (x_okc (snd_zret rfl (by decide +kernel)) x_okn)
theorem o108 : ∀ q ∈ t108, x_okL x_xm xm_108 q.1 q.2 := List.forall_mem_cons.mpr ⟨o108_0, List.forall_mem_cons.mpr ⟨o108_7, List.forall_mem_cons.mpr ⟨o108_31, List.forall_mem_cons.mpr ⟨o108_35, List.forall_mem_cons.mpr ⟨o108_36, List.forall_mem_cons.mpr ⟨o108_43, fun _ h => absurd h List.not_mem_nil⟩⟩⟩⟩⟩⟩
theorem p108 : x_okM xm_108 := ⟨by decide, rfl, fun h => by cases h⟩
theorem o109_0 : x_okL x_xm xm_109 0 b109_0 := x_okc (snd_iload_n (k := 1) rfl (by decide +kernel)) (x_okc (snd_bipush (n := 24) (by decide) (by decide +kernel)) (x_okc (snd_idiv (by decide +kernel)) (x_okc (snd_istore_n (k := 2) rfl (by decide +kernel)) (x_okc (snd_aload_n (k := 0) rfl (by decide +kernel)) (x_okc (snd_iload_n (k := 2) rfl (by decide +kernel)) (x_okc (snd_callv (M' := xm_107) rfl ko_8 rfl rfl rfl rfl wd_970 wd_967 wd_969 wd_62 wd_28 (by decide +kernel) (Nat.le_of_ble_eq_true rfl) (Nat.le_of_ble_eq_true rfl) (by decide +kernel)) (x_okc (snd_istore_n (k := 3) rfl (by decide +kernel)) (x_okc (snd_aload_n (k := 0) rfl (by decide +kernel)) (x_okc (snd_gfr ko_8 (by decide) rfl (by decide) wd_787 (by decide +kernel)) (x_okc (snd_iload_n (k := 1) rfl (by decide +kernel)) (x_okc (snd_iconst (n := -1) (by decide) (by decide +kernel)) (x_okc (snd_ast ka_24 rfl rfl (by decide) (by decide +kernel)) (x_okc (snd_aload_n (k := 0) rfl (by decide +kernel)) (x_okc (snd_gfr ko_8 (by decide) rfl (by decide) wd_811 (by decide +kernel)) (x_okc (snd_iload_n (k := 1) rfl (by decide +kernel)) (x_okc (snd_iconst (n := 1) (by decide) (by decide +kernel)) (x_okc (snd_ast ka_47 rfl rfl (by decide) (by decide +kernel)) (x_okc (snd_aload_n (k := 0) rfl (by decide +kernel)) (x_okc (snd_gfr ko_8 (by decide) rfl (by decide) wd_812 (by decide +kernel)) (x_okc (snd_iload_n (k := 1) rfl (by decide +kernel)) (x_okc (snd_iconst (n := 0) (by decide) (by decide +kernel)) (x_okc (snd_ast ka_48 rfl rfl (by decide) (by decide +kernel)) (x_okc (snd_aload_n (k := 0) rfl (by decide +kernel)) (x_okc (snd_gfr ko_8 (by decide) rfl (by decide) wd_820 (by decide +kernel)) (x_okc (snd_iload_n (k := 1) rfl (by decide +kernel)) (x_okc (snd_iconst (n := 0) (by decide) (by decide +kernel)) (x_okc (snd_ast ka_56 rfl rfl (by decide) (by decide +kernel)) (x_okc (snd_aload_n (k := 0) rfl (by decide +kernel)) (x_okc (snd_gfr ko_8 (by decide) rfl (by decide) wd_814 (by decide +kernel)) (x_okc (snd_iload_n (k := 1) rfl (by decide +kernel)) (x_okc (snd_iload_n (k := 2) rfl (by decide +kernel)) (x_okc (snd_ast ka_50 rfl rfl (by decide) (by decide +kernel)) (x_okc (snd_aload_n (k := 0) rfl (by decide +kernel)) (x_okc (snd_gfr ko_8 (by decide) rfl (by decide) wd_815 (by decide +kernel)) (x_okc (snd_iload_n (k := 1) rfl (by decide +kernel)) (x_okc (snd_iload_n (k := 3) rfl (by decide +kernel)) (x_okc (snd_ast ka_51 rfl rfl (by decide) (by decide +kernel)) (x_okc (snd_aload_n (k := 0) rfl (by decide +kernel)) (x_okc (snd_gfr ko_8 (by decide) rfl (by decide) wd_819 (by decide +kernel)) (x_okc (snd_iload_n (k := 1) rfl (by decide +kernel)) (x_okc (snd_iconst (n := 1) (by decide) (by decide +kernel)) (x_okc (snd_iload_n (k := 2) rfl (by decide +kernel)) (x_okc (snd_ishl (by decide +kernel)) (x_okc (snd_ast ka_55 rfl rfl (by decide) (by decide +kernel)) (x_okc (snd_aload_n (k := 0) rfl (by decide +kernel)) (x_okc (snd_gfr ko_8 (by decide) rfl (by decide) wd_821 (by decide +kernel)) (x_okc (snd_iload_n (k := 1) rfl (by decide +kernel)) (x_okc (snd_iconst (n := -1) (by decide) (by decide +kernel)) (x_okc (snd_ast ka_57 rfl rfl (by decide) (by decide +kernel)) (x_okc (snd_aload_n (k := 0) rfl (by decide +kernel)) (x_okc (snd_gfr ko_8 (by decide) rfl (by decide) wd_824 (by decide +kernel)) (x_okc (snd_iload_n (k := 1) rfl (by decide +kernel)) (x_okc (snd_iconst (n := 0) (by decide) (by decide +kernel)) (x_okc (snd_zst ka_60 rfl rfl (by decide) (by decide +kernel)) (x_okc (snd_aload_n (k := 0) rfl (by decide +kernel)) (x_okc (snd_gfr ko_8 (by decide) rfl (by decide) wd_827 (by decide +kernel)) (x_okc (snd_iload_n (k := 1) rfl (by decide +kernel)) (x_okc (snd_iconst (n := 0) (by decide) (by decide +kernel)) (x_okc (snd_ast ka_63 rfl rfl (by decide) (by decide +kernel)) (x_okc (snd_aload_n (k := 0) rfl (by decide +kernel)) (x_okc (snd_iload_n (k := 1) rfl (by decide +kernel)) (x_okc (snd_sipush (n := 1000) (by decide) (by decide +kernel)) (x_okc (snd_iload_n (k := 2) rfl (by decide +kernel)) (x_okc (snd_imul (by decide +kernel)) (x_okc (snd_bipush (n := 30) (by decide) (by decide +kernel)) (x_okc (snd_iadd (by decide +kernel)) (x_okc (snd_iload_n (k := 3) rfl (by decide +kernel)) (x_okc (snd_iadd (by decide +kernel)) (x_okc (snd_callv (M' := xm_100) rfl ko_8 rfl rfl rfl rfl wd_982 wd_979 wd_981 wd_62 wd_31 (by decide +kernel) (Nat.le_of_ble_eq_true rfl) (Nat.le_of_ble_eq_true rfl) (by decide +kernel)) (x_okc (snd_ret rfl (by decide +kernel)) x_okn))))))))))))))))))))))))))))))))))))))))))))))))))))))))))))))))))))))
theorem o109 : ∀ q ∈ t109, x_okL x_xm xm_109 q.1 q.2 := List.forall_mem_cons.mpr ⟨o109_0, fun _ h => absurd h List.not_mem_nil⟩
theorem p109 : x_okM xm_109 := ⟨by decide, rfl, fun h => by cases h⟩
theorem o110_0 : x_okL x_xm xm_110 0 b110_0 := x_okc (snd_aload_n (k := 0) rfl (by decide +kernel)) (x_okc (snd_iload_n (k := 1) rfl (by decide +kernel)) (x_okc (snd_iload_n (k := 2) rfl (by decide +kernel)) (x_okc (snd_calls (M' := xm_93) rfl rfl rfl rfl rfl wd_962 wd_960 wd_961 wd_62 (by decide +kernel) (Nat.le_of_ble_eq_true rfl) (Nat.le_of_ble_eq_true rfl) (by decide +kernel)) (x_okc (snd_if_ne (off := 7) (by decide) (by decide +kernel)) (x_okc (snd_iconst (n := 1) (by decide) (by decide +kernel)) (x_okc (snd_goto (off := 22) (by decide) (by decide +kernel)) x_okn))))))
theorem o110_13 : x_okL x_xm xm_110 13 b110_13 := x_okc (snd_aload_n (k := 0) rfl (by decide +kernel)) (x_okc (snd_gfr ko_8 (by decide) rfl (by decide) wd_785 (by decide +kernel)) (x_okc (snd_bipush (n := 24) (by decide) (by decide +kernel)) (x_okc (snd_iload_n (k := 1) rfl (by decide +kernel)) (x_okc (snd_imul (by decide +kernel)) (x_okc (snd_iload_n (k := 2) rfl (by decide +kernel)) (x_okc (snd_iadd (by decide +kernel)) (x_okc (snd_bald ka_22 rfl rfl (by decide) (by decide +kernel)) (x_okc (snd_if_eq (off := 7) (by decide) (by decide +kernel)) (x_okc (snd_iconst (n := 2) (by decide) (by decide +kernel)) (x_okc (snd_goto (off := 4) (by decide) (by decide +kernel)) x_okn))))))))))
theorem o110_31 : x_okL x_xm xm_110 31 b110_31 := x_okc (snd_iconst (n := 0) (by decide) (by decide +kernel)) (x_okc (snd_to) x_okn)
theorem o110_32 : x_okL x_xm xm_110 32 b110_32 := x_okc (snd_callv (M' := xm_91) rfl ko_8 rfl rfl rfl rfl wd_945 wd_942 wd_944 wd_62 wd_27 (by decide +kernel) (Nat.le_of_ble_eq_true rfl) (Nat.le_of_ble_eq_true rfl) (by decide +kernel)) (x_okc (snd_if_eq (off := 4) (by decide) (by decide +kernel)) (x_okc (snd_ret rfl (by decide +kernel)) x_okn))
theorem o110_39 : x_okL x_xm xm_110 39 b110_39 := x_okc (snd_bipush (n := 24) (by decide) (by decide +kernel)) (x_okc (snd_iload_n (k := 1) rfl (by decide +kernel)) (x_okc (snd_imul (by decide +kernel)) (x_okc (snd_iload_n (k := 2) rfl (by decide +kernel)) (x_okc (snd_iadd (by decide +kernel)) (x_okc (snd_istore_n (k := 3) rfl (by decide +kernel)) (x_okc (snd_aload_n (k := 0) rfl (by decide +kernel)) (x_okc (snd_gfr ko_8 (by decide) rfl (by decide) wd_785 (by decide +kernel)) (x_okc (snd_iload_n (k := 3) rfl (by decide +kernel)) (x_okc (snd_iconst (n := 1) (by decide) (by decide +kernel)) (x_okc (snd_zst ka_22 rfl rfl (by decide) (by decide +kernel)) (x_okc (snd_aload_n (k := 0) rfl (by decide +kernel)) (x_okc (snd_gfr ko_8 (by decide) rfl (by decide) wd_791 (by decide +kernel)) (x_okc (snd_iload_n (k := 3) rfl (by decide +kernel)) (x_okc (snd_ald ka_28 rfl rfl (by decide) (by decide +kernel)) (x_okc (snd_istore (by decide +kernel)) (x_okc (snd_iload (by decide +kernel)) (x_okc (snd_if_lt (off := 68) (by decide) (by decide +kernel)) (x_okc (snd_aload_n (k := 0) rfl (by decide +kernel)) (x_okc (snd_gfr ko_8 (by decide) rfl (by decide) wd_811 (by decide +kernel)) (x_okc (snd_iload (by decide +kernel)) (x_okc (snd_ald ka_47 rfl rfl (by decide) (by decide +kernel)) (x_okc (snd_iconst (n := 4) (by decide) (by decide +kernel)) (x_okc (snd_icmp_ne (off := 46) (by decide) (by decide +kernel)) (x_okc (snd_aload_n (k := 0) rfl (by decide +kernel)) (x_okc (snd_gfr ko_8 (by decide) rfl (by decide) wd_811 (by decide +kernel)) (x_okc (snd_iload (by decide +kernel)) (x_okc (snd_iconst (n := 5) (by decide) (by decide +kernel)) (x_okc (snd_ast ka_47 rfl rfl (by decide) (by decide +kernel)) (x_okc (snd_aload_n (k := 0) rfl (by decide +kernel)) (x_okc (snd_gfr ko_8 (by decide) rfl (by decide) wd_825 (by decide +kernel)) (x_okc (snd_iload (by decide +kernel)) (x_okc (snd_iconst (n := 0) (by decide) (by decide +kernel)) (x_okc (snd_ast ka_61 rfl rfl (by decide) (by decide +kernel)) (x_okc (snd_aload_n (k := 0) rfl (by decide +kernel)) (x_okc (snd_gfr ko_8 (by decide) rfl (by decide) wd_788 (by decide +kernel)) (x_okc (snd_iload (by decide +kernel)) (x_okc (snd_aload_n (k := 0) rfl (by decide +kernel)) (x_okc (snd_gfr ko_8 (by decide) rfl (by decide) wd_788 (by decide +kernel)) (x_okc (snd_iload (by decide +kernel)) (x_okc (snd_ald ka_25 rfl rfl (by decide) (by decide +kernel)) (x_okc (snd_aload_n (k := 0) rfl (by decide +kernel)) (x_okc (snd_gfr ko_8 (by decide) rfl (by decide) wd_794 (by decide +kernel)) (x_okc (snd_aload_n (k := 0) rfl (by decide +kernel)) (x_okc (snd_gfr ko_8 (by decide) rfl (by decide) wd_822 (by decide +kernel)) (x_okc (snd_iload (by decide +kernel)) (x_okc (snd_ald ka_58 rfl rfl (by decide) (by decide +kernel)) (x_okc (snd_ald ka_31 rfl rfl (by decide) (by decide +kernel)) (x_okc (snd_iadd (by decide +kernel)) (x_okc (snd_ast ka_25 rfl rfl (by decide) (by decide +kernel)) (x_okc (snd_to) x_okn))))))))))))))))))))))))))))))))))))))))))))))))))
theorem o110_120 : x_okL x_xm xm_110 120 b110_120 := x_okc (snd_aload_n (k := 0) rfl (by decide +kernel)) (x_okc (snd_gfr ko_8 (by decide) rfl (by decide) wd_826 (by decide +kernel)) (x_okc (snd_iload (by decide +kernel)) (x_okc (snd_iconst (n := 0) (by decide) (by decide +kernel)) (x_okc (snd_ast ka_62 rfl rfl (by decide) (by decide +kernel)) (x_okc (snd_goto (off := 56) (by decide) (by decide +kernel)) x_okn)))))
theorem o110_131 : x_okL x_xm xm_110 131 b110_131 := x_okc (snd_aload_n (k := 0) rfl (by decide +kernel)) (x_okc (snd_gfr ko_8 (by decide) rfl (by decide) wd_811 (by decide +kernel)) (x_okc (snd_iload_n (k := 3) rfl (by decide +kernel)) (x_okc (snd_ald ka_47 rfl rfl (by decide) (by decide +kernel)) (x_okc (snd_if_ne (off := 47) (by decide) (by decide +kernel)) (x_okc (snd_aload_n (k := 0) rfl (by decide +kernel)) (x_okc (snd_iload_n (k := 1) rfl (by decide +kernel)) (x_okc (snd_callv (M' := xm_107) rfl ko_8 rfl rfl rfl rfl wd_970 wd_967 wd_969 wd_62 wd_28 (by decide +kernel) (Nat.le_of_ble_eq_true rfl) (Nat.le_of_ble_eq_true rfl) (by decide +kernel)) (x_okc (snd_if_lt (off := 19) (by decide) (by decide +kernel)) (x_okc (snd_aload_n (k := 0) rfl (by decide +kernel)) (x_okc (snd_iload_n (k := 1) rfl (by decide +kernel)) (x_okc (snd_callv (M' := xm_108) rfl ko_8 rfl rfl rfl rfl wd_974 wd_971 wd_973 wd_62 wd_29 (by decide +kernel) (Nat.le_of_ble_eq_true rfl) (Nat.le_of_ble_eq_true rfl) (by decide +kernel)) (x_okc (snd_if_ne (off := 11) (by decide) (by decide +kernel)) (x_okc (snd_aload_n (k := 0) rfl (by decide +kernel)) (x_okc (snd_iload_n (k := 3) rfl (by decide +kernel)) (x_okc (snd_callv (M' := xm_109) rfl ko_8 rfl rfl rfl rfl wd_978 wd_975 wd_977 wd_62 wd_30 (by decide +kernel) (Nat.le_of_ble_eq_true rfl) (Nat.le_of_ble_eq_true rfl) (by decide +kernel)) (x_okc (snd_goto (off := 23) (by decide) (by decide +kernel)) x_okn))))))))))))))))
theorem o110_164 : x_okL x_xm xm_110 164 b110_164 := x_okc (snd_aload_n (k := 0) rfl (by decide +kernel)) (x_okc (snd_gfr ko_8 (by decide) rfl (by decide) wd_787 (by decide +kernel)) (x_okc (snd_iload_n (k := 3) rfl (by decide +kernel)) (x_okc (snd_aload_n (k := 0) rfl (by decide +kernel)) (x_okc (snd_gfi ko_8 (by decide) rfl wd_784 (by decide +kernel)) (x_okc (snd_ast ka_24 rfl rfl (by decide) (by decide +kernel)) (x_okc (snd_aload_n (k := 0) rfl (by decide +kernel)) (x_okc (snd_dup (by decide +kernel)) (x_okc (snd_gfi ko_8 (by decide) rfl wd_784 (by decide +kernel)) (x_okc (snd_iconst (n := 1) (by decide) (by decide +kernel)) (x_okc (snd_iadd (by decide +kernel)) (x_okc (snd_pfi ko_8 (by decide) rfl rfl wd_784 (Or.inl rfl) (by decide +kernel)) (x_okc (snd_to) x_okn))))))))))))
theorem o110_184 : x_okL x_xm xm_110 184 b110_184 := x_okc (snd_ret rfl (by decide +kernel)) x_okn
theorem o110 : ∀ q ∈ t110, x_okL x_xm xm_110 q.1 q.2 := List.forall_mem_cons.mpr ⟨o110_0, List.forall_mem_cons.mpr ⟨o110_13, List.forall_mem_cons.mpr ⟨o110_31, List.forall_mem_cons.mpr ⟨o110_32, List.forall_mem_cons.mpr ⟨o110_39, List.forall_mem_cons.mpr ⟨o110_120, List.forall_mem_cons.mpr ⟨o110_131, List.forall_mem_cons.mpr ⟨o110_164, List.forall_mem_cons.mpr ⟨o110_184, fun _ h => absurd h List.not_mem_nil⟩⟩⟩⟩⟩⟩⟩⟩⟩
theorem p110 : x_okM xm_110 := ⟨by decide, rfl, fun h => by cases h⟩
theorem o111_0 : x_okL x_xm xm_111 0 b111_0 := x_okc (snd_aload_n (k := 0) rfl (by decide +kernel)) (x_okc (snd_iload_n (k := 1) rfl (by decide +kernel)) (x_okc (snd_iload_n (k := 2) rfl (by decide +kernel)) (x_okc (snd_calls (M' := xm_93) rfl rfl rfl rfl rfl wd_962 wd_960 wd_961 wd_62 (by decide +kernel) (Nat.le_of_ble_eq_true rfl) (Nat.le_of_ble_eq_true rfl) (by decide +kernel)) (x_okc (snd_if_ne (off := 7) (by decide) (by decide +kernel)) (x_okc (snd_iconst (n := 1) (by decide) (by decide +kernel)) (x_okc (snd_goto (off := 22) (by decide) (by decide +kernel)) x_okn))))))
theorem o111_13 : x_okL x_xm xm_111 13 b111_13 := x_okc (snd_aload_n (k := 0) rfl (by decide +kernel)) (x_okc (snd_gfr ko_8 (by decide) rfl (by decide) wd_785 (by decide +kernel)) (x_okc (snd_bipush (n := 24) (by decide) (by decide +kernel)) (x_okc (snd_iload_n (k := 1) rfl (by decide +kernel)) (x_okc (snd_imul (by decide +kernel)) (x_okc (snd_iload_n (k := 2) rfl (by decide +kernel)) (x_okc (snd_iadd (by decide +kernel)) (x_okc (snd_bald ka_22 rfl rfl (by decide) (by decide +kernel)) (x_okc (snd_if_ne (off := 7) (by decide) (by decide +kernel)) (x_okc (snd_iconst (n := 2) (by decide) (by decide +kernel)) (x_okc (snd_goto (off := 4) (by decide) (by decide +kernel)) x_okn))))))))))
theorem o111_31 : x_okL x_xm xm_111 31 b111_31 := x_okc (snd_iconst (n := 0) (by decide) (by decide +kernel)) (x_okc (snd_to) x_okn)
theorem o111_32 : x_okL x_xm xm_111 32 b111_32 := x_okc (snd_callv (M' := xm_91) rfl ko_8 rfl rfl rfl rfl wd_945 wd_942 wd_944 wd_62 wd_27 (by decide +kernel) (Nat.le_of_ble_eq_true rfl) (Nat.le_of_ble_eq_true rfl) (by decide +kernel)) (x_okc (snd_if_eq (off := 4) (by decide) (by decide +kernel)) (x_okc (snd_ret rfl (by decide +kernel)) x_okn))
theorem o111_39 : x_okL x_xm xm_111 39 b111_39 := x_okc (snd_bipush (n := 24) (by decide) (by decide +kernel)) (x_okc (snd_iload_n (k := 1) rfl (by decide +kernel)) (x_okc (snd_imul (by decide +kernel)) (x_okc (snd_iload_n (k := 2) rfl (by decide +kernel)) (x_okc (snd_iadd (by decide +kernel)) (x_okc (snd_istore_n (k := 3) rfl (by decide +kernel)) (x_okc (snd_aload_n (k := 0) rfl (by decide +kernel)) (x_okc (snd_gfr ko_8 (by decide) rfl (by decide) wd_785 (by decide +kernel)) (x_okc (snd_iload_n (k := 3) rfl (by decide +kernel)) (x_okc (snd_iconst (n := 0) (by decide) (by decide +kernel)) (x_okc (snd_zst ka_22 rfl rfl (by decide) (by decide +kernel)) (x_okc (snd_aload_n (k := 0) rfl (by decide +kernel)) (x_okc (snd_gfr ko_8 (by decide) rfl (by decide) wd_786 (by decide +kernel)) (x_okc (snd_iload_n (k := 3) rfl (by decide +kernel)) (x_okc (snd_iconst (n := 0) (by decide) (by decide +kernel)) (x_okc (snd_ast ka_23 rfl rfl (by decide) (by decide +kernel)) (x_okc (snd_aload_n (k := 0) rfl (by decide +kernel)) (x_okc (snd_gfr ko_8 (by decide) rfl (by decide) wd_787 (by decide +kernel)) (x_okc (snd_iload_n (k := 3) rfl (by decide +kernel)) (x_okc (snd_iconst (n := -1) (by decide) (by decide +kernel)) (x_okc (snd_ast ka_24 rfl rfl (by decide) (by decide +kernel)) (x_okc (snd_aload_n (k := 0) rfl (by decide +kernel)) (x_okc (snd_gfr ko_8 (by decide) rfl (by decide) wd_811 (by decide +kernel)) (x_okc (snd_iload_n (k := 3) rfl (by decide +kernel)) (x_okc (snd_ald ka_47 rfl rfl (by decide) (by decide +kernel)) (x_okc (snd_if_eq (off := 31) (by decide) (by decide +kernel)) (x_okc (snd_aload_n (k := 0) rfl (by decide +kernel)) (x_okc (snd_gfr ko_8 (by decide) rfl (by decide) wd_811 (by decide +kernel)) (x_okc (snd_iload_n (k := 3) rfl (by decide +kernel)) (x_okc (snd_ald ka_47 rfl rfl (by decide) (by decide +kernel)) (x_okc (snd_iconst (n := 5) (by decide) (by decide +kernel)) (x_okc (snd_icmp_ne (off := 12) (by decide) (by decide +kernel)) (x_okc (snd_aload_n (k := 0) rfl (by decide +kernel)) (x_okc (snd_gfr ko_8 (by decide) rfl (by decide) wd_824 (by decide +kernel)) (x_okc (snd_iload_n (k := 3) rfl (by decide +kernel)) (x_okc (snd_bald ka_60 rfl rfl (by decide) (by decide +kernel)) (x_okc (snd_if_ne (off := 33) (by decide) (by decide +kernel)) (x_okc (snd_to) x_okn)))))))))))))))))))))))))))))))))))))
theorem o111_95 : x_okL x_xm xm_111 95 b111_95 := x_okc (snd_aload_n (k := 0) rfl (by decide +kernel)) (x_okc (snd_iload_n (k := 3) rfl (by decide +kernel)) (x_okc (snd_iconst (n := 3) (by decide) (by decide +kernel)) (x_okc (snd_callv (M' := xm_106) rfl ko_8 rfl rfl rfl rfl wd_994 wd_991 wd_993 wd_62 wd_33 (by decide +kernel) (Nat.le_of_ble_eq_true rfl) (Nat.le_of_ble_eq_true rfl) (by decide +kernel)) (x_okc (snd_goto (off := 24) (by decide) (by decide +kernel)) x_okn))))
theorem o111_104 : x_okL x_xm xm_111 104 b111_104 := x_okc (snd_aload_n (k := 0) rfl (by decide +kernel)) (x_okc (snd_gfr ko_8 (by decide) rfl (by decide) wd_791 (by decide +kernel)) (x_okc (snd_iload_n (k := 3) rfl (by decide +kernel)) (x_okc (snd_ald ka_28 rfl rfl (by decide) (by decide +kernel)) (x_okc (snd_if_lt (off := 15) (by decide) (by decide +kernel)) (x_okc (snd_aload_n (k := 0) rfl (by decide +kernel)) (x_okc (snd_gfr ko_8 (by decide) rfl (by decide) wd_826 (by decide +kernel)) (x_okc (snd_aload_n (k := 0) rfl (by decide +kernel)) (x_okc (snd_gfr ko_8 (by decide) rfl (by decide) wd_791 (by decide +kernel)) (x_okc (snd_iload_n (k := 3) rfl (by decide +kernel)) (x_okc (snd_ald ka_28 rfl rfl (by decide) (by decide +kernel)) (x_okc (snd_iconst (n := 0) (by decide) (by decide +kernel)) (x_okc (snd_ast ka_62 rfl rfl (by decide) (by decide +kernel)) (x_okc (snd_to) x_okn)))))))))))))
theorem o111_125 : x_okL x_xm xm_111 125 b111_125 := x_okc (snd_ret rfl (by decide +kernel)) x_okn
theorem o111 : ∀ q ∈ t111, x_okL x_xm xm_111 q.1 q.2 := List.forall_mem_cons.mpr ⟨o111_0, List.forall_mem_cons.mpr ⟨o111_13, List.forall_mem_cons.mpr ⟨o111_31, List.forall_mem_cons.mpr ⟨o111_32, List.forall_mem_cons.mpr ⟨o111_39, List.forall_mem_cons.mpr ⟨o111_95, List.forall_mem_cons.mpr ⟨o111_104, List.forall_mem_cons.mpr ⟨o111_125, fun _ h => absurd h List.not_mem_nil⟩⟩⟩⟩⟩⟩⟩⟩
theorem p111 : x_okM xm_111 := ⟨by decide, rfl, fun h => by cases h⟩
end
section
theorem o112_0 : x_okL x_xm xm_112 0 b112_0 := x_okc (snd_iload_n (k := 2) rfl (by decide +kernel)) (x_okc (snd_calls (M' := xm_95) rfl rfl rfl rfl rfl wd_955 wd_953 wd_954 wd_62 (by decide +kernel) (Nat.le_of_ble_eq_true rfl) (Nat.le_of_ble_eq_true rfl) (by decide +kernel)) (x_okc (snd_istore_n (k := 3) rfl (by decide +kernel)) (x_okc (snd_iload_n (k := 2) rfl (by decide +kernel)) (x_okc (snd_istore (by decide +kernel)) (x_okc (snd_aload_n (k := 0) rfl (by decide +kernel)) (x_okc (snd_gfr ko_8 (by decide) rfl (by decide) wd_812 (by decide +kernel)) (x_okc (snd_iload_n (k := 1) rfl (by decide +kernel)) (x_okc (snd_ald ka_48 rfl rfl (by decide) (by decide +kernel)) (x_okc (snd_iload_n (k := 3) rfl (by decide +kernel)) (x_okc (snd_icmp_lt (off := 7) (by decide) (by decide +kernel)) (x_okc (snd_iconst (n := 1) (by decide) (by decide +kernel)) (x_okc (snd_goto (off := 4) (by decide) (by decide +kernel)) x_okn))))))))))))
theorem o112_22 : x_okL x_xm xm_112 22 b112_22 := x_okc (snd_iconst (n := 0) (by decide) (by decide +kernel)) (x_okc (snd_to) x_okn)
theorem o112_23 : x_okL x_xm xm_112 23 b112_23 := x_okc (snd_istore (by decide +kernel)) (x_okc (snd_iload_n (k := 3) rfl (by decide +kernel)) (x_okc (snd_iconst (n := 1) (by decide) (by decide +kernel)) (x_okc (snd_isub (by decide +kernel)) (x_okc (snd_istore (by decide +kernel)) (x_okc (snd_to) x_okn)))))
theorem o112_30 : x_okL x_xm xm_112 30 b112_30 := x_okc (snd_iload (by decide +kernel)) (x_okc (snd_if_lt (off := 48) (by decide) (by decide +kernel)) (x_okc (snd_iload (by decide +kernel)) (x_okc (snd_if_eq (off := 27) (by decide) (by decide +kernel)) (x_okc (snd_aload_n (k := 0) rfl (by decide +kernel)) (x_okc (snd_gfr ko_8 (by decide) rfl (by decide) wd_813 (by decide +kernel)) (x_okc (snd_bipush (n := 8) (by decide) (by decide +kernel)) (x_okc (snd_iload_n (k := 1) rfl (by decide +kernel)) (x_okc (snd_imul (by decide +kernel)) (x_okc (snd_iload (by decide +kernel)) (x_okc (snd_iadd (by decide +kernel)) (x_okc (snd_ald ka_49 rfl rfl (by decide) (by decide +kernel)) (x_okc (snd_iload (by decide +kernel)) (x_okc (snd_bipush (n := 10) (by decide) (by decide +kernel)) (x_okc (snd_irem (by decide +kernel)) (x_okc (snd_icmp_ne (off := 7) (by decide) (by decide +kernel)) (x_okc (snd_iconst (n := 1) (by decide) (by decide +kernel)) (x_okc (snd_goto (off := 4) (by decide) (by decide +kernel)) x_okn)))))))))))))))))
theorem o112_64 : x_okL x_xm xm_112 64 b112_64 := x_okc (snd_iconst (n := 0) (by decide) (by decide +kernel)) (x_okc (snd_to) x_okn)
theorem o112_65 : x_okL x_xm xm_112 65 b112_65 := x_okc (snd_istore (by decide +kernel)) (x_okc (snd_iload (by decide +kernel)) (x_okc (snd_bipush (n := 10) (by decide) (by decide +kernel)) (x_okc (snd_idiv (by decide +kernel)) (x_okc (snd_istore (by decide +kernel)) (x_okc (snd_iinc (n := -1) (by decide) (by decide +kernel)) (x_okc (snd_goto (off := -47) (by decide) (by decide +kernel)) x_okn))))))
theorem o112_80 : x_okL x_xm xm_112 80 b112_80 := x_okc (snd_iload (by decide +kernel)) (x_okc (snd_zret rfl (by decide +kernel)) x_okn)
theorem o112 : ∀ q ∈ t112, x_okL x_xm xm_112 q.1 q.2 := List.forall_mem_cons.mpr ⟨o112_0, List.forall_mem_cons.mpr ⟨o112_22, List.forall_mem_cons.mpr ⟨o112_23, List.forall_mem_cons.mpr ⟨o112_30, List.forall_mem_cons.mpr ⟨o112_64, List.forall_mem_cons.mpr ⟨o112_65, List.forall_mem_cons.mpr ⟨o112_80, fun _ h => absurd h List.not_mem_nil⟩⟩⟩⟩⟩⟩⟩
theorem p112 : x_okM xm_112 := ⟨by decide, rfl, fun h => by cases h⟩
theorem o113_0 : x_okL x_xm xm_113 0 b113_0 := x_okc (snd_iload_n (k := 2) rfl (by decide +kernel)) (x_okc (snd_istore_n (k := 3) rfl (by decide +kernel)) (x_okc (snd_to) x_okn))
theorem o113_2 : x_okL x_xm xm_113 2 b113_2 := x_okc (snd_iload_n (k := 3) rfl (by decide +kernel)) (x_okc (snd_calls (M' := xm_95) rfl rfl rfl rfl rfl wd_955 wd_953 wd_954 wd_62 (by decide +kernel) (Nat.le_of_ble_eq_true rfl) (Nat.le_of_ble_eq_true rfl) (by decide +kernel)) (x_okc (snd_aload_n (k := 0) rfl (by decide +kernel)) (x_okc (snd_gfr ko_8 (by decide) rfl (by decide) wd_812 (by decide +kernel)) (x_okc (snd_iload_n (k := 1) rfl (by decide +kernel)) (x_okc (snd_ald ka_48 rfl rfl (by decide) (by decide +kernel)) (x_okc (snd_icmp_le (off := 11) (by decide) (by decide +kernel)) (x_okc (snd_iload_n (k := 3) rfl (by decide +kernel)) (x_okc (snd_bipush (n := 10) (by decide) (by decide +kernel)) (x_okc (snd_idiv (by decide +kernel)) (x_okc (snd_istore_n (k := 3) rfl (by decide +kernel)) (x_okc (snd_goto (off := -18) (by decide) (by decide +kernel)) x_okn)))))))))))
theorem o113_23 : x_okL x_xm xm_113 23 b113_23 := x_okc (snd_aload_n (k := 0) rfl (by decide +kernel)) (x_okc (snd_iload_n (k := 1) rfl (by decide +kernel)) (x_okc (snd_iload_n (k := 3) rfl (by decide +kernel)) (x_okc (snd_callv (M' := xm_112) rfl ko_8 rfl rfl rfl rfl wd_1018 wd_1015 wd_1017 wd_62 wd_38 (by decide +kernel) (Nat.le_of_ble_eq_true rfl) (Nat.le_of_ble_eq_true rfl) (by decide +kernel)) (x_okc (snd_zret rfl (by decide +kernel)) x_okn))))
theorem o113 : ∀ q ∈ t113, x_okL x_xm xm_113 q.1 q.2 := List.forall_mem_cons.mpr ⟨o113_0, List.forall_mem_cons.mpr ⟨o113_2, List.forall_mem_cons.mpr ⟨o113_23, fun _ h => absurd h List.not_mem_nil⟩⟩⟩
theorem p113 : x_okM xm_113 := ⟨by decide, rfl, fun h => by cases h⟩
theorem o114_0 : x_okL x_xm xm_114 0 b114_0 := x_okc (snd_iconst (n := -1) (by decide) (by decide +kernel)) (x_okc (snd_istore_n (k := 3) rfl (by decide +kernel)) (x_okc (snd_bipush (n := 12) (by decide) (by decide +kernel)) (x_okc (snd_iload_n (k := 2) rfl (by decide +kernel)) (x_okc (snd_imul (by decide +kernel)) (x_okc (snd_istore (by decide +kernel)) (x_okc (snd_to) x_okn))))))
theorem o114_8 : x_okL x_xm xm_114 8 b114_8 := x_okc (snd_iload (by decide +kernel)) (x_okc (snd_bipush (n := 12) (by decide) (by decide +kernel)) (x_okc (snd_iload_n (k := 2) rfl (by decide +kernel)) (x_okc (snd_imul (by decide +kernel)) (x_okc (snd_aload_n (k := 0) rfl (by decide +kernel)) (x_okc (snd_gfr ko_8 (by decide) rfl (by decide) wd_792 (by decide +kernel)) (x_okc (snd_iload_n (k := 2) rfl (by decide +kernel)) (x_okc (snd_ald ka_29 rfl rfl (by decide) (by decide +kernel)) (x_okc (snd_iadd (by decide +kernel)) (x_okc (snd_icmp_ge (off := 31) (by decide) (by decide +kernel)) (x_okc (snd_aload_n (k := 0) rfl (by decide +kernel)) (x_okc (snd_iload_n (k := 1) rfl (by decide +kernel)) (x_okc (snd_aload_n (k := 0) rfl (by decide +kernel)) (x_okc (snd_gfr ko_8 (by decide) rfl (by decide) wd_793 (by decide +kernel)) (x_okc (snd_iload (by decide +kernel)) (x_okc (snd_ald ka_30 rfl rfl (by decide) (by decide +kernel)) (x_okc (snd_callv (M' := xm_112) rfl ko_8 rfl rfl rfl rfl wd_1018 wd_1015 wd_1017 wd_62 wd_38 (by decide +kernel) (Nat.le_of_ble_eq_true rfl) (Nat.le_of_ble_eq_true rfl) (by decide +kernel)) (x_okc (snd_if_eq (off := 8) (by decide) (by decide +kernel)) (x_okc (snd_iload (by decide +kernel)) (x_okc (snd_goto (off := 4) (by decide) (by decide +kernel)) x_okn)))))))))))))))))))
theorem o114_44 : x_okL x_xm xm_114 44 b114_44 := x_okc (snd_iload_n (k := 3) rfl (by decide +kernel)) (x_okc (snd_to) x_okn)
theorem o114_45 : x_okL x_xm xm_114 45 b114_45 := x_okc (snd_istore_n (k := 3) rfl (by decide +kernel)) (x_okc (snd_iinc (n := 1) (by decide) (by decide +kernel)) (x_okc (snd_goto (off := -41) (by decide) (by decide +kernel)) x_okn))
theorem o114_52 : x_okL x_xm xm_114 52 b114_52 := x_okc (snd_iload_n (k := 3) rfl (by decide +kernel)) (x_okc (snd_iret rfl (by decide +kernel)) x_okn)
theorem o114 : ∀ q ∈ t114, x_okL x_xm xm_114 q.1 q.2 := List.forall_mem_cons.mpr ⟨o114_0, List.forall_mem_cons.mpr ⟨o114_8, List.forall_mem_cons.mpr ⟨o114_44, List.forall_mem_cons.mpr ⟨o114_45, List.forall_mem_cons.mpr ⟨o114_52, fun _ h => absurd h List.not_mem_nil⟩⟩⟩⟩⟩
theorem p114 : x_okM xm_114 := ⟨by decide, rfl, fun h => by cases h⟩
theorem o115_0 : x_okL x_xm xm_115 0 b115_0 := x_okc (snd_iload_n (k := 1) rfl (by decide +kernel)) (x_okc (snd_iload_n (k := 2) rfl (by decide +kernel)) (x_okc (snd_calls (M' := xm_93) rfl rfl rfl rfl rfl wd_962 wd_960 wd_961 wd_62 (by decide +kernel) (Nat.le_of_ble_eq_true rfl) (Nat.le_of_ble_eq_true rfl) (by decide +kernel)) (x_okc (snd_if_eq (off := 17) (by decide) (by decide +kernel)) (x_okc (snd_iload_n (k := 3) rfl (by decide +kernel)) (x_okc (snd_iconst (n := 0) (by decide) (by decide +kernel)) (x_okc (snd_bipush (n := 9) (by decide) (by decide +kernel)) (x_okc (snd_calls (M' := xm_92) rfl rfl rfl rfl rfl wd_941 wd_939 wd_940 wd_62 (by decide +kernel) (Nat.le_of_ble_eq_true rfl) (Nat.le_of_ble_eq_true rfl) (by decide +kernel)) (x_okc (snd_if_eq (off := 7) (by decide) (by decide +kernel)) (x_okc (snd_iconst (n := 1) (by decide) (by decide +kernel)) (x_okc (snd_goto (off := 4) (by decide) (by decide +kernel)) x_okn))))))))))
theorem o115_22 : x_okL x_xm xm_115 22 b115_22 := x_okc (snd_iconst (n := 0) (by decide) (by decide +kernel)) (x_okc (snd_to) x_okn)
theorem o115_23 : x_okL x_xm xm_115 23 b115_23 := x_okc (snd_istore (by decide +kernel)) (x_okc (snd_aload_n (k := 0) rfl (by decide +kernel)) (x_okc (snd_iload (by decide +kernel)) (x_okc (snd_if_ne (off := 7) (by decide) (by decide +kernel)) (x_okc (snd_iconst (n := 1) (by decide) (by decide +kernel)) (x_okc (snd_goto (off := 22) (by decide) (by decide +kernel)) x_okn)))))
theorem o115_35 : x_okL x_xm xm_115 35 b115_35 := x_okc (snd_aload_n (k := 0) rfl (by decide +kernel)) (x_okc (snd_gfr ko_8 (by decide) rfl (by decide) wd_785 (by decide +kernel)) (x_okc (snd_bipush (n := 24) (by decide) (by decide +kernel)) (x_okc (snd_iload_n (k := 1) rfl (by decide +kernel)) (x_okc (snd_imul (by decide +kernel)) (x_okc (snd_iload_n (k := 2) rfl (by decide +kernel)) (x_okc (snd_iadd (by decide +kernel)) (x_okc (snd_bald ka_22 rfl rfl (by decide) (by decide +kernel)) (x_okc (snd_if_ne (off := 7) (by decide) (by decide +kernel)) (x_okc (snd_iconst (n := 2) (by decide) (by decide +kernel)) (x_okc (snd_goto (off := 4) (by decide) (by decide +kernel)) x_okn))))))))))
theorem o115_53 : x_okL x_xm xm_115 53 b115_53 := x_okc (snd_iconst (n := 0) (by decide) (by decide +kernel)) (x_okc (snd_to) x_okn)
theorem o115_54 : x_okL x_xm xm_115 54 b115_54 := x_okc (snd_callv (M' := xm_91) rfl ko_8 rfl rfl rfl rfl wd_945 wd_942 wd_944 wd_62 wd_27 (by decide +kernel) (Nat.le_of_ble_eq_true rfl) (Nat.le_of_ble_eq_true rfl) (by decide +kernel)) (x_okc (snd_if_eq (off := 5) (by decide) (by decide +kernel)) (x_okc (snd_iconst (n := 0) (by decide) (by decide +kernel)) (x_okc (snd_zret rfl (by decide +kernel)) x_okn)))
theorem o115_62 : x_okL x_xm xm_115 62 b115_62 := x_okc (snd_bipush (n := 24) (by decide) (by decide +kernel)) (x_okc (snd_iload_n (k := 1) rfl (by decide +kernel)) (x_okc (snd_imul (by decide +kernel)) (x_okc (snd_iload_n (k := 2) rfl (by decide +kernel)) (x_okc (snd_iadd (by decide +kernel)) (x_okc (snd_istore (by decide +kernel)) (x_okc (snd_aload_n (k := 0) rfl (by decide +kernel)) (x_okc (snd_gfr ko_8 (by decide) rfl (by decide) wd_811 (by decide +kernel)) (x_okc (snd_iload (by decide +kernel)) (x_okc (snd_ald ka_47 rfl rfl (by decide) (by decide +kernel)) (x_okc (snd_iconst (n := 1) (by decide) (by decide +kernel)) (x_okc (snd_icmp_eq (off := 5) (by decide) (by decide +kernel)) (x_okc (snd_iconst (n := 0) (by decide) (by decide +kernel)) (x_okc (snd_zret rfl (by decide +kernel)) x_okn)))))))))))))
theorem o115_83 : x_okL x_xm xm_115 83 b115_83 := x_okc (snd_aload_n (k := 0) rfl (by decide +kernel)) (x_okc (snd_gfr ko_8 (by decide) rfl (by decide) wd_813 (by decide +kernel)) (x_okc (snd_bipush (n := 8) (by decide) (by decide +kernel)) (x_okc (snd_iload (by decide +kernel)) (x_okc (snd_imul (by decide +kernel)) (x_okc (snd_aload_n (k := 0) rfl (by decide +kernel)) (x_okc (snd_gfr ko_8 (by decide) rfl (by decide) wd_812 (by decide +kernel)) (x_okc (snd_iload (by decide +kernel)) (x_okc (snd_ald ka_48 rfl rfl (by decide) (by decide +kernel)) (x_okc (snd_iadd (by decide +kernel)) (x_okc (snd_iload_n (k := 3) rfl (by decide +kernel)) (x_okc (snd_ast ka_49 rfl rfl (by decide) (by decide +kernel)) (x_okc (snd_aload_n (k := 0) rfl (by decide +kernel)) (x_okc (snd_gfr ko_8 (by decide) rfl (by decide) wd_812 (by decide +kernel)) (x_okc (snd_iload (by decide +kernel)) (x_okc (snd_dup2 (by decide +kernel)) (x_okc (snd_ald ka_48 rfl rfl (by decide) (by decide +kernel)) (x_okc (snd_iconst (n := 1) (by decide) (by decide +kernel)) (x_okc (snd_iadd (by decide +kernel)) (x_okc (snd_ast ka_48 rfl rfl (by decide) (by decide +kernel)) (x_okc (snd_aload_n (k := 0) rfl (by decide +kernel)) (x_okc (snd_gfr ko_8 (by decide) rfl (by decide) wd_820 (by decide +kernel)) (x_okc (snd_iload (by decide +kernel)) (x_okc (snd_iconst (n := 0) (by decide) (by decide +kernel)) (x_okc (snd_ast ka_56 rfl rfl (by decide) (by decide +kernel)) (x_okc (snd_aload_n (k := 0) rfl (by decide +kernel)) (x_okc (snd_iload (by decide +kernel)) (x_okc (snd_iload_n (k := 1) rfl (by decide +kernel)) (x_okc (snd_callv (M' := xm_114) rfl ko_8 rfl rfl rfl rfl wd_1014 wd_1011 wd_1013 wd_62 wd_37 (by decide +kernel) (Nat.le_of_ble_eq_true rfl) (Nat.le_of_ble_eq_true rfl) (by decide +kernel)) (x_okc (snd_istore (by decide +kernel)) (x_okc (snd_iload (by decide +kernel)) (x_okc (snd_if_lt (off := 7) (by decide) (by decide +kernel)) (x_okc (snd_iconst (n := 1) (by decide) (by decide +kernel)) (x_okc (snd_goto (off := 4) (by decide) (by decide +kernel)) x_okn)))))))))))))))))))))))))))))))))
theorem o115_139 : x_okL x_xm xm_115 139 b115_139 := x_okc (snd_iconst (n := 0) (by decide) (by decide +kernel)) (x_okc (snd_to) x_okn)
theorem o115_140 : x_okL x_xm xm_115 140 b115_140 := x_okc (snd_istore (by decide +kernel)) (x_okc (snd_bipush (n := 12) (by decide) (by decide +kernel)) (x_okc (snd_iload_n (k := 1) rfl (by decide +kernel)) (x_okc (snd_imul (by decide +kernel)) (x_okc (snd_istore (by decide +kernel)) (x_okc (snd_to) x_okn)))))
theorem o115_148 : x_okL x_xm xm_115 148 b115_148 := x_okc (snd_iload (by decide +kernel)) (x_okc (snd_bipush (n := 12) (by decide) (by decide +kernel)) (x_okc (snd_iload_n (k := 1) rfl (by decide +kernel)) (x_okc (snd_imul (by decide +kernel)) (x_okc (snd_aload_n (k := 0) rfl (by decide +kernel)) (x_okc (snd_gfr ko_8 (by decide) rfl (by decide) wd_792 (by decide +kernel)) (x_okc (snd_iload_n (k := 1) rfl (by decide +kernel)) (x_okc (snd_ald ka_29 rfl rfl (by decide) (by decide +kernel)) (x_okc (snd_iadd (by decide +kernel)) (x_okc (snd_icmp_ge (off := 37) (by decide) (by decide +kernel)) (x_okc (snd_iload (by decide +kernel)) (x_okc (snd_if_ne (off := 19) (by decide) (by decide +kernel)) (x_okc (snd_aload_n (k := 0) rfl (by decide +kernel)) (x_okc (snd_iload (by decide +kernel)) (x_okc (snd_aload_n (k := 0) rfl (by decide +kernel)) (x_okc (snd_gfr ko_8 (by decide) rfl (by decide) wd_793 (by decide +kernel)) (x_okc (snd_iload (by decide +kernel)) (x_okc (snd_ald ka_30 rfl rfl (by decide) (by decide +kernel)) (x_okc (snd_callv (M' := xm_113) rfl ko_8 rfl rfl rfl rfl wd_1022 wd_1019 wd_1021 wd_62 wd_39 (by decide +kernel) (Nat.le_of_ble_eq_true rfl) (Nat.le_of_ble_eq_true rfl) (by decide +kernel)) (x_okc (snd_if_eq (off := 7) (by decide) (by decide +kernel)) (x_okc (snd_to) x_okn))))))))))))))))))))
theorem o115_185 : x_okL x_xm xm_115 185 b115_185 := x_okc (snd_iconst (n := 1) (by decide) (by decide +kernel)) (x_okc (snd_goto (off := 4) (by decide) (by decide +kernel)) x_okn)
theorem o115_189 : x_okL x_xm xm_115 189 b115_189 := x_okc (snd_iconst (n := 0) (by decide) (by decide +kernel)) (x_okc (snd_to) x_okn)
theorem o115_190 : x_okL x_xm xm_115 190 b115_190 := x_okc (snd_istore (by decide +kernel)) (x_okc (snd_iinc (n := 1) (by decide) (by decide +kernel)) (x_okc (snd_goto (off := -47) (by decide) (by decide +kernel)) x_okn))
theorem o115_198 : x_okL x_xm xm_115 198 b115_198 := x_okc (snd_iload (by decide +kernel)) (x_okc (snd_if_ne (off := 13) (by decide) (by decide +kernel)) (x_okc (snd_aload_n (k := 0) rfl (by decide +kernel)) (x_okc (snd_iload (by decide +kernel)) (x_okc (snd_iconst (n := 5) (by decide) (by decide +kernel)) (x_okc (snd_callv (M' := xm_105) rfl ko_8 rfl rfl rfl rfl wd_1026 wd_1023 wd_1025 wd_62 wd_40 (by decide +kernel) (Nat.le_of_ble_eq_true rfl) (Nat.le_of_ble_eq_true rfl) (by decide +kernel)) (x_okc (snd_goto (off := 46) (by decide) (by decide +kernel)) x_okn))))))
theorem o115_213 : x_okL x_xm xm_115 213 b115_213 := x_okc (snd_iload (by decide +kernel)) (x_okc (snd_if_lt (off := 41) (by decide) (by decide +kernel)) (x_okc (snd_aload_n (k := 0) rfl (by decide +kernel)) (x_okc (snd_gfr ko_8 (by decide) rfl (by decide) wd_812 (by decide +kernel)) (x_okc (snd_iload (by decide +kernel)) (x_okc (snd_ald ka_48 rfl rfl (by decide) (by decide +kernel)) (x_okc (snd_aload_n (k := 0) rfl (by decide +kernel)) (x_okc (snd_gfr ko_8 (by decide) rfl (by decide) wd_793 (by decide +kernel)) (x_okc (snd_iload (by decide +kernel)) (x_okc (snd_ald ka_30 rfl rfl (by decide) (by decide +kernel)) (x_okc (snd_calls (M' := xm_95) rfl rfl rfl rfl rfl wd_955 wd_953 wd_954 wd_62 (by decide +kernel) (Nat.le_of_ble_eq_true rfl) (Nat.le_of_ble_eq_true rfl) (by decide +kernel)) (x_okc (snd_iconst (n := 2) (by decide) (by decide +kernel)) (x_okc (snd_iadd (by decide +kernel)) (x_okc (snd_icmp_lt (off := 19) (by decide) (by decide +kernel)) (x_okc (snd_aload_n (k := 0) rfl (by decide +kernel)) (x_okc (snd_gfr ko_8 (by decide) rfl (by decide) wd_822 (by decide +kernel)) (x_okc (snd_iload (by decide +kernel)) (x_okc (snd_iload (by decide +kernel)) (x_okc (snd_ast ka_58 rfl rfl (by decide) (by decide +kernel)) (x_okc (snd_aload_n (k := 0) rfl (by decide +kernel)) (x_okc (snd_iload (by decide +kernel)) (x_okc (snd_iload_n (k := 1) rfl (by decide +kernel)) (x_okc (snd_callv (M' := xm_103) rfl ko_8 rfl rfl rfl rfl wd_1030 wd_1027 wd_1029 wd_62 wd_41 (by decide +kernel) (Nat.le_of_ble_eq_true rfl) (Nat.le_of_ble_eq_true rfl) (by decide +kernel)) (x_okc (snd_to) x_okn)))))))))))))))))))))))
theorem o115_256 : x_okL x_xm xm_115 256 b115_256 := x_okc (snd_iconst (n := 1) (by decide) (by decide +kernel)) (x_okc (snd_zret rfl (by decide +kernel)) x_okn)
theorem o115 : ∀ q ∈ t115, x_okL x_xm xm_115 q.1 q.2 := List.forall_mem_cons.mpr ⟨o115_0, List.forall_mem_cons.mpr ⟨o115_22, List.forall_mem_cons.mpr ⟨o115_23, List.forall_mem_cons.mpr ⟨o115_35, List.forall_mem_cons.mpr ⟨o115_53, List.forall_mem_cons.mpr ⟨o115_54, List.forall_mem_cons.mpr ⟨o115_62, List.forall_mem_cons.mpr ⟨o115_83, List.forall_mem_cons.mpr ⟨o115_139, List.forall_mem_cons.mpr ⟨o115_140, List.forall_mem_cons.mpr ⟨o115_148, List.forall_mem_cons.mpr ⟨o115_185, List.forall_mem_cons.mpr ⟨o115_189, List.forall_mem_cons.mpr ⟨o115_190, List.forall_mem_cons.mpr ⟨o115_198, List.forall_mem_cons.mpr ⟨o115_213, List.forall_mem_cons.mpr ⟨o115_256, fun _ h => absurd h List.not_mem_nil⟩⟩⟩⟩⟩⟩⟩⟩⟩⟩⟩⟩⟩⟩⟩⟩⟩
theorem p115 : x_okM xm_115 := ⟨by decide, rfl, fun h => by cases h⟩
theorem o116_0 : x_okL x_xm xm_116 0 b116_0 := x_okc (snd_aload_n (k := 0) rfl (by decide +kernel)) (x_okc (snd_gfr ko_8 (by decide) rfl (by decide) wd_785 (by decide +kernel)) (x_okc (snd_iload_n (k := 1) rfl (by decide +kernel)) (x_okc (snd_bald ka_22 rfl rfl (by decide) (by decide +kernel)) (x_okc (snd_if_ne (off := 25) (by decide) (by decide +kernel)) (x_okc (snd_aload_n (k := 0) rfl (by decide +kernel)) (x_okc (snd_gfr ko_8 (by decide) rfl (by decide) wd_791 (by decide +kernel)) (x_okc (snd_iload_n (k := 1) rfl (by decide +kernel)) (x_okc (snd_ald ka_28 rfl rfl (by decide) (by decide +kernel)) (x_okc (snd_if_ge (off := 16) (by decide) (by decide +kernel)) (x_okc (snd_aload_n (k := 0) rfl (by decide +kernel)) (x_okc (snd_gfr ko_8 (by decide) rfl (by decide) wd_811 (by decide +kernel)) (x_okc (snd_iload_n (k := 1) rfl (by decide +kernel)) (x_okc (snd_ald ka_47 rfl rfl (by decide) (by decide +kernel)) (x_okc (snd_if_ne (off := 7) (by decide) (by decide +kernel)) (x_okc (snd_iconst (n := 1) (by decide) (by decide +kernel)) (x_okc (snd_goto (off := 4) (by decide) (by decide +kernel)) x_okn))))))))))))))))
theorem o116_31 : x_okL x_xm xm_116 31 b116_31 := x_okc (snd_iconst (n := 0) (by decide) (by decide +kernel)) (x_okc (snd_to) x_okn)
theorem o116_32 : x_okL x_xm xm_116 32 b116_32 := x_okc (snd_zret rfl (by decide +kernel)) x_okn
theorem o116 : ∀ q ∈ t116, x_okL x_xm xm_116 q.1 q.2 := List.forall_mem_cons.mpr ⟨o116_0, List.forall_mem_cons.mpr ⟨o116_31, List.forall_mem_cons.mpr ⟨o116_32, fun _ h => absurd h List.not_mem_nil⟩⟩⟩
theorem p116 : x_okM xm_116 := ⟨by decide, rfl, fun h => by cases h⟩
theorem o117_0 : x_okL x_xm xm_117 0 b117_0 := x_okc (snd_iconst (n := 4) (by decide) (by decide +kernel)) (x_okc (snd_iload_n (k := 1) rfl (by decide +kernel)) (x_okc (snd_imul (by decide +kernel)) (x_okc (snd_istore_n (k := 3) rfl (by decide +kernel)) (x_okc (snd_to) x_okn))))
theorem o117_4 : x_okL x_xm xm_117 4 b117_4 := x_okc (snd_iload_n (k := 3) rfl (by decide +kernel)) (x_okc (snd_iconst (n := 4) (by decide) (by decide +kernel)) (x_okc (snd_iload_n (k := 1) rfl (by decide +kernel)) (x_okc (snd_imul (by decide +kernel)) (x_okc (snd_iconst (n := 4) (by decide) (by decide +kernel)) (x_okc (snd_iadd (by decide +kernel)) (x_okc (snd_icmp_ge (off := 88) (by decide) (by decide +kernel)) (x_okc (snd_aload_n (k := 0) rfl (by decide +kernel)) (x_okc (snd_gfr ko_8 (by decide) rfl (by decide) wd_789 (by decide +kernel)) (x_okc (snd_iload_n (k := 3) rfl (by decide +kernel)) (x_okc (snd_ald ka_26 rfl rfl (by decide) (by decide +kernel)) (x_okc (snd_if_le (off := 73) (by decide) (by decide +kernel)) (x_okc (snd_aload_n (k := 0) rfl (by decide +kernel)) (x_okc (snd_gfr ko_8 (by decide) rfl (by decide) wd_790 (by decide +kernel)) (x_okc (snd_bipush (n := 6) (by decide) (by decide +kernel)) (x_okc (snd_iload_n (k := 3) rfl (by decide +kernel)) (x_okc (snd_imul (by decide +kernel)) (x_okc (snd_ald ka_27 rfl rfl (by decide) (by decide +kernel)) (x_okc (snd_iload_n (k := 2) rfl (by decide +kernel)) (x_okc (snd_icmp_ne (off := 60) (by decide) (by decide +kernel)) (x_okc (snd_iconst (n := 0) (by decide) (by decide +kernel)) (x_okc (snd_istore (by decide +kernel)) (x_okc (snd_to) x_okn))))))))))))))))))))))
theorem o117_38 : x_okL x_xm xm_117 38 b117_38 := x_okc (snd_iload (by decide +kernel)) (x_okc (snd_aload_n (k := 0) rfl (by decide +kernel)) (x_okc (snd_gfr ko_8 (by decide) rfl (by decide) wd_789 (by decide +kernel)) (x_okc (snd_iload_n (k := 3) rfl (by decide +kernel)) (x_okc (snd_ald ka_26 rfl rfl (by decide) (by decide +kernel)) (x_okc (snd_icmp_ge (off := 46) (by decide) (by decide +kernel)) (x_okc (snd_aload_n (k := 0) rfl (by decide +kernel)) (x_okc (snd_bipush (n := 24) (by decide) (by decide +kernel)) (x_okc (snd_iload_n (k := 1) rfl (by decide +kernel)) (x_okc (snd_imul (by decide +kernel)) (x_okc (snd_aload_n (k := 0) rfl (by decide +kernel)) (x_okc (snd_gfr ko_8 (by decide) rfl (by decide) wd_790 (by decide +kernel)) (x_okc (snd_bipush (n := 6) (by decide) (by decide +kernel)) (x_okc (snd_iload_n (k := 3) rfl (by decide +kernel)) (x_okc (snd_imul (by decide +kernel)) (x_okc (snd_iload (by decide +kernel)) (x_okc (snd_iadd (by decide +kernel)) (x_okc (snd_ald ka_27 rfl rfl (by decide) (by decide +kernel)) (x_okc (snd_iadd (by decide +kernel)) (x_okc (snd_callv (M' := xm_116) rfl ko_8 rfl rfl rfl rfl wd_1054 wd_1051 wd_1053 wd_62 wd_46 (by decide +kernel) (Nat.le_of_ble_eq_true rfl) (Nat.le_of_ble_eq_true rfl) (by decide +kernel)) (x_okc (snd_if_eq (off := 16) (by decide) (by decide +kernel)) (x_okc (snd_aload_n (k := 0) rfl (by decide +kernel)) (x_okc (snd_gfr ko_8 (by decide) rfl (by decide) wd_790 (by decide +kernel)) (x_okc (snd_bipush (n := 6) (by decide) (by decide +kernel)) (x_okc (snd_iload_n (k := 3) rfl (by decide +kernel)) (x_okc (snd_imul (by decide +kernel)) (x_okc (snd_iload (by decide +kernel)) (x_okc (snd_iadd (by decide +kernel)) (x_okc (snd_ald ka_27 rfl rfl (by decide) (by decide +kernel)) (x_okc (snd_iret rfl (by decide +kernel)) x_okn)))))))))))))))))))))))))))))
theorem o117_86 : x_okL x_xm xm_117 86 b117_86 := x_okc (snd_iinc (n := 1) (by decide) (by decide +kernel)) (x_okc (snd_goto (off := -51) (by decide) (by decide +kernel)) x_okn)
theorem o117_92 : x_okL x_xm xm_117 92 b117_92 := x_okc (snd_iinc (n := 1) (by decide) (by decide +kernel)) (x_okc (snd_goto (off := -91) (by decide) (by decide +kernel)) x_okn)
theorem o117_98 : x_okL x_xm xm_117 98 b117_98 := x_okc (snd_iload_n (k := 2) rfl (by decide +kernel)) (x_okc (snd_iret rfl (by decide +kernel)) x_okn)
theorem o117 : ∀ q ∈ t117, x_okL x_xm xm_117 q.1 q.2 := List.forall_mem_cons.mpr ⟨o117_0, List.forall_mem_cons.mpr ⟨o117_4, List.forall_mem_cons.mpr ⟨o117_38, List.forall_mem_cons.mpr ⟨o117_86, List.forall_mem_cons.mpr ⟨o117_92, List.forall_mem_cons.mpr ⟨o117_98, fun _ h => absurd h List.not_mem_nil⟩⟩⟩⟩⟩⟩
theorem p117 : x_okM xm_117 := ⟨by decide, rfl, fun h => by cases h⟩
theorem o118_0 : x_okL x_xm xm_118 0 b118_0 := x_okc (snd_bipush (n := 12) (by decide) (by decide +kernel)) (x_okc (snd_iload_n (k := 0) rfl (by decide +kernel)) (x_okc (snd_imul (by decide +kernel)) (x_okc (snd_iconst (n := 4) (by decide) (by decide +kernel)) (x_okc (snd_iload_n (k := 1) rfl (by decide +kernel)) (x_okc (snd_imul (by decide +kernel)) (x_okc (snd_iadd (by decide +kernel)) (x_okc (snd_iload_n (k := 2) rfl (by decide +kernel)) (x_okc (snd_iadd (by decide +kernel)) (x_okc (snd_iret rfl (by decide +kernel)) x_okn)))))))))
theorem o118 : ∀ q ∈ t118, x_okL x_xm xm_118 q.1 q.2 := List.forall_mem_cons.mpr ⟨o118_0, fun _ h => absurd h List.not_mem_nil⟩
theorem p118 : x_okM xm_118 := ⟨by decide, rfl, fun h => by cases h⟩
theorem o119_0 : x_okL x_xm xm_119 0 b119_0 := x_okc (snd_iconst (n := 0) (by decide) (by decide +kernel)) (x_okc (snd_istore (by decide +kernel)) (x_okc (snd_to) x_okn))
theorem o119_3 : x_okL x_xm xm_119 3 b119_3 := x_okc (snd_iload (by decide +kernel)) (x_okc (snd_iconst (n := 4) (by decide) (by decide +kernel)) (x_okc (snd_icmp_ge (off := 152) (by decide) (by decide +kernel)) (x_okc (snd_aload_n (k := 0) rfl (by decide +kernel)) (x_okc (snd_gfr ko_8 (by decide) rfl (by decide) wd_807 (by decide +kernel)) (x_okc (snd_iload_n (k := 1) rfl (by decide +kernel)) (x_okc (snd_ald ka_43 rfl rfl (by decide) (by decide +kernel)) (x_okc (snd_iload (by decide +kernel)) (x_okc (snd_iadd (by decide +kernel)) (x_okc (snd_iconst (n := 4) (by decide) (by decide +kernel)) (x_okc (snd_irem (by decide +kernel)) (x_okc (snd_istore (by decide +kernel)) (x_okc (snd_iload_n (k := 2) rfl (by decide +kernel)) (x_okc (snd_if_ge (off := 7) (by decide) (by decide +kernel)) (x_okc (snd_iconst (n := -1) (by decide) (by decide +kernel)) (x_okc (snd_goto (off := 13) (by decide) (by decide +kernel)) x_okn)))))))))))))))
theorem o119_30 : x_okL x_xm xm_119 30 b119_30 := x_okc (snd_iload_n (k := 1) rfl (by decide +kernel)) (x_okc (snd_iload_n (k := 2) rfl (by decide +kernel)) (x_okc (snd_bipush (n := 8) (by decide) (by decide +kernel)) (x_okc (snd_idiv (by decide +kernel)) (x_okc (snd_iload (by decide +kernel)) (x_okc (snd_calls (M' := xm_118) rfl rfl rfl rfl rfl wd_1065 wd_1063 wd_1064 wd_62 (by decide +kernel) (Nat.le_of_ble_eq_true rfl) (Nat.le_of_ble_eq_true rfl) (by decide +kernel)) (x_okc (snd_to) x_okn))))))
theorem o119_40 : x_okL x_xm xm_119 40 b119_40 := x_okc (snd_istore (by decide +kernel)) (x_okc (snd_iload (by decide +kernel)) (x_okc (snd_if_lt (off := 16) (by decide) (by decide +kernel)) (x_okc (snd_aload_n (k := 0) rfl (by decide +kernel)) (x_okc (snd_gfr ko_8 (by decide) rfl (by decide) wd_799 (by decide +kernel)) (x_okc (snd_iload (by decide +kernel)) (x_okc (snd_ald ka_36 rfl rfl (by decide) (by decide +kernel)) (x_okc (snd_if_lt (off := 6) (by decide) (by decide +kernel)) (x_okc (snd_goto (off := 95) (by decide) (by decide +kernel)) x_okn))))))))
theorem o119_60 : x_okL x_xm xm_119 60 b119_60 := x_okc (snd_iload_n (k := 3) rfl (by decide +kernel)) (x_okc (snd_if_ge (off := 11) (by decide) (by decide +kernel)) (x_okc (snd_aload_n (k := 0) rfl (by decide +kernel)) (x_okc (snd_iload (by decide +kernel)) (x_okc (snd_pfi ko_8 (by decide) rfl rfl wd_829 (Or.inl rfl) (by decide +kernel)) (x_okc (snd_iconst (n := 1) (by decide) (by decide +kernel)) (x_okc (snd_zret rfl (by decide +kernel)) x_okn))))))
theorem o119_72 : x_okL x_xm xm_119 72 b119_72 := x_okc (snd_iconst (n := 0) (by decide) (by decide +kernel)) (x_okc (snd_istore (by decide +kernel)) (x_okc (snd_to) x_okn))
theorem o119_75 : x_okL x_xm xm_119 75 b119_75 := x_okc (snd_iload (by decide +kernel)) (x_okc (snd_iconst (n := 4) (by decide) (by decide +kernel)) (x_okc (snd_icmp_ge (off := 74) (by decide) (by decide +kernel)) (x_okc (snd_iload_n (k := 2) rfl (by decide +kernel)) (x_okc (snd_if_ge (off := 8) (by decide) (by decide +kernel)) (x_okc (snd_iload (by decide +kernel)) (x_okc (snd_goto (off := 14) (by decide) (by decide +kernel)) x_okn))))))
theorem o119_90 : x_okL x_xm xm_119 90 b119_90 := x_okc (snd_aload_n (k := 0) rfl (by decide +kernel)) (x_okc (snd_gfr ko_8 (by decide) rfl (by decide) wd_807 (by decide +kernel)) (x_okc (snd_iload_n (k := 1) rfl (by decide +kernel)) (x_okc (snd_ald ka_43 rfl rfl (by decide) (by decide +kernel)) (x_okc (snd_iload (by decide +kernel)) (x_okc (snd_iadd (by decide +kernel)) (x_okc (snd_iconst (n := 4) (by decide) (by decide +kernel)) (x_okc (snd_irem (by decide +kernel)) (x_okc (snd_to) x_okn))))))))
theorem o119_101 : x_okL x_xm xm_119 101 b119_101 := x_okc (snd_istore (by decide +kernel)) (x_okc (snd_iload_n (k := 1) rfl (by decide +kernel)) (x_okc (snd_iload_n (k := 3) rfl (by decide +kernel)) (x_okc (snd_bipush (n := 8) (by decide) (by decide +kernel)) (x_okc (snd_idiv (by decide +kernel)) (x_okc (snd_iload (by decide +kernel)) (x_okc (snd_calls (M' := xm_118) rfl rfl rfl rfl rfl wd_1065 wd_1063 wd_1064 wd_62 (by decide +kernel) (Nat.le_of_ble_eq_true rfl) (Nat.le_of_ble_eq_true rfl) (by decide +kernel)) (x_okc (snd_istore (by decide +kernel)) (x_okc (snd_aload_n (k := 0) rfl (by decide +kernel)) (x_okc (snd_gfr ko_8 (by decide) rfl (by decide) wd_799 (by decide +kernel)) (x_okc (snd_iload (by decide +kernel)) (x_okc (snd_ald ka_36 rfl rfl (by decide) (by decide +kernel)) (x_okc (snd_if_ge (off := 24) (by decide) (by decide +kernel)) (x_okc (snd_iload (by decide +kernel)) (x_okc (snd_iload (by decide +kernel)) (x_okc (snd_icmp_eq (off := 17) (by decide) (by decide +kernel)) (x_okc (snd_aload_n (k := 0) rfl (by decide +kernel)) (x_okc (snd_iload (by decide +kernel)) (x_okc (snd_pfi ko_8 (by decide) rfl rfl wd_829 (Or.inl rfl) (by decide +kernel)) (x_okc (snd_aload_n (k := 0) rfl (by decide +kernel)) (x_okc (snd_iload (by decide +kernel)) (x_okc (snd_pfi ko_8 (by decide) rfl rfl wd_830 (Or.inl rfl) (by decide +kernel)) (x_okc (snd_iconst (n := 1) (by decide) (by decide +kernel)) (x_okc (snd_zret rfl (by decide +kernel)) x_okn)))))))))))))))))))))))
theorem o119_146 : x_okL x_xm xm_119 146 b119_146 := x_okc (snd_iinc (n := 1) (by decide) (by decide +kernel)) (x_okc (snd_goto (off := -74) (by decide) (by decide +kernel)) x_okn)
theorem o119_152 : x_okL x_xm xm_119 152 b119_152 := x_okc (snd_iinc (n := 1) (by decide) (by decide +kernel)) (x_okc (snd_goto (off := -152) (by decide) (by decide +kernel)) x_okn)
theorem o119_158 : x_okL x_xm xm_119 158 b119_158 := x_okc (snd_iconst (n := 0) (by decide) (by decide +kernel)) (x_okc (snd_zret rfl (by decide +kernel)) x_okn)
theorem o119 : ∀ q ∈ t119, x_okL x_xm xm_119 q.1 q.2 := List.forall_mem_cons.mpr ⟨o119_0, List.forall_mem_cons.mpr ⟨o119_3, List.forall_mem_cons.mpr ⟨o119_30, List.forall_mem_cons.mpr ⟨o119_40, List.forall_mem_cons.mpr ⟨o119_60, List.forall_mem_cons.mpr ⟨o119_72, List.forall_mem_cons.mpr ⟨o119_75, List.forall_mem_cons.mpr ⟨o119_90, List.forall_mem_cons.mpr ⟨o119_101, List.forall_mem_cons.mpr ⟨o119_146, List.forall_mem_cons.mpr ⟨o119_152, List.forall_mem_cons.mpr ⟨o119_158, fun _ h => absurd h List.not_mem_nil⟩⟩⟩⟩⟩⟩⟩⟩⟩⟩⟩⟩
theorem p119 : x_okM xm_119 := ⟨by decide, rfl, fun h => by cases h⟩
theorem o120_0 : x_okL x_xm xm_120 0 b120_0 := x_okc (snd_iconst (n := -1) (by decide) (by decide +kernel)) (x_okc (snd_istore_n (k := 2) rfl (by decide +kernel)) (x_okc (snd_iconst (n := 4) (by decide) (by decide +kernel)) (x_okc (snd_istore_n (k := 3) rfl (by decide +kernel)) (x_okc (snd_to) x_okn))))
theorem o120_4 : x_okL x_xm xm_120 4 b120_4 := x_okc (snd_iload_n (k := 3) rfl (by decide +kernel)) (x_okc (snd_if_lt (off := 28) (by decide) (by decide +kernel)) (x_okc (snd_aload_n (k := 0) rfl (by decide +kernel)) (x_okc (snd_gfr ko_8 (by decide) rfl (by decide) wd_800 (by decide +kernel)) (x_okc (snd_iconst (n := 5) (by decide) (by decide +kernel)) (x_okc (snd_iload_n (k := 1) rfl (by decide +kernel)) (x_okc (snd_imul (by decide +kernel)) (x_okc (snd_iload_n (k := 3) rfl (by decide +kernel)) (x_okc (snd_iadd (by decide +kernel)) (x_okc (snd_ald ka_37 rfl rfl (by decide) (by decide +kernel)) (x_okc (snd_if_ge (off := 7) (by decide) (by decide +kernel)) (x_okc (snd_iload_n (k := 3) rfl (by decide +kernel)) (x_okc (snd_goto (off := 4) (by decide) (by decide +kernel)) x_okn))))))))))))
theorem o120_25 : x_okL x_xm xm_120 25 b120_25 := x_okc (snd_iload_n (k := 2) rfl (by decide +kernel)) (x_okc (snd_to) x_okn)
theorem o120_26 : x_okL x_xm xm_120 26 b120_26 := x_okc (snd_istore_n (k := 2) rfl (by decide +kernel)) (x_okc (snd_iinc (n := -1) (by decide) (by decide +kernel)) (x_okc (snd_goto (off := -26) (by decide) (by decide +kernel)) x_okn))
theorem o120_33 : x_okL x_xm xm_120 33 b120_33 := x_okc (snd_iload_n (k := 2) rfl (by decide +kernel)) (x_okc (snd_iret rfl (by decide +kernel)) x_okn)
theorem o120 : ∀ q ∈ t120, x_okL x_xm xm_120 q.1 q.2 := List.forall_mem_cons.mpr ⟨o120_0, List.forall_mem_cons.mpr ⟨o120_4, List.forall_mem_cons.mpr ⟨o120_25, List.forall_mem_cons.mpr ⟨o120_26, List.forall_mem_cons.mpr ⟨o120_33, fun _ h => absurd h List.not_mem_nil⟩⟩⟩⟩⟩
theorem p120 : x_okM xm_120 := ⟨by decide, rfl, fun h => by cases h⟩
theorem o121_0 : x_okL x_xm xm_121 0 b121_0 := x_okc (snd_iload_n (k := 3) rfl (by decide +kernel)) (x_okc (snd_bipush (n := 23) (by decide) (by decide +kernel)) (x_okc (snd_icmp_le (off := 10) (by decide) (by decide +kernel)) (x_okc (snd_aload_n (k := 0) rfl (by decide +kernel)) (x_okc (snd_iload_n (k := 1) rfl (by decide +kernel)) (x_okc (snd_iconst (n := 5) (by decide) (by decide +kernel)) (x_okc (snd_callv (M' := xm_105) rfl ko_8 rfl rfl rfl rfl wd_1026 wd_1023 wd_1025 wd_62 wd_40 (by decide +kernel) (Nat.le_of_ble_eq_true rfl) (Nat.le_of_ble_eq_true rfl) (by decide +kernel)) (x_okc (snd_ret rfl (by decide +kernel)) x_okn)))))))
theorem o121_13 : x_okL x_xm xm_121 13 b121_13 := x_okc (snd_aload_n (k := 0) rfl (by decide +kernel)) (x_okc (snd_iload_n (k := 2) rfl (by decide +kernel)) (x_okc (snd_iload_n (k := 3) rfl (by decide +kernel)) (x_okc (snd_callv (M' := xm_117) rfl ko_8 rfl rfl rfl rfl wd_1050 wd_1047 wd_1049 wd_62 wd_45 (by decide +kernel) (Nat.le_of_ble_eq_true rfl) (Nat.le_of_ble_eq_true rfl) (by decide +kernel)) (x_okc (snd_istore (by decide +kernel)) (x_okc (snd_aload_n (k := 0) rfl (by decide +kernel)) (x_okc (snd_bipush (n := 24) (by decide) (by decide +kernel)) (x_okc (snd_iload_n (k := 2) rfl (by decide +kernel)) (x_okc (snd_imul (by decide +kernel)) (x_okc (snd_iload (by decide +kernel)) (x_okc (snd_iadd (by decide +kernel)) (x_okc (snd_callv (M' := xm_116) rfl ko_8 rfl rfl rfl rfl wd_1054 wd_1051 wd_1053 wd_62 wd_46 (by decide +kernel) (Nat.le_of_ble_eq_true rfl) (Nat.le_of_ble_eq_true rfl) (by decide +kernel)) (x_okc (snd_if_ne (off := 10) (by decide) (by decide +kernel)) (x_okc (snd_aload_n (k := 0) rfl (by decide +kernel)) (x_okc (snd_iload_n (k := 1) rfl (by decide +kernel)) (x_okc (snd_iconst (n := 3) (by decide) (by decide +kernel)) (x_okc (snd_callv (M' := xm_105) rfl ko_8 rfl rfl rfl rfl wd_1026 wd_1023 wd_1025 wd_62 wd_40 (by decide +kernel) (Nat.le_of_ble_eq_true rfl) (Nat.le_of_ble_eq_true rfl) (by decide +kernel)) (x_okc (snd_ret rfl (by decide +kernel)) x_okn)))))))))))))))))
theorem o121_42 : x_okL x_xm xm_121 42 b121_42 := x_okc (snd_iload_n (k := 1) rfl (by decide +kernel)) (x_okc (snd_bipush (n := 24) (by decide) (by decide +kernel)) (x_okc (snd_idiv (by decide +kernel)) (x_okc (snd_iload_n (k := 2) rfl (by decide +kernel)) (x_okc (snd_icmp_ne (off := 7) (by decide) (by decide +kernel)) (x_okc (snd_iconst (n := 1) (by decide) (by decide +kernel)) (x_okc (snd_goto (off := 4) (by decide) (by decide +kernel)) x_okn))))))
theorem o121_54 : x_okL x_xm xm_121 54 b121_54 := x_okc (snd_iconst (n := 0) (by decide) (by decide +kernel)) (x_okc (snd_to) x_okn)
theorem o121_55 : x_okL x_xm xm_121 55 b121_55 := x_okc (snd_istore (by decide +kernel)) (x_okc (snd_iload (by decide +kernel)) (x_okc (snd_if_eq (off := 11) (by decide) (by decide +kernel)) (x_okc (snd_aload_n (k := 0) rfl (by decide +kernel)) (x_okc (snd_iload_n (k := 2) rfl (by decide +kernel)) (x_okc (snd_callv (M' := xm_120) rfl ko_8 rfl rfl rfl rfl wd_1058 wd_1055 wd_1057 wd_62 wd_47 (by decide +kernel) (Nat.le_of_ble_eq_true rfl) (Nat.le_of_ble_eq_true rfl) (by decide +kernel)) (x_okc (snd_goto (off := 4) (by decide) (by decide +kernel)) x_okn))))))
theorem o121_70 : x_okL x_xm xm_121 70 b121_70 := x_okc (snd_iconst (n := 0) (by decide) (by decide +kernel)) (x_okc (snd_to) x_okn)
theorem o121_71 : x_okL x_xm xm_121 71 b121_71 := x_okc (snd_istore (by decide +kernel)) (x_okc (snd_iload (by decide +kernel)) (x_okc (snd_if_lt (off := 26) (by decide) (by decide +kernel)) (x_okc (snd_aload_n (k := 0) rfl (by decide +kernel)) (x_okc (snd_iload_n (k := 2) rfl (by decide +kernel)) (x_okc (snd_iload (by decide +kernel)) (x_okc (snd_if_eq (off := 10) (by decide) (by decide +kernel)) (x_okc (snd_iload_n (k := 1) rfl (by decide +kernel)) (x_okc (snd_bipush (n := 24) (by decide) (by decide +kernel)) (x_okc (snd_irem (by decide +kernel)) (x_okc (snd_goto (off := 4) (by decide) (by decide +kernel)) x_okn))))))))))
theorem o121_92 : x_okL x_xm xm_121 92 b121_92 := x_okc (snd_iconst (n := -1) (by decide) (by decide +kernel)) (x_okc (snd_to) x_okn)
theorem o121_93 : x_okL x_xm xm_121 93 b121_93 := x_okc (snd_iload (by decide +kernel)) (x_okc (snd_callv (M' := xm_119) rfl ko_8 rfl rfl rfl rfl wd_1062 wd_1059 wd_1061 wd_62 wd_48 (by decide +kernel) (Nat.le_of_ble_eq_true rfl) (Nat.le_of_ble_eq_true rfl) (by decide +kernel)) (x_okc (snd_if_ne (off := 10) (by decide) (by decide +kernel)) (x_okc (snd_to) x_okn)))
theorem o121_101 : x_okL x_xm xm_121 101 b121_101 := x_okc (snd_aload_n (k := 0) rfl (by decide +kernel)) (x_okc (snd_iload_n (k := 1) rfl (by decide +kernel)) (x_okc (snd_iconst (n := 4) (by decide) (by decide +kernel)) (x_okc (snd_callv (M' := xm_105) rfl ko_8 rfl rfl rfl rfl wd_1026 wd_1023 wd_1025 wd_62 wd_40 (by decide +kernel) (Nat.le_of_ble_eq_true rfl) (Nat.le_of_ble_eq_true rfl) (by decide +kernel)) (x_okc (snd_ret rfl (by decide +kernel)) x_okn))))
theorem o121_108 : x_okL x_xm xm_121 108 b121_108 := x_okc (snd_iload (by decide +kernel)) (x_okc (snd_if_eq (off := 28) (by decide) (by decide +kernel)) (x_okc (snd_aload_n (k := 0) rfl (by decide +kernel)) (x_okc (snd_iload_n (k := 1) rfl (by decide +kernel)) (x_okc (snd_sipush (n := 1000) (by decide) (by decide +kernel)) (x_okc (snd_iload_n (k := 2) rfl (by decide +kernel)) (x_okc (snd_imul (by decide +kernel)) (x_okc (snd_iconst (n := 4) (by decide) (by decide +kernel)) (x_okc (snd_iload_n (k := 1) rfl (by decide +kernel)) (x_okc (snd_bipush (n := 24) (by decide) (by decide +kernel)) (x_okc (snd_irem (by decide +kernel)) (x_okc (snd_bipush (n := 8) (by decide) (by decide +kernel)) (x_okc (snd_idiv (by decide +kernel)) (x_okc (snd_imul (by decide +kernel)) (x_okc (snd_iadd (by decide +kernel)) (x_okc (snd_aload_n (k := 0) rfl (by decide +kernel)) (x_okc (snd_gfi ko_8 (by decide) rfl wd_829 (by decide +kernel)) (x_okc (snd_iadd (by decide +kernel)) (x_okc (snd_callv (M' := xm_100) rfl ko_8 rfl rfl rfl rfl wd_982 wd_979 wd_981 wd_62 wd_31 (by decide +kernel) (Nat.le_of_ble_eq_true rfl) (Nat.le_of_ble_eq_true rfl) (by decide +kernel)) (x_okc (snd_to) x_okn)))))))))))))))))))
theorem o121_138 : x_okL x_xm xm_121 138 b121_138 := x_okc (snd_iload (by decide +kernel)) (x_okc (snd_if_eq (off := 19) (by decide) (by decide +kernel)) (x_okc (snd_aload_n (k := 0) rfl (by decide +kernel)) (x_okc (snd_iload_n (k := 1) rfl (by decide +kernel)) (x_okc (snd_sipush (n := 1000) (by decide) (by decide +kernel)) (x_okc (snd_iload_n (k := 2) rfl (by decide +kernel)) (x_okc (snd_imul (by decide +kernel)) (x_okc (snd_bipush (n := 20) (by decide) (by decide +kernel)) (x_okc (snd_iadd (by decide +kernel)) (x_okc (snd_iload (by decide +kernel)) (x_okc (snd_iadd (by decide +kernel)) (x_okc (snd_callv (M' := xm_100) rfl ko_8 rfl rfl rfl rfl wd_982 wd_979 wd_981 wd_62 wd_31 (by decide +kernel) (Nat.le_of_ble_eq_true rfl) (Nat.le_of_ble_eq_true rfl) (by decide +kernel)) (x_okc (snd_to) x_okn))))))))))))
theorem o121_159 : x_okL x_xm xm_121 159 b121_159 := x_okc (snd_aload_n (k := 0) rfl (by decide +kernel)) (x_okc (snd_iload_n (k := 1) rfl (by decide +kernel)) (x_okc (snd_sipush (n := 1000) (by decide) (by decide +kernel)) (x_okc (snd_iload_n (k := 2) rfl (by decide +kernel)) (x_okc (snd_imul (by decide +kernel)) (x_okc (snd_iconst (n := 4) (by decide) (by decide +kernel)) (x_okc (snd_iload (by decide +kernel)) (x_okc (snd_bipush (n := 8) (by decide) (by decide +kernel)) (x_okc (snd_idiv (by decide +kernel)) (x_okc (snd_imul (by decide +kernel)) (x_okc (snd_iadd (by decide +kernel)) (x_okc (snd_aload_n (k := 0) rfl (by decide +kernel)) (x_okc (snd_gfi ko_8 (by decide) rfl wd_830 (by decide +kernel)) (x_okc (snd_iadd (by decide +kernel)) (x_okc (snd_callv (M' := xm_100) rfl ko_8 rfl rfl rfl rfl wd_982 wd_979 wd_981 wd_62 wd_31 (by decide +kernel) (Nat.le_of_ble_eq_true rfl) (Nat.le_of_ble_eq_true rfl) (by decide +kernel)) (x_okc (snd_aload_n (k := 0) rfl (by decide +kernel)) (x_okc (snd_gfr ko_8 (by decide) rfl (by decide) wd_807 (by decide +kernel)) (x_okc (snd_iload_n (k := 2) rfl (by decide +kernel)) (x_okc (snd_iload (by decide +kernel)) (x_okc (snd_if_eq (off := 10) (by decide) (by decide +kernel)) (x_okc (snd_aload_n (k := 0) rfl (by decide +kernel)) (x_okc (snd_gfi ko_8 (by decide) rfl wd_829 (by decide +kernel)) (x_okc (snd_goto (off := 7) (by decide) (by decide +kernel)) x_okn))))))))))))))))))))))
theorem o121_199 : x_okL x_xm xm_121 199 b121_199 := x_okc (snd_aload_n (k := 0) rfl (by decide +kernel)) (x_okc (snd_gfi ko_8 (by decide) rfl wd_830 (by decide +kernel)) (x_okc (snd_to) x_okn))
theorem o121_203 : x_okL x_xm xm_121 203 b121_203 := x_okc (snd_iconst (n := 1) (by decide) (by decide +kernel)) (x_okc (snd_iadd (by decide +kernel)) (x_okc (snd_iconst (n := 4) (by decide) (by decide +kernel)) (x_okc (snd_irem (by decide +kernel)) (x_okc (snd_ast ka_43 rfl rfl (by decide) (by decide +kernel)) (x_okc (snd_aload_n (k := 0) rfl (by decide +kernel)) (x_okc (snd_iload_n (k := 1) rfl (by decide +kernel)) (x_okc (snd_sipush (n := 1000) (by decide) (by decide +kernel)) (x_okc (snd_iload_n (k := 2) rfl (by decide +kernel)) (x_okc (snd_imul (by decide +kernel)) (x_okc (snd_bipush (n := 30) (by decide) (by decide +kernel)) (x_okc (snd_iadd (by decide +kernel)) (x_okc (snd_aload_n (k := 0) rfl (by decide +kernel)) (x_okc (snd_gfr ko_8 (by decide) rfl (by decide) wd_815 (by decide +kernel)) (x_okc (snd_iload_n (k := 1) rfl (by decide +kernel)) (x_okc (snd_ald ka_51 rfl rfl (by decide) (by decide +kernel)) (x_okc (snd_iadd (by decide +kernel)) (x_okc (snd_callv (M' := xm_101) rfl ko_8 rfl rfl rfl rfl wd_1002 wd_999 wd_1001 wd_62 wd_35 (by decide +kernel) (Nat.le_of_ble_eq_true rfl) (Nat.le_of_ble_eq_true rfl) (by decide +kernel)) (x_okc (snd_aload_n (k := 0) rfl (by decide +kernel)) (x_okc (snd_gfr ko_8 (by decide) rfl (by decide) wd_811 (by decide +kernel)) (x_okc (snd_iload_n (k := 1) rfl (by decide +kernel)) (x_okc (snd_iconst (n := 4) (by decide) (by decide +kernel)) (x_okc (snd_ast ka_47 rfl rfl (by decide) (by decide +kernel)) (x_okc (snd_aload_n (k := 0) rfl (by decide +kernel)) (x_okc (snd_gfr ko_8 (by decide) rfl (by decide) wd_821 (by decide +kernel)) (x_okc (snd_iload_n (k := 1) rfl (by decide +kernel)) (x_okc (snd_bipush (n := 24) (by decide) (by decide +kernel)) (x_okc (snd_iload_n (k := 2) rfl (by decide +kernel)) (x_okc (snd_imul (by decide +kernel)) (x_okc (snd_iload (by decide +kernel)) (x_okc (snd_iadd (by decide +kernel)) (x_okc (snd_ast ka_57 rfl rfl (by decide) (by decide +kernel)) (x_okc (snd_aload_n (k := 0) rfl (by decide +kernel)) (x_okc (snd_gfr ko_8 (by decide) rfl (by decide) wd_791 (by decide +kernel)) (x_okc (snd_aload_n (k := 0) rfl (by decide +kernel)) (x_okc (snd_gfr ko_8 (by decide) rfl (by decide) wd_821 (by decide +kernel)) (x_okc (snd_iload_n (k := 1) rfl (by decide +kernel)) (x_okc (snd_ald ka_57 rfl rfl (by decide) (by decide +kernel)) (x_okc (snd_iload_n (k := 1) rfl (by decide +kernel)) (x_okc (snd_ast ka_28 rfl rfl (by decide) (by decide +kernel)) (x_okc (snd_ret rfl (by decide +kernel)) x_okn))))))))))))))))))))))))))))))))))))))))
theorem o121 : ∀ q ∈ t121, x_okL x_xm xm_121 q.1 q.2 := List.forall_mem_cons.mpr ⟨o121_0, List.forall_mem_cons.mpr ⟨o121_13, List.forall_mem_cons.mpr ⟨o121_42, List.forall_mem_cons.mpr ⟨o121_54, List.forall_mem_cons.mpr ⟨o121_55, List.forall_mem_cons.mpr ⟨o121_70, List.forall_mem_cons.mpr ⟨o121_71, List.forall_mem_cons.mpr ⟨o121_92, List.forall_mem_cons.mpr ⟨o121_93, List.forall_mem_cons.mpr ⟨o121_101, List.forall_mem_cons.mpr ⟨o121_108, List.forall_mem_cons.mpr ⟨o121_138, List.forall_mem_cons.mpr ⟨o121_159, List.forall_mem_cons.mpr ⟨o121_199, List.forall_mem_cons.mpr ⟨o121_203, fun _ h => absurd h List.not_mem_nil⟩⟩⟩⟩⟩⟩⟩⟩⟩⟩⟩⟩⟩⟩⟩
theorem p121 : x_okM xm_121 := ⟨by decide, rfl, fun h => by cases h⟩
theorem o122_0 : x_okL x_xm xm_122 0 b122_0 := x_okc (snd_iconst (n := -1) (by decide) (by decide +kernel)) (x_okc (snd_istore_n (k := 3) rfl (by decide +kernel)) (x_okc (snd_aload_n (k := 0) rfl (by decide +kernel)) (x_okc (snd_gfi ko_8 (by decide) rfl wd_802 (by decide +kernel)) (x_okc (snd_iconst (n := 1) (by decide) (by decide +kernel)) (x_okc (snd_isub (by decide +kernel)) (x_okc (snd_istore (by decide +kernel)) (x_okc (snd_to) x_okn)))))))
theorem o122_10 : x_okL x_xm xm_122 10 b122_10 := x_okc (snd_iload (by decide +kernel)) (x_okc (snd_if_lt (off := 92) (by decide) (by decide +kernel)) (x_okc (snd_aload_n (k := 0) rfl (by decide +kernel)) (x_okc (snd_gfr ko_8 (by decide) rfl (by decide) wd_803 (by decide +kernel)) (x_okc (snd_iload (by decide +kernel)) (x_okc (snd_ald ka_39 rfl rfl (by decide) (by decide +kernel)) (x_okc (snd_iload_n (k := 1) rfl (by decide +kernel)) (x_okc (snd_icmp_ne (off := 14) (by decide) (by decide +kernel)) (x_okc (snd_aload_n (k := 0) rfl (by decide +kernel)) (x_okc (snd_gfr ko_8 (by decide) rfl (by decide) wd_804 (by decide +kernel)) (x_okc (snd_iload (by decide +kernel)) (x_okc (snd_ald ka_40 rfl rfl (by decide) (by decide +kernel)) (x_okc (snd_iload_n (k := 2) rfl (by decide +kernel)) (x_okc (snd_icmp_eq (off := 25) (by decide) (by decide +kernel)) (x_okc (snd_to) x_okn))))))))))))))
theorem o122_37 : x_okL x_xm xm_122 37 b122_37 := x_okc (snd_aload_n (k := 0) rfl (by decide +kernel)) (x_okc (snd_gfr ko_8 (by decide) rfl (by decide) wd_803 (by decide +kernel)) (x_okc (snd_iload (by decide +kernel)) (x_okc (snd_ald ka_39 rfl rfl (by decide) (by decide +kernel)) (x_okc (snd_iload_n (k := 2) rfl (by decide +kernel)) (x_okc (snd_icmp_ne (off := 18) (by decide) (by decide +kernel)) (x_okc (snd_aload_n (k := 0) rfl (by decide +kernel)) (x_okc (snd_gfr ko_8 (by decide) rfl (by decide) wd_804 (by decide +kernel)) (x_okc (snd_iload (by decide +kernel)) (x_okc (snd_ald ka_40 rfl rfl (by decide) (by decide +kernel)) (x_okc (snd_iload_n (k := 1) rfl (by decide +kernel)) (x_okc (snd_icmp_ne (off := 7) (by decide) (by decide +kernel)) (x_okc (snd_to) x_okn))))))))))))
theorem o122_59 : x_okL x_xm xm_122 59 b122_59 := x_okc (snd_iconst (n := 1) (by decide) (by decide +kernel)) (x_okc (snd_goto (off := 4) (by decide) (by decide +kernel)) x_okn)
theorem o122_63 : x_okL x_xm xm_122 63 b122_63 := x_okc (snd_iconst (n := 0) (by decide) (by decide +kernel)) (x_okc (snd_to) x_okn)
theorem o122_64 : x_okL x_xm xm_122 64 b122_64 := x_okc (snd_istore (by decide +kernel)) (x_okc (snd_iload (by decide +kernel)) (x_okc (snd_if_eq (off := 28) (by decide) (by decide +kernel)) (x_okc (snd_aload_n (k := 0) rfl (by decide +kernel)) (x_okc (snd_gfr ko_8 (by decide) rfl (by decide) wd_805 (by decide +kernel)) (x_okc (snd_iload (by decide +kernel)) (x_okc (snd_ald ka_41 rfl rfl (by decide) (by decide +kernel)) (x_okc (snd_if_ge (off := 18) (by decide) (by decide +kernel)) (x_okc (snd_aload_n (k := 0) rfl (by decide +kernel)) (x_okc (snd_gfr ko_8 (by decide) rfl (by decide) wd_806 (by decide +kernel)) (x_okc (snd_iload (by decide +kernel)) (x_okc (snd_bald ka_42 rfl rfl (by decide) (by decide +kernel)) (x_okc (snd_if_ne (off := 8) (by decide) (by decide +kernel)) (x_okc (snd_iload (by decide +kernel)) (x_okc (snd_goto (off := 4) (by decide) (by decide +kernel)) x_okn))))))))))))))
theorem o122_96 : x_okL x_xm xm_122 96 b122_96 := x_okc (snd_iload_n (k := 3) rfl (by decide +kernel)) (x_okc (snd_to) x_okn)
theorem o122_97 : x_okL x_xm xm_122 97 b122_97 := x_okc (snd_istore_n (k := 3) rfl (by decide +kernel)) (x_okc (snd_iinc (n := -1) (by decide) (by decide +kernel)) (x_okc (snd_goto (off := -91) (by decide) (by decide +kernel)) x_okn))
theorem o122_104 : x_okL x_xm xm_122 104 b122_104 := x_okc (snd_iload_n (k := 3) rfl (by decide +kernel)) (x_okc (snd_iret rfl (by decide +kernel)) x_okn)
theorem o122 : ∀ q ∈ t122, x_okL x_xm xm_122 q.1 q.2 := List.forall_mem_cons.mpr ⟨o122_0, List.forall_mem_cons.mpr ⟨o122_10, List.forall_mem_cons.mpr ⟨o122_37, List.forall_mem_cons.mpr ⟨o122_59, List.forall_mem_cons.mpr ⟨o122_63, List.forall_mem_cons.mpr ⟨o122_64, List.forall_mem_cons.mpr ⟨o122_96, List.forall_mem_cons.mpr ⟨o122_97, List.forall_mem_cons.mpr ⟨o122_104, fun _ h => absurd h List.not_mem_nil⟩⟩⟩⟩⟩⟩⟩⟩⟩
theorem p122 : x_okM xm_122 := ⟨by decide, rfl, fun h => by cases h⟩
theorem o123_0 : x_okL x_xm xm_123 0 b123_0 := x_okc (snd_iload_n (k := 1) rfl (by decide +kernel)) (x_okc (snd_bipush (n := 24) (by decide) (by decide +kernel)) (x_okc (snd_idiv (by decide +kernel)) (x_okc (snd_iload_n (k := 2) rfl (by decide +kernel)) (x_okc (snd_icmp_ne (off := 7) (by decide) (by decide +kernel)) (x_okc (snd_iconst (n := 1) (by decide) (by decide +kernel)) (x_okc (snd_goto (off := 4) (by decide) (by decide +kernel)) x_okn))))))
theorem o123_12 : x_okL x_xm xm_123 12 b123_12 := x_okc (snd_iconst (n := 0) (by decide) (by decide +kernel)) (x_okc (snd_to) x_okn)
theorem o123_13 : x_okL x_xm xm_123 13 b123_13 := x_okc (snd_istore (by decide +kernel)) (x_okc (snd_iconst (n := 0) (by decide) (by decide +kernel)) (x_okc (snd_istore (by decide +kernel)) (x_okc (snd_to) x_okn)))
theorem o123_18 : x_okL x_xm xm_123 18 b123_18 := x_okc (snd_iload (by decide +kernel)) (x_okc (snd_aload_n (k := 0) rfl (by decide +kernel)) (x_okc (snd_gfr ko_8 (by decide) rfl (by decide) wd_796 (by decide +kernel)) (x_okc (snd_iload_n (k := 3) rfl (by decide +kernel)) (x_okc (snd_ald ka_33 rfl rfl (by decide) (by decide +kernel)) (x_okc (snd_icmp_ge (off := 231) (by decide) (by decide +kernel)) (x_okc (snd_aload_n (k := 0) rfl (by decide +kernel)) (x_okc (snd_gfr ko_8 (by decide) rfl (by decide) wd_798 (by decide +kernel)) (x_okc (snd_iconst (n := 3) (by decide) (by decide +kernel)) (x_okc (snd_iload_n (k := 3) rfl (by decide +kernel)) (x_okc (snd_imul (by decide +kernel)) (x_okc (snd_iload (by decide +kernel)) (x_okc (snd_iadd (by decide +kernel)) (x_okc (snd_ald ka_35 rfl rfl (by decide) (by decide +kernel)) (x_okc (snd_istore (by decide +kernel)) (x_okc (snd_aload_n (k := 0) rfl (by decide +kernel)) (x_okc (snd_gfr ko_8 (by decide) rfl (by decide) wd_819 (by decide +kernel)) (x_okc (snd_iload_n (k := 1) rfl (by decide +kernel)) (x_okc (snd_ald ka_55 rfl rfl (by decide) (by decide +kernel)) (x_okc (snd_iload (by decide +kernel)) (x_okc (snd_ishr (by decide +kernel)) (x_okc (snd_iconst (n := 1) (by decide) (by decide +kernel)) (x_okc (snd_iand (by decide +kernel)) (x_okc (snd_iconst (n := 1) (by decide) (by decide +kernel)) (x_okc (snd_icmp_ne (off := 6) (by decide) (by decide +kernel)) (x_okc (snd_goto (off := 194) (by decide) (by decide +kernel)) x_okn)))))))))))))))))))))))))
theorem o123_60 : x_okL x_xm xm_123 60 b123_60 := x_okc (snd_aload_n (k := 0) rfl (by decide +kernel)) (x_okc (snd_iload_n (k := 2) rfl (by decide +kernel)) (x_okc (snd_iload (by decide +kernel)) (x_okc (snd_callv (M' := xm_122) rfl ko_8 rfl rfl rfl rfl wd_1073 wd_1070 wd_1072 wd_62 wd_50 (by decide +kernel) (Nat.le_of_ble_eq_true rfl) (Nat.le_of_ble_eq_true rfl) (by decide +kernel)) (x_okc (snd_istore (by decide +kernel)) (x_okc (snd_iload (by decide +kernel)) (x_okc (snd_if_ge (off := 21) (by decide) (by decide +kernel)) (x_okc (snd_aload_n (k := 0) rfl (by decide +kernel)) (x_okc (snd_gfr ko_8 (by decide) rfl (by decide) wd_808 (by decide +kernel)) (x_okc (snd_iconst (n := 3) (by decide) (by decide +kernel)) (x_okc (snd_iload_n (k := 2) rfl (by decide +kernel)) (x_okc (snd_imul (by decide +kernel)) (x_okc (snd_iload (by decide +kernel)) (x_okc (snd_iadd (by decide +kernel)) (x_okc (snd_dup2 (by decide +kernel)) (x_okc (snd_ald ka_44 rfl rfl (by decide) (by decide +kernel)) (x_okc (snd_iconst (n := 1) (by decide) (by decide +kernel)) (x_okc (snd_iadd (by decide +kernel)) (x_okc (snd_ast ka_44 rfl rfl (by decide) (by decide +kernel)) (x_okc (snd_goto (off := 162) (by decide) (by decide +kernel)) x_okn)))))))))))))))))))
theorem o123_92 : x_okL x_xm xm_123 92 b123_92 := x_okc (snd_aload_n (k := 0) rfl (by decide +kernel)) (x_okc (snd_iload (by decide +kernel)) (x_okc (snd_callv (M' := xm_107) rfl ko_8 rfl rfl rfl rfl wd_970 wd_967 wd_969 wd_62 wd_28 (by decide +kernel) (Nat.le_of_ble_eq_true rfl) (Nat.le_of_ble_eq_true rfl) (by decide +kernel)) (x_okc (snd_istore (by decide +kernel)) (x_okc (snd_iload (by decide +kernel)) (x_okc (snd_if_lt (off := 149) (by decide) (by decide +kernel)) (x_okc (snd_iload (by decide +kernel)) (x_okc (snd_if_eq (off := 19) (by decide) (by decide +kernel)) (x_okc (snd_aload_n (k := 0) rfl (by decide +kernel)) (x_okc (snd_iload_n (k := 2) rfl (by decide +kernel)) (x_okc (snd_iload_n (k := 1) rfl (by decide +kernel)) (x_okc (snd_bipush (n := 24) (by decide) (by decide +kernel)) (x_okc (snd_irem (by decide +kernel)) (x_okc (snd_iconst (n := -1) (by decide) (by decide +kernel)) (x_okc (snd_callv (M' := xm_119) rfl ko_8 rfl rfl rfl rfl wd_1062 wd_1059 wd_1061 wd_62 wd_48 (by decide +kernel) (Nat.le_of_ble_eq_true rfl) (Nat.le_of_ble_eq_true rfl) (by decide +kernel)) (x_okc (snd_if_ne (off := 6) (by decide) (by decide +kernel)) (x_okc (snd_goto (off := 128) (by decide) (by decide +kernel)) x_okn))))))))))))))))
theorem o123_126 : x_okL x_xm xm_123 126 b123_126 := x_okc (snd_iload (by decide +kernel)) (x_okc (snd_if_eq (off := 42) (by decide) (by decide +kernel)) (x_okc (snd_aload_n (k := 0) rfl (by decide +kernel)) (x_okc (snd_iload_n (k := 1) rfl (by decide +kernel)) (x_okc (snd_sipush (n := 1000) (by decide) (by decide +kernel)) (x_okc (snd_iload_n (k := 2) rfl (by decide +kernel)) (x_okc (snd_imul (by decide +kernel)) (x_okc (snd_iconst (n := 4) (by decide) (by decide +kernel)) (x_okc (snd_iload_n (k := 1) rfl (by decide +kernel)) (x_okc (snd_bipush (n := 24) (by decide) (by decide +kernel)) (x_okc (snd_irem (by decide +kernel)) (x_okc (snd_bipush (n := 8) (by decide) (by decide +kernel)) (x_okc (snd_idiv (by decide +kernel)) (x_okc (snd_imul (by decide +kernel)) (x_okc (snd_iadd (by decide +kernel)) (x_okc (snd_aload_n (k := 0) rfl (by decide +kernel)) (x_okc (snd_gfi ko_8 (by decide) rfl wd_829 (by decide +kernel)) (x_okc (snd_iadd (by decide +kernel)) (x_okc (snd_callv (M' := xm_100) rfl ko_8 rfl rfl rfl rfl wd_982 wd_979 wd_981 wd_62 wd_31 (by decide +kernel) (Nat.le_of_ble_eq_true rfl) (Nat.le_of_ble_eq_true rfl) (by decide +kernel)) (x_okc (snd_aload_n (k := 0) rfl (by decide +kernel)) (x_okc (snd_gfr ko_8 (by decide) rfl (by decide) wd_807 (by decide +kernel)) (x_okc (snd_iload_n (k := 2) rfl (by decide +kernel)) (x_okc (snd_aload_n (k := 0) rfl (by decide +kernel)) (x_okc (snd_gfi ko_8 (by decide) rfl wd_829 (by decide +kernel)) (x_okc (snd_iconst (n := 1) (by decide) (by decide +kernel)) (x_okc (snd_iadd (by decide +kernel)) (x_okc (snd_iconst (n := 4) (by decide) (by decide +kernel)) (x_okc (snd_irem (by decide +kernel)) (x_okc (snd_ast ka_43 rfl rfl (by decide) (by decide +kernel)) (x_okc (snd_to) x_okn)))))))))))))))))))))))))))))
theorem o123_170 : x_okL x_xm xm_123 170 b123_170 := x_okc (snd_aload_n (k := 0) rfl (by decide +kernel)) (x_okc (snd_iload_n (k := 1) rfl (by decide +kernel)) (x_okc (snd_sipush (n := 5000) (by decide) (by decide +kernel)) (x_okc (snd_iload (by decide +kernel)) (x_okc (snd_iadd (by decide +kernel)) (x_okc (snd_callv (M' := xm_100) rfl ko_8 rfl rfl rfl rfl wd_982 wd_979 wd_981 wd_62 wd_31 (by decide +kernel) (Nat.le_of_ble_eq_true rfl) (Nat.le_of_ble_eq_true rfl) (by decide +kernel)) (x_okc (snd_aload_n (k := 0) rfl (by decide +kernel)) (x_okc (snd_iload_n (k := 1) rfl (by decide +kernel)) (x_okc (snd_sipush (n := 1000) (by decide) (by decide +kernel)) (x_okc (snd_iload (by decide +kernel)) (x_okc (snd_imul (by decide +kernel)) (x_okc (snd_bipush (n := 30) (by decide) (by decide +kernel)) (x_okc (snd_iadd (by decide +kernel)) (x_okc (snd_iload (by decide +kernel)) (x_okc (snd_iadd (by decide +kernel)) (x_okc (snd_callv (M' := xm_100) rfl ko_8 rfl rfl rfl rfl wd_982 wd_979 wd_981 wd_62 wd_31 (by decide +kernel) (Nat.le_of_ble_eq_true rfl) (Nat.le_of_ble_eq_true rfl) (by decide +kernel)) (x_okc (snd_aload_n (k := 0) rfl (by decide +kernel)) (x_okc (snd_gfr ko_8 (by decide) rfl (by decide) wd_819 (by decide +kernel)) (x_okc (snd_iload_n (k := 1) rfl (by decide +kernel)) (x_okc (snd_aload_n (k := 0) rfl (by decide +kernel)) (x_okc (snd_gfr ko_8 (by decide) rfl (by decide) wd_819 (by decide +kernel)) (x_okc (snd_iload_n (k := 1) rfl (by decide +kernel)) (x_okc (snd_ald ka_55 rfl rfl (by decide) (by decide +kernel)) (x_okc (snd_iconst (n := 1) (by decide) (by decide +kernel)) (x_okc (snd_iload (by decide +kernel)) (x_okc (snd_ishl (by decide +kernel)) (x_okc (snd_ior (by decide +kernel)) (x_okc (snd_ast ka_55 rfl rfl (by decide) (by decide +kernel)) (x_okc (snd_aload_n (k := 0) rfl (by decide +kernel)) (x_okc (snd_gfr ko_8 (by decide) rfl (by decide) wd_811 (by decide +kernel)) (x_okc (snd_iload_n (k := 1) rfl (by decide +kernel)) (x_okc (snd_iconst (n := 3) (by decide) (by decide +kernel)) (x_okc (snd_ast ka_47 rfl rfl (by decide) (by decide +kernel)) (x_okc (snd_aload_n (k := 0) rfl (by decide +kernel)) (x_okc (snd_gfr ko_8 (by decide) rfl (by decide) wd_816 (by decide +kernel)) (x_okc (snd_iload_n (k := 1) rfl (by decide +kernel)) (x_okc (snd_aload_n (k := 0) rfl (by decide +kernel)) (x_okc (snd_gfr ko_8 (by decide) rfl (by decide) wd_812 (by decide +kernel)) (x_okc (snd_iload_n (k := 1) rfl (by decide +kernel)) (x_okc (snd_ald ka_48 rfl rfl (by decide) (by decide +kernel)) (x_okc (snd_ast ka_52 rfl rfl (by decide) (by decide +kernel)) (x_okc (snd_aload_n (k := 0) rfl (by decide +kernel)) (x_okc (snd_gfr ko_8 (by decide) rfl (by decide) wd_817 (by decide +kernel)) (x_okc (snd_iload_n (k := 1) rfl (by decide +kernel)) (x_okc (snd_iload (by decide +kernel)) (x_okc (snd_ast ka_53 rfl rfl (by decide) (by decide +kernel)) (x_okc (snd_aload_n (k := 0) rfl (by decide +kernel)) (x_okc (snd_gfr ko_8 (by decide) rfl (by decide) wd_818 (by decide +kernel)) (x_okc (snd_iload_n (k := 1) rfl (by decide +kernel)) (x_okc (snd_iload (by decide +kernel)) (x_okc (snd_ast ka_54 rfl rfl (by decide) (by decide +kernel)) (x_okc (snd_ret rfl (by decide +kernel)) x_okn)))))))))))))))))))))))))))))))))))))))))))))))))))
theorem o123_251 : x_okL x_xm xm_123 251 b123_251 := x_okc (snd_iinc (n := 1) (by decide) (by decide +kernel)) (x_okc (snd_goto (off := -236) (by decide) (by decide +kernel)) x_okn)
theorem o123_257 : x_okL x_xm xm_123 257 b123_257 := x_okc (snd_aload_n (k := 0) rfl (by decide +kernel)) (x_okc (snd_iload_n (k := 1) rfl (by decide +kernel)) (x_okc (snd_iconst (n := 4) (by decide) (by decide +kernel)) (x_okc (snd_callv (M' := xm_105) rfl ko_8 rfl rfl rfl rfl wd_1026 wd_1023 wd_1025 wd_62 wd_40 (by decide +kernel) (Nat.le_of_ble_eq_true rfl) (Nat.le_of_ble_eq_true rfl) (by decide +kernel)) (x_okc (snd_ret rfl (by decide +kernel)) x_okn))))
theorem o123 : ∀ q ∈ t123, x_okL x_xm xm_123 q.1 q.2 := List.forall_mem_cons.mpr ⟨o123_0, List.forall_mem_cons.mpr ⟨o123_12, List.forall_mem_cons.mpr ⟨o123_13, List.forall_mem_cons.mpr ⟨o123_18, List.forall_mem_cons.mpr ⟨o123_60, List.forall_mem_cons.mpr ⟨o123_92, List.forall_mem_cons.mpr ⟨o123_126, List.forall_mem_cons.mpr ⟨o123_170, List.forall_mem_cons.mpr ⟨o123_251, List.forall_mem_cons.mpr ⟨o123_257, fun _ h => absurd h List.not_mem_nil⟩⟩⟩⟩⟩⟩⟩⟩⟩⟩
theorem p123 : x_okM xm_123 := ⟨by decide, rfl, fun h => by cases h⟩
end
section
theorem o124_0 : x_okL x_xm xm_124 0 b124_0 := x_okc (snd_aload_n (k := 0) rfl (by decide +kernel)) (x_okc (snd_gfr ko_8 (by decide) rfl (by decide) wd_810 (by decide +kernel)) (x_okc (snd_bipush (n := 72) (by decide) (by decide +kernel)) (x_okc (snd_iload_n (k := 1) rfl (by decide +kernel)) (x_okc (snd_imul (by decide +kernel)) (x_okc (snd_ald ka_46 rfl rfl (by decide) (by decide +kernel)) (x_okc (snd_istore_n (k := 2) rfl (by decide +kernel)) (x_okc (snd_aload_n (k := 0) rfl (by decide +kernel)) (x_okc (snd_iload_n (k := 2) rfl (by decide +kernel)) (x_okc (snd_callv (M' := xm_102) rfl ko_8 rfl rfl rfl rfl wd_1006 wd_1003 wd_1005 wd_62 wd_36 (by decide +kernel) (Nat.le_of_ble_eq_true rfl) (Nat.le_of_ble_eq_true rfl) (by decide +kernel)) (x_okc (snd_aload_n (k := 0) rfl (by decide +kernel)) (x_okc (snd_iload_n (k := 2) rfl (by decide +kernel)) (x_okc (snd_iload_n (k := 1) rfl (by decide +kernel)) (x_okc (snd_callv (M' := xm_114) rfl ko_8 rfl rfl rfl rfl wd_1014 wd_1011 wd_1013 wd_62 wd_37 (by decide +kernel) (Nat.le_of_ble_eq_true rfl) (Nat.le_of_ble_eq_true rfl) (by decide +kernel)) (x_okc (snd_istore_n (k := 3) rfl (by decide +kernel)) (x_okc (snd_iload_n (k := 3) rfl (by decide +kernel)) (x_okc (snd_if_lt (off := 23) (by decide) (by decide +kernel)) (x_okc (snd_aload_n (k := 0) rfl (by decide +kernel)) (x_okc (snd_gfr ko_8 (by decide) rfl (by decide) wd_812 (by decide +kernel)) (x_okc (snd_iload_n (k := 2) rfl (by decide +kernel)) (x_okc (snd_ald ka_48 rfl rfl (by decide) (by decide +kernel)) (x_okc (snd_aload_n (k := 0) rfl (by decide +kernel)) (x_okc (snd_gfr ko_8 (by decide) rfl (by decide) wd_793 (by decide +kernel)) (x_okc (snd_iload_n (k := 3) rfl (by decide +kernel)) (x_okc (snd_ald ka_30 rfl rfl (by decide) (by decide +kernel)) (x_okc (snd_calls (M' := xm_95) rfl rfl rfl rfl rfl wd_955 wd_953 wd_954 wd_62 (by decide +kernel) (Nat.le_of_ble_eq_true rfl) (Nat.le_of_ble_eq_true rfl) (by decide +kernel)) (x_okc (snd_iconst (n := 2) (by decide) (by decide +kernel)) (x_okc (snd_iadd (by decide +kernel)) (x_okc (snd_icmp_ge (off := 12) (by decide) (by decide +kernel)) (x_okc (snd_to) x_okn)))))))))))))))))))))))))))))
theorem o124_46 : x_okL x_xm xm_124 46 b124_46 := x_okc (snd_aload_n (k := 0) rfl (by decide +kernel)) (x_okc (snd_iload_n (k := 2) rfl (by decide +kernel)) (x_okc (snd_iconst (n := 5) (by decide) (by decide +kernel)) (x_okc (snd_callv (M' := xm_105) rfl ko_8 rfl rfl rfl rfl wd_1026 wd_1023 wd_1025 wd_62 wd_40 (by decide +kernel) (Nat.le_of_ble_eq_true rfl) (Nat.le_of_ble_eq_true rfl) (by decide +kernel)) (x_okc (snd_goto (off := 64) (by decide) (by decide +kernel)) x_okn))))
theorem o124_55 : x_okL x_xm xm_124 55 b124_55 := x_okc (snd_aload_n (k := 0) rfl (by decide +kernel)) (x_okc (snd_gfr ko_8 (by decide) rfl (by decide) wd_797 (by decide +kernel)) (x_okc (snd_iload_n (k := 3) rfl (by decide +kernel)) (x_okc (snd_bald ka_34 rfl rfl (by decide) (by decide +kernel)) (x_okc (snd_if_eq (off := 48) (by decide) (by decide +kernel)) (x_okc (snd_bipush (n := 8) (by decide) (by decide +kernel)) (x_okc (snd_iload_n (k := 2) rfl (by decide +kernel)) (x_okc (snd_imul (by decide +kernel)) (x_okc (snd_aload_n (k := 0) rfl (by decide +kernel)) (x_okc (snd_gfr ko_8 (by decide) rfl (by decide) wd_793 (by decide +kernel)) (x_okc (snd_iload_n (k := 3) rfl (by decide +kernel)) (x_okc (snd_ald ka_30 rfl rfl (by decide) (by decide +kernel)) (x_okc (snd_calls (M' := xm_95) rfl rfl rfl rfl rfl wd_955 wd_953 wd_954 wd_62 (by decide +kernel) (Nat.le_of_ble_eq_true rfl) (Nat.le_of_ble_eq_true rfl) (by decide +kernel)) (x_okc (snd_iadd (by decide +kernel)) (x_okc (snd_istore (by decide +kernel)) (x_okc (snd_aload_n (k := 0) rfl (by decide +kernel)) (x_okc (snd_iload_n (k := 2) rfl (by decide +kernel)) (x_okc (snd_iload_n (k := 1) rfl (by decide +kernel)) (x_okc (snd_bipush (n := 10) (by decide) (by decide +kernel)) (x_okc (snd_aload_n (k := 0) rfl (by decide +kernel)) (x_okc (snd_gfr ko_8 (by decide) rfl (by decide) wd_813 (by decide +kernel)) (x_okc (snd_iload (by decide +kernel)) (x_okc (snd_ald ka_49 rfl rfl (by decide) (by decide +kernel)) (x_okc (snd_imul (by decide +kernel)) (x_okc (snd_aload_n (k := 0) rfl (by decide +kernel)) (x_okc (snd_gfr ko_8 (by decide) rfl (by decide) wd_813 (by decide +kernel)) (x_okc (snd_iload (by decide +kernel)) (x_okc (snd_iconst (n := 1) (by decide) (by decide +kernel)) (x_okc (snd_iadd (by decide +kernel)) (x_okc (snd_ald ka_49 rfl rfl (by decide) (by decide +kernel)) (x_okc (snd_iadd (by decide +kernel)) (x_okc (snd_callv (M' := xm_121) rfl ko_8 rfl rfl rfl rfl wd_1046 wd_1043 wd_1045 wd_62 wd_44 (by decide +kernel) (Nat.le_of_ble_eq_true rfl) (Nat.le_of_ble_eq_true rfl) (by decide +kernel)) (x_okc (snd_goto (off := 10) (by decide) (by decide +kernel)) x_okn))))))))))))))))))))))))))))))))
theorem o124_109 : x_okL x_xm xm_124 109 b124_109 := x_okc (snd_aload_n (k := 0) rfl (by decide +kernel)) (x_okc (snd_iload_n (k := 2) rfl (by decide +kernel)) (x_okc (snd_iload_n (k := 1) rfl (by decide +kernel)) (x_okc (snd_iload_n (k := 3) rfl (by decide +kernel)) (x_okc (snd_callv (M' := xm_123) rfl ko_8 rfl rfl rfl rfl wd_1069 wd_1066 wd_1068 wd_62 wd_49 (by decide +kernel) (Nat.le_of_ble_eq_true rfl) (Nat.le_of_ble_eq_true rfl) (by decide +kernel)) (x_okc (snd_to) x_okn)))))
theorem o124_116 : x_okL x_xm xm_124 116 b124_116 := x_okc (snd_ret rfl (by decide +kernel)) x_okn
theorem o124 : ∀ q ∈ t124, x_okL x_xm xm_124 q.1 q.2 := List.forall_mem_cons.mpr ⟨o124_0, List.forall_mem_cons.mpr ⟨o124_46, List.forall_mem_cons.mpr ⟨o124_55, List.forall_mem_cons.mpr ⟨o124_109, List.forall_mem_cons.mpr ⟨o124_116, fun _ h => absurd h List.not_mem_nil⟩⟩⟩⟩⟩
theorem p124 : x_okM xm_124 := ⟨by decide, rfl, fun h => by cases h⟩
theorem o125_0 : x_okL x_xm xm_125 0 b125_0 := x_okc (snd_aload_n (k := 0) rfl (by decide +kernel)) (x_okc (snd_gfr ko_8 (by decide) rfl (by decide) wd_801 (by decide +kernel)) (x_okc (snd_iconst (n := 3) (by decide) (by decide +kernel)) (x_okc (snd_iload_n (k := 1) rfl (by decide +kernel)) (x_okc (snd_imul (by decide +kernel)) (x_okc (snd_iload_n (k := 2) rfl (by decide +kernel)) (x_okc (snd_iadd (by decide +kernel)) (x_okc (snd_ald ka_38 rfl rfl (by decide) (by decide +kernel)) (x_okc (snd_istore_n (k := 3) rfl (by decide +kernel)) (x_okc (snd_iload_n (k := 3) rfl (by decide +kernel)) (x_okc (snd_if_lt (off := 33) (by decide) (by decide +kernel)) (x_okc (snd_aload_n (k := 0) rfl (by decide +kernel)) (x_okc (snd_gfr ko_8 (by decide) rfl (by decide) wd_811 (by decide +kernel)) (x_okc (snd_iload_n (k := 3) rfl (by decide +kernel)) (x_okc (snd_ald ka_47 rfl rfl (by decide) (by decide +kernel)) (x_okc (snd_iconst (n := 3) (by decide) (by decide +kernel)) (x_okc (snd_icmp_ne (off := 23) (by decide) (by decide +kernel)) (x_okc (snd_aload_n (k := 0) rfl (by decide +kernel)) (x_okc (snd_gfr ko_8 (by decide) rfl (by decide) wd_814 (by decide +kernel)) (x_okc (snd_iload_n (k := 3) rfl (by decide +kernel)) (x_okc (snd_ald ka_50 rfl rfl (by decide) (by decide +kernel)) (x_okc (snd_iload_n (k := 1) rfl (by decide +kernel)) (x_okc (snd_icmp_ne (off := 13) (by decide) (by decide +kernel)) (x_okc (snd_aload_n (k := 0) rfl (by decide +kernel)) (x_okc (snd_gfr ko_8 (by decide) rfl (by decide) wd_815 (by decide +kernel)) (x_okc (snd_iload_n (k := 3) rfl (by decide +kernel)) (x_okc (snd_ald ka_51 rfl rfl (by decide) (by decide +kernel)) (x_okc (snd_iload_n (k := 2) rfl (by decide +kernel)) (x_okc (snd_icmp_eq (off := 4) (by decide) (by decide +kernel)) (x_okc (snd_to) x_okn)))))))))))))))))))))))))))))
theorem o125_45 : x_okL x_xm xm_125 45 b125_45 := x_okc (snd_ret rfl (by decide +kernel)) x_okn
theorem o125_46 : x_okL x_xm xm_125 46 b125_46 := x_okc (snd_aload_n (k := 0) rfl (by decide +kernel)) (x_okc (snd_gfr ko_8 (by decide) rfl (by decide) wd_816 (by decide +kernel)) (x_okc (snd_iload_n (k := 3) rfl (by decide +kernel)) (x_okc (snd_dup2 (by decide +kernel)) (x_okc (snd_ald ka_52 rfl rfl (by decide) (by decide +kernel)) (x_okc (snd_iconst (n := 1) (by decide) (by decide +kernel)) (x_okc (snd_isub (by decide +kernel)) (x_okc (snd_ast ka_52 rfl rfl (by decide) (by decide +kernel)) (x_okc (snd_aload_n (k := 0) rfl (by decide +kernel)) (x_okc (snd_gfr ko_8 (by decide) rfl (by decide) wd_816 (by decide +kernel)) (x_okc (snd_iload_n (k := 3) rfl (by decide +kernel)) (x_okc (snd_ald ka_52 rfl rfl (by decide) (by decide +kernel)) (x_okc (snd_if_ne (off := 41) (by decide) (by decide +kernel)) (x_okc (snd_aload_n (k := 0) rfl (by decide +kernel)) (x_okc (snd_iload_n (k := 3) rfl (by decide +kernel)) (x_okc (snd_sipush (n := 1000) (by decide) (by decide +kernel)) (x_okc (snd_iload_n (k := 1) rfl (by decide +kernel)) (x_okc (snd_imul (by decide +kernel)) (x_okc (snd_bipush (n := 30) (by decide) (by decide +kernel)) (x_okc (snd_iadd (by decide +kernel)) (x_okc (snd_iload_n (k := 2) rfl (by decide +kernel)) (x_okc (snd_iadd (by decide +kernel)) (x_okc (snd_callv (M' := xm_101) rfl ko_8 rfl rfl rfl rfl wd_1002 wd_999 wd_1001 wd_62 wd_35 (by decide +kernel) (Nat.le_of_ble_eq_true rfl) (Nat.le_of_ble_eq_true rfl) (by decide +kernel)) (x_okc (snd_aload_n (k := 0) rfl (by decide +kernel)) (x_okc (snd_gfr ko_8 (by decide) rfl (by decide) wd_815 (by decide +kernel)) (x_okc (snd_iload_n (k := 3) rfl (by decide +kernel)) (x_okc (snd_aload_n (k := 0) rfl (by decide +kernel)) (x_okc (snd_gfr ko_8 (by decide) rfl (by decide) wd_818 (by decide +kernel)) (x_okc (snd_iload_n (k := 3) rfl (by decide +kernel)) (x_okc (snd_ald ka_54 rfl rfl (by decide) (by decide +kernel)) (x_okc (snd_ast ka_51 rfl rfl (by decide) (by decide +kernel)) (x_okc (snd_aload_n (k := 0) rfl (by decide +kernel)) (x_okc (snd_iload_n (k := 3) rfl (by decide +kernel)) (x_okc (snd_aload_n (k := 0) rfl (by decide +kernel)) (x_okc (snd_gfr ko_8 (by decide) rfl (by decide) wd_817 (by decide +kernel)) (x_okc (snd_iload_n (k := 3) rfl (by decide +kernel)) (x_okc (snd_ald ka_53 rfl rfl (by decide) (by decide +kernel)) (x_okc (snd_callv (M' := xm_103) rfl ko_8 rfl rfl rfl rfl wd_1030 wd_1027 wd_1029 wd_62 wd_41 (by decide +kernel) (Nat.le_of_ble_eq_true rfl) (Nat.le_of_ble_eq_true rfl) (by decide +kernel)) (x_okc (snd_to) x_okn))))))))))))))))))))))))))))))))))))))
theorem o125_103 : x_okL x_xm xm_125 103 b125_103 := x_okc (snd_ret rfl (by decide +kernel)) x_okn
theorem o125 : ∀ q ∈ t125, x_okL x_xm xm_125 q.1 q.2 := List.forall_mem_cons.mpr ⟨o125_0, List.forall_mem_cons.mpr ⟨o125_45, List.forall_mem_cons.mpr ⟨o125_46, List.forall_mem_cons.mpr ⟨o125_103, fun _ h => absurd h List.not_mem_nil⟩⟩⟩⟩
theorem p125 : x_okM xm_125 := ⟨by decide, rfl, fun h => by cases h⟩
theorem o126_0 : x_okL x_xm xm_126 0 b126_0 := x_okc (snd_aload_n (k := 0) rfl (by decide +kernel)) (x_okc (snd_gfr ko_8 (by decide) rfl (by decide) wd_811 (by decide +kernel)) (x_okc (snd_iload_n (k := 1) rfl (by decide +kernel)) (x_okc (snd_ald ka_47 rfl rfl (by decide) (by decide +kernel)) (x_okc (snd_iconst (n := 1) (by decide) (by decide +kernel)) (x_okc (snd_icmp_ne (off := 33) (by decide) (by decide +kernel)) (x_okc (snd_aload_n (k := 0) rfl (by decide +kernel)) (x_okc (snd_gfr ko_8 (by decide) rfl (by decide) wd_820 (by decide +kernel)) (x_okc (snd_iload_n (k := 1) rfl (by decide +kernel)) (x_okc (snd_dup2 (by decide +kernel)) (x_okc (snd_ald ka_56 rfl rfl (by decide) (by decide +kernel)) (x_okc (snd_iconst (n := 1) (by decide) (by decide +kernel)) (x_okc (snd_iadd (by decide +kernel)) (x_okc (snd_ast ka_56 rfl rfl (by decide) (by decide +kernel)) (x_okc (snd_aload_n (k := 0) rfl (by decide +kernel)) (x_okc (snd_gfr ko_8 (by decide) rfl (by decide) wd_820 (by decide +kernel)) (x_okc (snd_iload_n (k := 1) rfl (by decide +kernel)) (x_okc (snd_ald ka_56 rfl rfl (by decide) (by decide +kernel)) (x_okc (snd_bipush (n := 20) (by decide) (by decide +kernel)) (x_okc (snd_icmp_ne (off := 142) (by decide) (by decide +kernel)) (x_okc (snd_aload_n (k := 0) rfl (by decide +kernel)) (x_okc (snd_iload_n (k := 1) rfl (by decide +kernel)) (x_okc (snd_iconst (n := 3) (by decide) (by decide +kernel)) (x_okc (snd_callv (M' := xm_105) rfl ko_8 rfl rfl rfl rfl wd_1026 wd_1023 wd_1025 wd_62 wd_40 (by decide +kernel) (Nat.le_of_ble_eq_true rfl) (Nat.le_of_ble_eq_true rfl) (by decide +kernel)) (x_okc (snd_goto (off := 133) (by decide) (by decide +kernel)) x_okn))))))))))))))))))))))))
theorem o126_40 : x_okL x_xm xm_126 40 b126_40 := x_okc (snd_aload_n (k := 0) rfl (by decide +kernel)) (x_okc (snd_gfr ko_8 (by decide) rfl (by decide) wd_811 (by decide +kernel)) (x_okc (snd_iload_n (k := 1) rfl (by decide +kernel)) (x_okc (snd_ald ka_47 rfl rfl (by decide) (by decide +kernel)) (x_okc (snd_iconst (n := 5) (by decide) (by decide +kernel)) (x_okc (snd_icmp_ne (off := 123) (by decide) (by decide +kernel)) (x_okc (snd_aload_n (k := 0) rfl (by decide +kernel)) (x_okc (snd_gfr ko_8 (by decide) rfl (by decide) wd_785 (by decide +kernel)) (x_okc (snd_aload_n (k := 0) rfl (by decide +kernel)) (x_okc (snd_gfr ko_8 (by decide) rfl (by decide) wd_821 (by decide +kernel)) (x_okc (snd_iload_n (k := 1) rfl (by decide +kernel)) (x_okc (snd_ald ka_57 rfl rfl (by decide) (by decide +kernel)) (x_okc (snd_bald ka_22 rfl rfl (by decide) (by decide +kernel)) (x_okc (snd_if_eq (off := 73) (by decide) (by decide +kernel)) (x_okc (snd_aload_n (k := 0) rfl (by decide +kernel)) (x_okc (snd_gfr ko_8 (by decide) rfl (by decide) wd_825 (by decide +kernel)) (x_okc (snd_iload_n (k := 1) rfl (by decide +kernel)) (x_okc (snd_dup2 (by decide +kernel)) (x_okc (snd_ald ka_61 rfl rfl (by decide) (by decide +kernel)) (x_okc (snd_iconst (n := 1) (by decide) (by decide +kernel)) (x_okc (snd_iadd (by decide +kernel)) (x_okc (snd_ast ka_61 rfl rfl (by decide) (by decide +kernel)) (x_okc (snd_aload_n (k := 0) rfl (by decide +kernel)) (x_okc (snd_gfr ko_8 (by decide) rfl (by decide) wd_795 (by decide +kernel)) (x_okc (snd_aload_n (k := 0) rfl (by decide +kernel)) (x_okc (snd_gfr ko_8 (by decide) rfl (by decide) wd_822 (by decide +kernel)) (x_okc (snd_iload_n (k := 1) rfl (by decide +kernel)) (x_okc (snd_ald ka_58 rfl rfl (by decide) (by decide +kernel)) (x_okc (snd_ald ka_32 rfl rfl (by decide) (by decide +kernel)) (x_okc (snd_istore_n (k := 2) rfl (by decide +kernel)) (x_okc (snd_iload_n (k := 2) rfl (by decide +kernel)) (x_okc (snd_if_le (off := 44) (by decide) (by decide +kernel)) (x_okc (snd_aload_n (k := 0) rfl (by decide +kernel)) (x_okc (snd_gfr ko_8 (by decide) rfl (by decide) wd_825 (by decide +kernel)) (x_okc (snd_iload_n (k := 1) rfl (by decide +kernel)) (x_okc (snd_ald ka_61 rfl rfl (by decide) (by decide +kernel)) (x_okc (snd_iload_n (k := 2) rfl (by decide +kernel)) (x_okc (snd_icmp_lt (off := 34) (by decide) (by decide +kernel)) (x_okc (snd_aload_n (k := 0) rfl (by decide +kernel)) (x_okc (snd_gfr ko_8 (by decide) rfl (by decide) wd_825 (by decide +kernel)) (x_okc (snd_iload_n (k := 1) rfl (by decide +kernel)) (x_okc (snd_iconst (n := 0) (by decide) (by decide +kernel)) (x_okc (snd_ast ka_61 rfl rfl (by decide) (by decide +kernel)) (x_okc (snd_aload_n (k := 0) rfl (by decide +kernel)) (x_okc (snd_gfr ko_8 (by decide) rfl (by decide) wd_788 (by decide +kernel)) (x_okc (snd_iload_n (k := 1) rfl (by decide +kernel)) (x_okc (snd_aload_n (k := 0) rfl (by decide +kernel)) (x_okc (snd_gfr ko_8 (by decide) rfl (by decide) wd_788 (by decide +kernel)) (x_okc (snd_iload_n (k := 1) rfl (by decide +kernel)) (x_okc (snd_ald ka_25 rfl rfl (by decide) (by decide +kernel)) (x_okc (snd_aload_n (k := 0) rfl (by decide +kernel)) (x_okc (snd_gfr ko_8 (by decide) rfl (by decide) wd_794 (by decide +kernel)) (x_okc (snd_aload_n (k := 0) rfl (by decide +kernel)) (x_okc (snd_gfr ko_8 (by decide) rfl (by decide) wd_822 (by decide +kernel)) (x_okc (snd_iload_n (k := 1) rfl (by decide +kernel)) (x_okc (snd_ald ka_58 rfl rfl (by decide) (by decide +kernel)) (x_okc (snd_ald ka_31 rfl rfl (by decide) (by decide +kernel)) (x_okc (snd_iadd (by decide +kernel)) (x_okc (snd_ast ka_25 rfl rfl (by decide) (by decide +kernel)) (x_okc (snd_to) x_okn)))))))))))))))))))))))))))))))))))))))))))))))))))))))))))
theorem o126_131 : x_okL x_xm xm_126 131 b126_131 := x_okc (snd_goto (off := 39) (by decide) (by decide +kernel)) x_okn
theorem o126_134 : x_okL x_xm xm_126 134 b126_134 := x_okc (snd_aload_n (k := 0) rfl (by decide +kernel)) (x_okc (snd_gfr ko_8 (by decide) rfl (by decide) wd_824 (by decide +kernel)) (x_okc (snd_iload_n (k := 1) rfl (by decide +kernel)) (x_okc (snd_bald ka_60 rfl rfl (by decide) (by decide +kernel)) (x_okc (snd_if_ne (off := 30) (by decide) (by decide +kernel)) (x_okc (snd_aload_n (k := 0) rfl (by decide +kernel)) (x_okc (snd_gfr ko_8 (by decide) rfl (by decide) wd_826 (by decide +kernel)) (x_okc (snd_iload_n (k := 1) rfl (by decide +kernel)) (x_okc (snd_dup2 (by decide +kernel)) (x_okc (snd_ald ka_62 rfl rfl (by decide) (by decide +kernel)) (x_okc (snd_iconst (n := 1) (by decide) (by decide +kernel)) (x_okc (snd_iadd (by decide +kernel)) (x_okc (snd_ast ka_62 rfl rfl (by decide) (by decide +kernel)) (x_okc (snd_aload_n (k := 0) rfl (by decide +kernel)) (x_okc (snd_gfr ko_8 (by decide) rfl (by decide) wd_826 (by decide +kernel)) (x_okc (snd_iload_n (k := 1) rfl (by decide +kernel)) (x_okc (snd_ald ka_62 rfl rfl (by decide) (by decide +kernel)) (x_okc (snd_bipush (n := 12) (by decide) (by decide +kernel)) (x_okc (snd_icmp_ne (off := 9) (by decide) (by decide +kernel)) (x_okc (snd_aload_n (k := 0) rfl (by decide +kernel)) (x_okc (snd_iload_n (k := 1) rfl (by decide +kernel)) (x_okc (snd_iconst (n := 3) (by decide) (by decide +kernel)) (x_okc (snd_callv (M' := xm_106) rfl ko_8 rfl rfl rfl rfl wd_994 wd_991 wd_993 wd_62 wd_33 (by decide +kernel) (Nat.le_of_ble_eq_true rfl) (Nat.le_of_ble_eq_true rfl) (by decide +kernel)) (x_okc (snd_to) x_okn)))))))))))))))))))))))
theorem o126_170 : x_okL x_xm xm_126 170 b126_170 := x_okc (snd_ret rfl (by decide +kernel)) x_okn
theorem o126 : ∀ q ∈ t126, x_okL x_xm xm_126 q.1 q.2 := List.forall_mem_cons.mpr ⟨o126_0, List.forall_mem_cons.mpr ⟨o126_40, List.forall_mem_cons.mpr ⟨o126_131, List.forall_mem_cons.mpr ⟨o126_134, List.forall_mem_cons.mpr ⟨o126_170, fun _ h => absurd h List.not_mem_nil⟩⟩⟩⟩⟩
theorem p126 : x_okM xm_126 := ⟨by decide, rfl, fun h => by cases h⟩
theorem o127_0 : x_okL x_xm xm_127 0 b127_0 := x_okc (snd_aload_n (k := 0) rfl (by decide +kernel)) (x_okc (snd_iload_n (k := 1) rfl (by decide +kernel)) (x_okc (snd_callv (M' := xm_107) rfl ko_8 rfl rfl rfl rfl wd_970 wd_967 wd_969 wd_62 wd_28 (by decide +kernel) (Nat.le_of_ble_eq_true rfl) (Nat.le_of_ble_eq_true rfl) (by decide +kernel)) (x_okc (snd_if_lt (off := 77) (by decide) (by decide +kernel)) (x_okc (snd_aload_n (k := 0) rfl (by decide +kernel)) (x_okc (snd_iload_n (k := 1) rfl (by decide +kernel)) (x_okc (snd_callv (M' := xm_108) rfl ko_8 rfl rfl rfl rfl wd_974 wd_971 wd_973 wd_62 wd_29 (by decide +kernel) (Nat.le_of_ble_eq_true rfl) (Nat.le_of_ble_eq_true rfl) (by decide +kernel)) (x_okc (snd_if_eq (off := 69) (by decide) (by decide +kernel)) (x_okc (snd_iconst (n := -1) (by decide) (by decide +kernel)) (x_okc (snd_istore_n (k := 2) rfl (by decide +kernel)) (x_okc (snd_bipush (n := 24) (by decide) (by decide +kernel)) (x_okc (snd_iload_n (k := 1) rfl (by decide +kernel)) (x_okc (snd_imul (by decide +kernel)) (x_okc (snd_istore_n (k := 3) rfl (by decide +kernel)) (x_okc (snd_to) x_okn))))))))))))))
theorem o127_23 : x_okL x_xm xm_127 23 b127_23 := x_okc (snd_iload_n (k := 3) rfl (by decide +kernel)) (x_okc (snd_bipush (n := 24) (by decide) (by decide +kernel)) (x_okc (snd_iload_n (k := 1) rfl (by decide +kernel)) (x_okc (snd_imul (by decide +kernel)) (x_okc (snd_bipush (n := 24) (by decide) (by decide +kernel)) (x_okc (snd_iadd (by decide +kernel)) (x_okc (snd_icmp_ge (off := 43) (by decide) (by decide +kernel)) (x_okc (snd_aload_n (k := 0) rfl (by decide +kernel)) (x_okc (snd_gfr ko_8 (by decide) rfl (by decide) wd_787 (by decide +kernel)) (x_okc (snd_iload_n (k := 3) rfl (by decide +kernel)) (x_okc (snd_ald ka_24 rfl rfl (by decide) (by decide +kernel)) (x_okc (snd_if_lt (off := 26) (by decide) (by decide +kernel)) (x_okc (snd_iload_n (k := 2) rfl (by decide +kernel)) (x_okc (snd_if_lt (off := 18) (by decide) (by decide +kernel)) (x_okc (snd_aload_n (k := 0) rfl (by decide +kernel)) (x_okc (snd_gfr ko_8 (by decide) rfl (by decide) wd_787 (by decide +kernel)) (x_okc (snd_iload_n (k := 3) rfl (by decide +kernel)) (x_okc (snd_ald ka_24 rfl rfl (by decide) (by decide +kernel)) (x_okc (snd_aload_n (k := 0) rfl (by decide +kernel)) (x_okc (snd_gfr ko_8 (by decide) rfl (by decide) wd_787 (by decide +kernel)) (x_okc (snd_iload_n (k := 2) rfl (by decide +kernel)) (x_okc (snd_ald ka_24 rfl rfl (by decide) (by decide +kernel)) (x_okc (snd_icmp_ge (off := 7) (by decide) (by decide +kernel)) (x_okc (snd_to) x_okn)))))))))))))))))))))))
theorem o127_62 : x_okL x_xm xm_127 62 b127_62 := x_okc (snd_iload_n (k := 3) rfl (by decide +kernel)) (x_okc (snd_goto (off := 4) (by decide) (by decide +kernel)) x_okn)
theorem o127_66 : x_okL x_xm xm_127 66 b127_66 := x_okc (snd_iload_n (k := 2) rfl (by decide +kernel)) (x_okc (snd_to) x_okn)
theorem o127_67 : x_okL x_xm xm_127 67 b127_67 := x_okc (snd_istore_n (k := 2) rfl (by decide +kernel)) (x_okc (snd_iinc (n := 1) (by decide) (by decide +kernel)) (x_okc (snd_goto (off := -48) (by decide) (by decide +kernel)) x_okn))
theorem o127_74 : x_okL x_xm xm_127 74 b127_74 := x_okc (snd_aload_n (k := 0) rfl (by decide +kernel)) (x_okc (snd_iload_n (k := 2) rfl (by decide +kernel)) (x_okc (snd_callv (M' := xm_109) rfl ko_8 rfl rfl rfl rfl wd_978 wd_975 wd_977 wd_62 wd_30 (by decide +kernel) (Nat.le_of_ble_eq_true rfl) (Nat.le_of_ble_eq_true rfl) (by decide +kernel)) (x_okc (snd_goto (off := -79) (by decide) (by decide +kernel)) x_okn)))
theorem o127_82 : x_okL x_xm xm_127 82 b127_82 := x_okc (snd_ret rfl (by decide +kernel)) x_okn
theorem o127 : ∀ q ∈ t127, x_okL x_xm xm_127 q.1 q.2 := List.forall_mem_cons.mpr ⟨o127_0, List.forall_mem_cons.mpr ⟨o127_23, List.forall_mem_cons.mpr ⟨o127_62, List.forall_mem_cons.mpr ⟨o127_66, List.forall_mem_cons.mpr ⟨o127_67, List.forall_mem_cons.mpr ⟨o127_74, List.forall_mem_cons.mpr ⟨o127_82, fun _ h => absurd h List.not_mem_nil⟩⟩⟩⟩⟩⟩⟩
theorem p127 : x_okM xm_127 := ⟨by decide, rfl, fun h => by cases h⟩
theorem o128_0 : x_okL x_xm xm_128 0 b128_0 := x_okc (snd_aload_n (k := 0) rfl (by decide +kernel)) (x_okc (snd_dup (by decide +kernel)) (x_okc (snd_gfi ko_8 (by decide) rfl wd_783 (by decide +kernel)) (x_okc (snd_iconst (n := 1) (by decide) (by decide +kernel)) (x_okc (snd_iadd (by decide +kernel)) (x_okc (snd_pfi ko_8 (by decide) rfl rfl wd_783 (Or.inl rfl) (by decide +kernel)) (x_okc (snd_iconst (n := 0) (by decide) (by decide +kernel)) (x_okc (snd_istore_n (k := 1) rfl (by decide +kernel)) (x_okc (snd_to) x_okn))))))))
theorem o128_12 : x_okL x_xm xm_128 12 b128_12 := x_okc (snd_iload_n (k := 1) rfl (by decide +kernel)) (x_okc (snd_iconst (n := 3) (by decide) (by decide +kernel)) (x_okc (snd_icmp_ge (off := 44) (by decide) (by decide +kernel)) (x_okc (snd_aload_n (k := 0) rfl (by decide +kernel)) (x_okc (snd_gfr ko_8 (by decide) rfl (by decide) wd_809 (by decide +kernel)) (x_okc (snd_iload_n (k := 1) rfl (by decide +kernel)) (x_okc (snd_ald ka_45 rfl rfl (by decide) (by decide +kernel)) (x_okc (snd_if_le (off := 29) (by decide) (by decide +kernel)) (x_okc (snd_aload_n (k := 0) rfl (by decide +kernel)) (x_okc (snd_gfr ko_8 (by decide) rfl (by decide) wd_823 (by decide +kernel)) (x_okc (snd_aload_n (k := 0) rfl (by decide +kernel)) (x_okc (snd_gfr ko_8 (by decide) rfl (by decide) wd_810 (by decide +kernel)) (x_okc (snd_bipush (n := 72) (by decide) (by decide +kernel)) (x_okc (snd_iload_n (k := 1) rfl (by decide +kernel)) (x_okc (snd_imul (by decide +kernel)) (x_okc (snd_ald ka_46 rfl rfl (by decide) (by decide +kernel)) (x_okc (snd_ald ka_59 rfl rfl (by decide) (by decide +kernel)) (x_okc (snd_aload_n (k := 0) rfl (by decide +kernel)) (x_okc (snd_gfi ko_8 (by decide) rfl wd_783 (by decide +kernel)) (x_okc (snd_icmp_ge (off := 8) (by decide) (by decide +kernel)) (x_okc (snd_aload_n (k := 0) rfl (by decide +kernel)) (x_okc (snd_iload_n (k := 1) rfl (by decide +kernel)) (x_okc (snd_callv (M' := xm_124) rfl ko_8 rfl rfl rfl rfl wd_1042 wd_1039 wd_1041 wd_62 wd_43 (by decide +kernel) (Nat.le_of_ble_eq_true rfl) (Nat.le_of_ble_eq_true rfl) (by decide +kernel)) (x_okc (snd_to) x_okn)))))))))))))))))))))))
theorem o128_52 : x_okL x_xm xm_128 52 b128_52 := x_okc (snd_iinc (n := 1) (by decide) (by decide +kernel)) (x_okc (snd_goto (off := -43) (by decide) (by decide +kernel)) x_okn)
theorem o128_58 : x_okL x_xm xm_128 58 b128_58 := x_okc (snd_iconst (n := 0) (by decide) (by decide +kernel)) (x_okc (snd_istore_n (k := 1) rfl (by decide +kernel)) (x_okc (snd_to) x_okn))
theorem o128_60 : x_okL x_xm xm_128 60 b128_60 := x_okc (snd_iload_n (k := 1) rfl (by decide +kernel)) (x_okc (snd_bipush (n := 9) (by decide) (by decide +kernel)) (x_okc (snd_icmp_ge (off := 19) (by decide) (by decide +kernel)) (x_okc (snd_aload_n (k := 0) rfl (by decide +kernel)) (x_okc (snd_iload_n (k := 1) rfl (by decide +kernel)) (x_okc (snd_iconst (n := 3) (by decide) (by decide +kernel)) (x_okc (snd_idiv (by decide +kernel)) (x_okc (snd_iload_n (k := 1) rfl (by decide +kernel)) (x_okc (snd_iconst (n := 3) (by decide) (by decide +kernel)) (x_okc (snd_irem (by decide +kernel)) (x_okc (snd_callv (M' := xm_125) rfl ko_8 rfl rfl rfl rfl wd_1077 wd_1074 wd_1076 wd_62 wd_51 (by decide +kernel) (Nat.le_of_ble_eq_true rfl) (Nat.le_of_ble_eq_true rfl) (by decide +kernel)) (x_okc (snd_iinc (n := 1) (by decide) (by decide +kernel)) (x_okc (snd_goto (off := -19) (by decide) (by decide +kernel)) x_okn))))))))))))
theorem o128_82 : x_okL x_xm xm_128 82 b128_82 := x_okc (snd_iconst (n := 0) (by decide) (by decide +kernel)) (x_okc (snd_istore_n (k := 1) rfl (by decide +kernel)) (x_okc (snd_to) x_okn))
theorem o128_84 : x_okL x_xm xm_128 84 b128_84 := x_okc (snd_iload_n (k := 1) rfl (by decide +kernel)) (x_okc (snd_bipush (n := 72) (by decide) (by decide +kernel)) (x_okc (snd_icmp_ge (off := 14) (by decide) (by decide +kernel)) (x_okc (snd_aload_n (k := 0) rfl (by decide +kernel)) (x_okc (snd_iload_n (k := 1) rfl (by decide +kernel)) (x_okc (snd_callv (M' := xm_126) rfl ko_8 rfl rfl rfl rfl wd_1081 wd_1078 wd_1080 wd_62 wd_52 (by decide +kernel) (Nat.le_of_ble_eq_true rfl) (Nat.le_of_ble_eq_true rfl) (by decide +kernel)) (x_okc (snd_iinc (n := 1) (by decide) (by decide +kernel)) (x_okc (snd_goto (off := -14) (by decide) (by decide +kernel)) x_okn)))))))
theorem o128_101 : x_okL x_xm xm_128 101 b128_101 := x_okc (snd_iconst (n := 0) (by decide) (by decide +kernel)) (x_okc (snd_istore_n (k := 1) rfl (by decide +kernel)) (x_okc (snd_to) x_okn))
theorem o128_103 : x_okL x_xm xm_128 103 b128_103 := x_okc (snd_iload_n (k := 1) rfl (by decide +kernel)) (x_okc (snd_iconst (n := 3) (by decide) (by decide +kernel)) (x_okc (snd_icmp_ge (off := 14) (by decide) (by decide +kernel)) (x_okc (snd_aload_n (k := 0) rfl (by decide +kernel)) (x_okc (snd_iload_n (k := 1) rfl (by decide +kernel)) (x_okc (snd_callv (M' := xm_127) rfl ko_8 rfl rfl rfl rfl wd_1085 wd_1082 wd_1084 wd_62 wd_53 (by decide +kernel) (Nat.le_of_ble_eq_true rfl) (Nat.le_of_ble_eq_true rfl) (by decide +kernel)) (x_okc (snd_iinc (n := 1) (by decide) (by decide +kernel)) (x_okc (snd_goto (off := -13) (by decide) (by decide +kernel)) x_okn)))))))
theorem o128_119 : x_okL x_xm xm_128 119 b128_119 := x_okc (snd_ret rfl (by decide +kernel)) x_okn
theorem o128 : ∀ q ∈ t128, x_okL x_xm xm_128 q.1 q.2 := List.forall_mem_cons.mpr ⟨o128_0, List.forall_mem_cons.mpr ⟨o128_12, List.forall_mem_cons.mpr ⟨o128_52, List.forall_mem_cons.mpr ⟨o128_58, List.forall_mem_cons.mpr ⟨o128_60, List.forall_mem_cons.mpr ⟨o128_82, List.forall_mem_cons.mpr ⟨o128_84, List.forall_mem_cons.mpr ⟨o128_101, List.forall_mem_cons.mpr ⟨o128_103, List.forall_mem_cons.mpr ⟨o128_119, fun _ h => absurd h List.not_mem_nil⟩⟩⟩⟩⟩⟩⟩⟩⟩⟩
theorem p128 : x_okM xm_128 := ⟨by decide, rfl, fun h => by cases h⟩
theorem o129_0 : x_okL x_xm xm_129 0 b129_0 := x_okc (snd_aload_n (k := 0) rfl (by decide +kernel)) (x_okc (snd_iload_n (k := 1) rfl (by decide +kernel)) (x_okc (snd_iconst (n := 1) (by decide) (by decide +kernel)) (x_okc (snd_bipush (n := 100) (by decide) (by decide +kernel)) (x_okc (snd_calls (M' := xm_92) rfl rfl rfl rfl rfl wd_941 wd_939 wd_940 wd_62 (by decide +kernel) (Nat.le_of_ble_eq_true rfl) (Nat.le_of_ble_eq_true rfl) (by decide +kernel)) (x_okc (snd_if_eq (off := 7) (by decide) (by decide +kernel)) (x_okc (snd_iconst (n := 0) (by decide) (by decide +kernel)) (x_okc (snd_goto (off := 4) (by decide) (by decide +kernel)) x_okn)))))))
theorem o129_15 : x_okL x_xm xm_129 15 b129_15 := x_okc (snd_iconst (n := 1) (by decide) (by decide +kernel)) (x_okc (snd_to) x_okn)
theorem o129_16 : x_okL x_xm xm_129 16 b129_16 := x_okc (snd_callv (M' := xm_91) rfl ko_8 rfl rfl rfl rfl wd_945 wd_942 wd_944 wd_62 wd_27 (by decide +kernel) (Nat.le_of_ble_eq_true rfl) (Nat.le_of_ble_eq_true rfl) (by decide +kernel)) (x_okc (snd_if_eq (off := 4) (by decide) (by decide +kernel)) (x_okc (snd_ret rfl (by decide +kernel)) x_okn))
theorem o129_23 : x_okL x_xm xm_129 23 b129_23 := x_okc (snd_iconst (n := 0) (by decide) (by decide +kernel)) (x_okc (snd_istore_n (k := 2) rfl (by decide +kernel)) (x_okc (snd_to) x_okn))
theorem o129_25 : x_okL x_xm xm_129 25 b129_25 := x_okc (snd_iload_n (k := 2) rfl (by decide +kernel)) (x_okc (snd_iload_n (k := 1) rfl (by decide +kernel)) (x_okc (snd_icmp_ge (off := 13) (by decide) (by decide +kernel)) (x_okc (snd_aload_n (k := 0) rfl (by decide +kernel)) (x_okc (snd_callv (M' := xm_128) rfl ko_8 rfl rfl rfl rfl wd_1038 wd_1035 wd_1037 wd_62 wd_42 (by decide +kernel) (Nat.le_of_ble_eq_true rfl) (Nat.le_of_ble_eq_true rfl) (by decide +kernel)) (x_okc (snd_iinc (n := 1) (by decide) (by decide +kernel)) (x_okc (snd_goto (off := -12) (by decide) (by decide +kernel)) x_okn))))))
theorem o129_40 : x_okL x_xm xm_129 40 b129_40 := x_okc (snd_ret rfl (by decide +kernel)) x_okn
theorem o129 : ∀ q ∈ t129, x_okL x_xm xm_129 q.1 q.2 := List.forall_mem_cons.mpr ⟨o129_0, List.forall_mem_cons.mpr ⟨o129_15, List.forall_mem_cons.mpr ⟨o129_16, List.forall_mem_cons.mpr ⟨o129_23, List.forall_mem_cons.mpr ⟨o129_25, List.forall_mem_cons.mpr ⟨o129_40, fun _ h => absurd h List.not_mem_nil⟩⟩⟩⟩⟩⟩
theorem p129 : x_okM xm_129 := ⟨by decide, rfl, fun h => by cases h⟩
theorem o130_0 : x_okL x_xm xm_130 0 b130_0 := x_okc (snd_aload_n (k := 0) rfl (by decide +kernel)) (x_okc (snd_iload_n (k := 1) rfl (by decide +kernel)) (x_okc (snd_iconst (n := 0) (by decide) (by decide +kernel)) (x_okc (snd_aload_n (k := 0) rfl (by decide +kernel)) (x_okc (snd_gfi ko_8 (by decide) rfl wd_802 (by decide +kernel)) (x_okc (snd_iconst (n := 1) (by decide) (by decide +kernel)) (x_okc (snd_isub (by decide +kernel)) (x_okc (snd_calls (M' := xm_92) rfl rfl rfl rfl rfl wd_941 wd_939 wd_940 wd_62 (by decide +kernel) (Nat.le_of_ble_eq_true rfl) (Nat.le_of_ble_eq_true rfl) (by decide +kernel)) (x_okc (snd_if_eq (off := 7) (by decide) (by decide +kernel)) (x_okc (snd_iconst (n := 0) (by decide) (by decide +kernel)) (x_okc (snd_goto (off := 4) (by decide) (by decide +kernel)) x_okn))))))))))
theorem o130_19 : x_okL x_xm xm_130 19 b130_19 := x_okc (snd_iconst (n := 1) (by decide) (by decide +kernel)) (x_okc (snd_to) x_okn)
theorem o130_20 : x_okL x_xm xm_130 20 b130_20 := x_okc (snd_callv (M' := xm_91) rfl ko_8 rfl rfl rfl rfl wd_945 wd_942 wd_944 wd_62 wd_27 (by decide +kernel) (Nat.le_of_ble_eq_true rfl) (Nat.le_of_ble_eq_true rfl) (by decide +kernel)) (x_okc (snd_if_eq (off := 5) (by decide) (by decide +kernel)) (x_okc (snd_iconst (n := 0) (by decide) (by decide +kernel)) (x_okc (snd_zret rfl (by decide +kernel)) x_okn)))
theorem o130_28 : x_okL x_xm xm_130 28 b130_28 := x_okc (snd_aload_n (k := 0) rfl (by decide +kernel)) (x_okc (snd_gfr ko_8 (by decide) rfl (by decide) wd_806 (by decide +kernel)) (x_okc (snd_iload_n (k := 1) rfl (by decide +kernel)) (x_okc (snd_bald ka_42 rfl rfl (by decide) (by decide +kernel)) (x_okc (snd_istore_n (k := 3) rfl (by decide +kernel)) (x_okc (snd_aload_n (k := 0) rfl (by decide +kernel)) (x_okc (snd_gfr ko_8 (by decide) rfl (by decide) wd_806 (by decide +kernel)) (x_okc (snd_iload_n (k := 1) rfl (by decide +kernel)) (x_okc (snd_iload_n (k := 2) rfl (by decide +kernel)) (x_okc (snd_zst ka_42 rfl rfl (by decide) (by decide +kernel)) (x_okc (snd_iload_n (k := 2) rfl (by decide +kernel)) (x_okc (snd_if_eq (off := 23) (by decide) (by decide +kernel)) (x_okc (snd_aload_n (k := 0) rfl (by decide +kernel)) (x_okc (snd_gfr ko_8 (by decide) rfl (by decide) wd_805 (by decide +kernel)) (x_okc (snd_iload_n (k := 1) rfl (by decide +kernel)) (x_okc (snd_ald ka_41 rfl rfl (by decide) (by decide +kernel)) (x_okc (snd_if_lt (off := 14) (by decide) (by decide +kernel)) (x_okc (snd_aload_n (k := 0) rfl (by decide +kernel)) (x_okc (snd_aload_n (k := 0) rfl (by decide +kernel)) (x_okc (snd_gfr ko_8 (by decide) rfl (by decide) wd_805 (by decide +kernel)) (x_okc (snd_iload_n (k := 1) rfl (by decide +kernel)) (x_okc (snd_ald ka_41 rfl rfl (by decide) (by decide +kernel)) (x_okc (snd_iconst (n := 4) (by decide) (by decide +kernel)) (x_okc (snd_callv (M' := xm_106) rfl ko_8 rfl rfl rfl rfl wd_994 wd_991 wd_993 wd_62 wd_33 (by decide +kernel) (Nat.le_of_ble_eq_true rfl) (Nat.le_of_ble_eq_true rfl) (by decide +kernel)) (x_okc (snd_to) x_okn))))))))))))))))))))))))
theorem o130_66 : x_okL x_xm xm_130 66 b130_66 := x_okc (snd_iload_n (k := 3) rfl (by decide +kernel)) (x_okc (snd_zret rfl (by decide +kernel)) x_okn)
theorem o130 : ∀ q ∈ t130, x_okL x_xm xm_130 q.1 q.2 := List.forall_mem_cons.mpr ⟨o130_0, List.forall_mem_cons.mpr ⟨o130_19, List.forall_mem_cons.mpr ⟨o130_20, List.forall_mem_cons.mpr ⟨o130_28, List.forall_mem_cons.mpr ⟨o130_66, fun _ h => absurd h List.not_mem_nil⟩⟩⟩⟩⟩
theorem p130 : x_okM xm_130 := ⟨by decide, rfl, fun h => by cases h⟩
theorem o131_0 : x_okL x_xm xm_131 0 b131_0 := x_okc (snd_aload_n (k := 0) rfl (by decide +kernel)) (x_okc (snd_iload_n (k := 1) rfl (by decide +kernel)) (x_okc (snd_iload_n (k := 2) rfl (by decide +kernel)) (x_okc (snd_calls (M' := xm_93) rfl rfl rfl rfl rfl wd_962 wd_960 wd_961 wd_62 (by decide +kernel) (Nat.le_of_ble_eq_true rfl) (Nat.le_of_ble_eq_true rfl) (by decide +kernel)) (x_okc (snd_if_eq (off := 7) (by decide) (by decide +kernel)) (x_okc (snd_iconst (n := 0) (by decide) (by decide +kernel)) (x_okc (snd_goto (off := 4) (by decide) (by decide +kernel)) x_okn))))))
theorem o131_13 : x_okL x_xm xm_131 13 b131_13 := x_okc (snd_iconst (n := 1) (by decide) (by decide +kernel)) (x_okc (snd_to) x_okn)
theorem o131_14 : x_okL x_xm xm_131 14 b131_14 := x_okc (snd_callv (M' := xm_91) rfl ko_8 rfl rfl rfl rfl wd_945 wd_942 wd_944 wd_62 wd_27 (by decide +kernel) (Nat.le_of_ble_eq_true rfl) (Nat.le_of_ble_eq_true rfl) (by decide +kernel)) (x_okc (snd_if_eq (off := 5) (by decide) (by decide +kernel)) (x_okc (snd_iconst (n := 0) (by decide) (by decide +kernel)) (x_okc (snd_zret rfl (by decide +kernel)) x_okn)))
theorem o131_22 : x_okL x_xm xm_131 22 b131_22 := x_okc (snd_aload_n (k := 0) rfl (by decide +kernel)) (x_okc (snd_gfr ko_8 (by decide) rfl (by decide) wd_791 (by decide +kernel)) (x_okc (snd_bipush (n := 24) (by decide) (by decide +kernel)) (x_okc (snd_iload_n (k := 1) rfl (by decide +kernel)) (x_okc (snd_imul (by decide +kernel)) (x_okc (snd_iload_n (k := 2) rfl (by decide +kernel)) (x_okc (snd_iadd (by decide +kernel)) (x_okc (snd_ald ka_28 rfl rfl (by decide) (by decide +kernel)) (x_okc (snd_istore (by decide +kernel)) (x_okc (snd_iload (by decide +kernel)) (x_okc (snd_if_lt (off := 14) (by decide) (by decide +kernel)) (x_okc (snd_aload_n (k := 0) rfl (by decide +kernel)) (x_okc (snd_gfr ko_8 (by decide) rfl (by decide) wd_811 (by decide +kernel)) (x_okc (snd_iload (by decide +kernel)) (x_okc (snd_ald ka_47 rfl rfl (by decide) (by decide +kernel)) (x_okc (snd_iconst (n := 5) (by decide) (by decide +kernel)) (x_okc (snd_icmp_eq (off := 5) (by decide) (by decide +kernel)) (x_okc (snd_to) x_okn)))))))))))))))))
theorem o131_51 : x_okL x_xm xm_131 51 b131_51 := x_okc (snd_iconst (n := 0) (by decide) (by decide +kernel)) (x_okc (snd_zret rfl (by decide +kernel)) x_okn)
theorem o131_53 : x_okL x_xm xm_131 53 b131_53 := x_okc (snd_aload_n (k := 0) rfl (by decide +kernel)) (x_okc (snd_gfr ko_8 (by decide) rfl (by decide) wd_824 (by decide +kernel)) (x_okc (snd_iload (by decide +kernel)) (x_okc (snd_iload_n (k := 3) rfl (by decide +kernel)) (x_okc (snd_zst ka_60 rfl rfl (by decide) (by decide +kernel)) (x_okc (snd_iload_n (k := 3) rfl (by decide +kernel)) (x_okc (snd_if_ne (off := 20) (by decide) (by decide +kernel)) (x_okc (snd_aload_n (k := 0) rfl (by decide +kernel)) (x_okc (snd_gfr ko_8 (by decide) rfl (by decide) wd_785 (by decide +kernel)) (x_okc (snd_iload (by decide +kernel)) (x_okc (snd_bald ka_22 rfl rfl (by decide) (by decide +kernel)) (x_okc (snd_if_ne (off := 10) (by decide) (by decide +kernel)) (x_okc (snd_aload_n (k := 0) rfl (by decide +kernel)) (x_okc (snd_iload (by decide +kernel)) (x_okc (snd_iconst (n := 3) (by decide) (by decide +kernel)) (x_okc (snd_callv (M' := xm_106) rfl ko_8 rfl rfl rfl rfl wd_994 wd_991 wd_993 wd_62 wd_33 (by decide +kernel) (Nat.le_of_ble_eq_true rfl) (Nat.le_of_ble_eq_true rfl) (by decide +kernel)) (x_okc (snd_to) x_okn))))))))))))))))
theorem o131_82 : x_okL x_xm xm_131 82 b131_82 := x_okc (snd_iconst (n := 1) (by decide) (by decide +kernel)) (x_okc (snd_zret rfl (by decide +kernel)) x_okn)
theorem o131 : ∀ q ∈ t131, x_okL x_xm xm_131 q.1 q.2 := List.forall_mem_cons.mpr ⟨o131_0, List.forall_mem_cons.mpr ⟨o131_13, List.forall_mem_cons.mpr ⟨o131_14, List.forall_mem_cons.mpr ⟨o131_22, List.forall_mem_cons.mpr ⟨o131_51, List.forall_mem_cons.mpr ⟨o131_53, List.forall_mem_cons.mpr ⟨o131_82, fun _ h => absurd h List.not_mem_nil⟩⟩⟩⟩⟩⟩⟩
theorem p131 : x_okM xm_131 := ⟨by decide, rfl, fun h => by cases h⟩
theorem o132_0 : x_okL x_xm xm_132 0 b132_0 := x_okc (snd_aload_n (k := 0) rfl (by decide +kernel)) (x_okc (snd_iload_n (k := 1) rfl (by decide +kernel)) (x_okc (snd_iload_n (k := 2) rfl (by decide +kernel)) (x_okc (snd_calls (M' := xm_93) rfl rfl rfl rfl rfl wd_962 wd_960 wd_961 wd_62 (by decide +kernel) (Nat.le_of_ble_eq_true rfl) (Nat.le_of_ble_eq_true rfl) (by decide +kernel)) (x_okc (snd_if_eq (off := 7) (by decide) (by decide +kernel)) (x_okc (snd_iconst (n := 0) (by decide) (by decide +kernel)) (x_okc (snd_goto (off := 4) (by decide) (by decide +kernel)) x_okn))))))
theorem o132_13 : x_okL x_xm xm_132 13 b132_13 := x_okc (snd_iconst (n := 1) (by decide) (by decide +kernel)) (x_okc (snd_to) x_okn)
theorem o132_14 : x_okL x_xm xm_132 14 b132_14 := x_okc (snd_callv (M' := xm_91) rfl ko_8 rfl rfl rfl rfl wd_945 wd_942 wd_944 wd_62 wd_27 (by decide +kernel) (Nat.le_of_ble_eq_true rfl) (Nat.le_of_ble_eq_true rfl) (by decide +kernel)) (x_okc (snd_if_eq (off := 5) (by decide) (by decide +kernel)) (x_okc (snd_iconst (n := 0) (by decide) (by decide +kernel)) (x_okc (snd_iret rfl (by decide +kernel)) x_okn)))
theorem o132_22 : x_okL x_xm xm_132 22 b132_22 := x_okc (snd_bipush (n := 24) (by decide) (by decide +kernel)) (x_okc (snd_iload_n (k := 1) rfl (by decide +kernel)) (x_okc (snd_imul (by decide +kernel)) (x_okc (snd_iload_n (k := 2) rfl (by decide +kernel)) (x_okc (snd_iadd (by decide +kernel)) (x_okc (snd_istore_n (k := 3) rfl (by decide +kernel)) (x_okc (snd_aload_n (k := 0) rfl (by decide +kernel)) (x_okc (snd_gfr ko_8 (by decide) rfl (by decide) wd_811 (by decide +kernel)) (x_okc (snd_iload_n (k := 3) rfl (by decide +kernel)) (x_okc (snd_ald ka_47 rfl rfl (by decide) (by decide +kernel)) (x_okc (snd_iconst (n := 1) (by decide) (by decide +kernel)) (x_okc (snd_icmp_ne (off := 16) (by decide) (by decide +kernel)) (x_okc (snd_aload_n (k := 0) rfl (by decide +kernel)) (x_okc (snd_gfr ko_8 (by decide) rfl (by decide) wd_812 (by decide +kernel)) (x_okc (snd_iload_n (k := 3) rfl (by decide +kernel)) (x_okc (snd_ald ka_48 rfl rfl (by decide) (by decide +kernel)) (x_okc (snd_if_ne (off := 7) (by decide) (by decide +kernel)) (x_okc (snd_iconst (n := 1) (by decide) (by decide +kernel)) (x_okc (snd_goto (off := 23) (by decide) (by decide +kernel)) x_okn))))))))))))))))))
theorem o132_52 : x_okL x_xm xm_132 52 b132_52 := x_okc (snd_aload_n (k := 0) rfl (by decide +kernel)) (x_okc (snd_gfr ko_8 (by decide) rfl (by decide) wd_811 (by decide +kernel)) (x_okc (snd_iload_n (k := 3) rfl (by decide +kernel)) (x_okc (snd_ald ka_47 rfl rfl (by decide) (by decide +kernel)) (x_okc (snd_iconst (n := 4) (by decide) (by decide +kernel)) (x_okc (snd_icmp_ne (off := 7) (by decide) (by decide +kernel)) (x_okc (snd_iconst (n := 2) (by decide) (by decide +kernel)) (x_okc (snd_goto (off := 9) (by decide) (by decide +kernel)) x_okn)))))))
theorem o132_66 : x_okL x_xm xm_132 66 b132_66 := x_okc (snd_aload_n (k := 0) rfl (by decide +kernel)) (x_okc (snd_gfr ko_8 (by decide) rfl (by decide) wd_786 (by decide +kernel)) (x_okc (snd_iload_n (k := 3) rfl (by decide +kernel)) (x_okc (snd_ald ka_23 rfl rfl (by decide) (by decide +kernel)) (x_okc (snd_to) x_okn))))
theorem o132_72 : x_okL x_xm xm_132 72 b132_72 := x_okc (snd_iret rfl (by decide +kernel)) x_okn
theorem o132 : ∀ q ∈ t132, x_okL x_xm xm_132 q.1 q.2 := List.forall_mem_cons.mpr ⟨o132_0, List.forall_mem_cons.mpr ⟨o132_13, List.forall_mem_cons.mpr ⟨o132_14, List.forall_mem_cons.mpr ⟨o132_22, List.forall_mem_cons.mpr ⟨o132_52, List.forall_mem_cons.mpr ⟨o132_66, List.forall_mem_cons.mpr ⟨o132_72, fun _ h => absurd h List.not_mem_nil⟩⟩⟩⟩⟩⟩⟩
theorem p132 : x_okM xm_132 := ⟨by decide, rfl, fun h => by cases h⟩
theorem o133_0 : x_okL x_xm xm_133 0 b133_0 := x_okc (snd_aload_n (k := 0) rfl (by decide +kernel)) (x_okc (snd_iload_n (k := 1) rfl (by decide +kernel)) (x_okc (snd_iload_n (k := 2) rfl (by decide +kernel)) (x_okc (snd_calls (M' := xm_93) rfl rfl rfl rfl rfl wd_962 wd_960 wd_961 wd_62 (by decide +kernel) (Nat.le_of_ble_eq_true rfl) (Nat.le_of_ble_eq_true rfl) (by decide +kernel)) (x_okc (snd_if_eq (off := 7) (by decide) (by decide +kernel)) (x_okc (snd_iconst (n := 0) (by decide) (by decide +kernel)) (x_okc (snd_goto (off := 4) (by decide) (by decide +kernel)) x_okn))))))
theorem o133_13 : x_okL x_xm xm_133 13 b133_13 := x_okc (snd_iconst (n := 1) (by decide) (by decide +kernel)) (x_okc (snd_to) x_okn)
theorem o133_14 : x_okL x_xm xm_133 14 b133_14 := x_okc (snd_callv (M' := xm_91) rfl ko_8 rfl rfl rfl rfl wd_945 wd_942 wd_944 wd_62 wd_27 (by decide +kernel) (Nat.le_of_ble_eq_true rfl) (Nat.le_of_ble_eq_true rfl) (by decide +kernel)) (x_okc (snd_if_eq (off := 5) (by decide) (by decide +kernel)) (x_okc (snd_iconst (n := 0) (by decide) (by decide +kernel)) (x_okc (snd_zret rfl (by decide +kernel)) x_okn)))
theorem o133_22 : x_okL x_xm xm_133 22 b133_22 := x_okc (snd_aload_n (k := 0) rfl (by decide +kernel)) (x_okc (snd_gfr ko_8 (by decide) rfl (by decide) wd_791 (by decide +kernel)) (x_okc (snd_bipush (n := 24) (by decide) (by decide +kernel)) (x_okc (snd_iload_n (k := 1) rfl (by decide +kernel)) (x_okc (snd_imul (by decide +kernel)) (x_okc (snd_iload_n (k := 2) rfl (by decide +kernel)) (x_okc (snd_iadd (by decide +kernel)) (x_okc (snd_ald ka_28 rfl rfl (by decide) (by decide +kernel)) (x_okc (snd_istore_n (k := 3) rfl (by decide +kernel)) (x_okc (snd_iload_n (k := 3) rfl (by decide +kernel)) (x_okc (snd_if_lt (off := 17) (by decide) (by decide +kernel)) (x_okc (snd_aload_n (k := 0) rfl (by decide +kernel)) (x_okc (snd_gfr ko_8 (by decide) rfl (by decide) wd_811 (by decide +kernel)) (x_okc (snd_iload_n (k := 3) rfl (by decide +kernel)) (x_okc (snd_ald ka_47 rfl rfl (by decide) (by decide +kernel)) (x_okc (snd_iconst (n := 4) (by decide) (by decide +kernel)) (x_okc (snd_icmp_ne (off := 7) (by decide) (by decide +kernel)) (x_okc (snd_iconst (n := 1) (by decide) (by decide +kernel)) (x_okc (snd_goto (off := 4) (by decide) (by decide +kernel)) x_okn))))))))))))))))))
theorem o133_52 : x_okL x_xm xm_133 52 b133_52 := x_okc (snd_iconst (n := 0) (by decide) (by decide +kernel)) (x_okc (snd_to) x_okn)
theorem o133_53 : x_okL x_xm xm_133 53 b133_53 := x_okc (snd_zret rfl (by decide +kernel)) x_okn
theorem o133 : ∀ q ∈ t133, x_okL x_xm xm_133 q.1 q.2 := List.forall_mem_cons.mpr ⟨o133_0, List.forall_mem_cons.mpr ⟨o133_13, List.forall_mem_cons.mpr ⟨o133_14, List.forall_mem_cons.mpr ⟨o133_22, List.forall_mem_cons.mpr ⟨o133_52, List.forall_mem_cons.mpr ⟨o133_53, fun _ h => absurd h List.not_mem_nil⟩⟩⟩⟩⟩⟩
theorem p133 : x_okM xm_133 := ⟨by decide, rfl, fun h => by cases h⟩
theorem o134_0 : x_okL x_xm xm_134 0 b134_0 := x_okc (snd_aload_n (k := 0) rfl (by decide +kernel)) (x_okc (snd_iload_n (k := 1) rfl (by decide +kernel)) (x_okc (snd_iload_n (k := 2) rfl (by decide +kernel)) (x_okc (snd_calls (M' := xm_93) rfl rfl rfl rfl rfl wd_962 wd_960 wd_961 wd_62 (by decide +kernel) (Nat.le_of_ble_eq_true rfl) (Nat.le_of_ble_eq_true rfl) (by decide +kernel)) (x_okc (snd_if_eq (off := 7) (by decide) (by decide +kernel)) (x_okc (snd_iconst (n := 0) (by decide) (by decide +kernel)) (x_okc (snd_goto (off := 4) (by decide) (by decide +kernel)) x_okn))))))
theorem o134_13 : x_okL x_xm xm_134 13 b134_13 := x_okc (snd_iconst (n := 1) (by decide) (by decide +kernel)) (x_okc (snd_to) x_okn)
theorem o134_14 : x_okL x_xm xm_134 14 b134_14 := x_okc (snd_callv (M' := xm_91) rfl ko_8 rfl rfl rfl rfl wd_945 wd_942 wd_944 wd_62 wd_27 (by decide +kernel) (Nat.le_of_ble_eq_true rfl) (Nat.le_of_ble_eq_true rfl) (by decide +kernel)) (x_okc (snd_if_eq (off := 5) (by decide) (by decide +kernel)) (x_okc (snd_iconst (n := 0) (by decide) (by decide +kernel)) (x_okc (snd_iret rfl (by decide +kernel)) x_okn)))
theorem o134_22 : x_okL x_xm xm_134 22 b134_22 := x_okc (snd_bipush (n := 24) (by decide) (by decide +kernel)) (x_okc (snd_iload_n (k := 1) rfl (by decide +kernel)) (x_okc (snd_imul (by decide +kernel)) (x_okc (snd_iload_n (k := 2) rfl (by decide +kernel)) (x_okc (snd_iadd (by decide +kernel)) (x_okc (snd_istore_n (k := 3) rfl (by decide +kernel)) (x_okc (snd_aload_n (k := 0) rfl (by decide +kernel)) (x_okc (snd_gfr ko_8 (by decide) rfl (by decide) wd_791 (by decide +kernel)) (x_okc (snd_iload_n (k := 3) rfl (by decide +kernel)) (x_okc (snd_ald ka_28 rfl rfl (by decide) (by decide +kernel)) (x_okc (snd_if_lt (off := 12) (by decide) (by decide +kernel)) (x_okc (snd_aload_n (k := 0) rfl (by decide +kernel)) (x_okc (snd_gfr ko_8 (by decide) rfl (by decide) wd_791 (by decide +kernel)) (x_okc (snd_iload_n (k := 3) rfl (by decide +kernel)) (x_okc (snd_ald ka_28 rfl rfl (by decide) (by decide +kernel)) (x_okc (snd_goto (off := 4) (by decide) (by decide +kernel)) x_okn)))))))))))))))
theorem o134_47 : x_okL x_xm xm_134 47 b134_47 := x_okc (snd_iload_n (k := 3) rfl (by decide +kernel)) (x_okc (snd_to) x_okn)
theorem o134_48 : x_okL x_xm xm_134 48 b134_48 := x_okc (snd_istore (by decide +kernel)) (x_okc (snd_aload_n (k := 0) rfl (by decide +kernel)) (x_okc (snd_gfr ko_8 (by decide) rfl (by decide) wd_811 (by decide +kernel)) (x_okc (snd_iload (by decide +kernel)) (x_okc (snd_ald ka_47 rfl rfl (by decide) (by decide +kernel)) (x_okc (snd_iconst (n := 5) (by decide) (by decide +kernel)) (x_okc (snd_icmp_ne (off := 32) (by decide) (by decide +kernel)) (x_okc (snd_aload_n (k := 0) rfl (by decide +kernel)) (x_okc (snd_gfr ko_8 (by decide) rfl (by decide) wd_785 (by decide +kernel)) (x_okc (snd_iload (by decide +kernel)) (x_okc (snd_bald ka_22 rfl rfl (by decide) (by decide +kernel)) (x_okc (snd_if_eq (off := 22) (by decide) (by decide +kernel)) (x_okc (snd_aload_n (k := 0) rfl (by decide +kernel)) (x_okc (snd_gfr ko_8 (by decide) rfl (by decide) wd_785 (by decide +kernel)) (x_okc (snd_aload_n (k := 0) rfl (by decide +kernel)) (x_okc (snd_gfr ko_8 (by decide) rfl (by decide) wd_821 (by decide +kernel)) (x_okc (snd_iload (by decide +kernel)) (x_okc (snd_ald ka_57 rfl rfl (by decide) (by decide +kernel)) (x_okc (snd_bald ka_22 rfl rfl (by decide) (by decide +kernel)) (x_okc (snd_if_eq (off := 7) (by decide) (by decide +kernel)) (x_okc (snd_iconst (n := 1) (by decide) (by decide +kernel)) (x_okc (snd_goto (off := 4) (by decide) (by decide +kernel)) x_okn)))))))))))))))))))))
theorem o134_90 : x_okL x_xm xm_134 90 b134_90 := x_okc (snd_iconst (n := 0) (by decide) (by decide +kernel)) (x_okc (snd_to) x_okn)
theorem o134_91 : x_okL x_xm xm_134 91 b134_91 := x_okc (snd_istore (by decide +kernel)) (x_okc (snd_iload (by decide +kernel)) (x_okc (snd_if_ne (off := 7) (by decide) (by decide +kernel)) (x_okc (snd_iconst (n := -1) (by decide) (by decide +kernel)) (x_okc (snd_goto (off := 21) (by decide) (by decide +kernel)) x_okn))))
theorem o134_102 : x_okL x_xm xm_134 102 b134_102 := x_okc (snd_iload (by decide +kernel)) (x_okc (snd_iload_n (k := 3) rfl (by decide +kernel)) (x_okc (snd_icmp_ne (off := 13) (by decide) (by decide +kernel)) (x_okc (snd_aload_n (k := 0) rfl (by decide +kernel)) (x_okc (snd_gfr ko_8 (by decide) rfl (by decide) wd_821 (by decide +kernel)) (x_okc (snd_iload (by decide +kernel)) (x_okc (snd_ald ka_57 rfl rfl (by decide) (by decide +kernel)) (x_okc (snd_goto (off := 5) (by decide) (by decide +kernel)) x_okn)))))))
theorem o134_118 : x_okL x_xm xm_134 118 b134_118 := x_okc (snd_iload (by decide +kernel)) (x_okc (snd_to) x_okn)
theorem o134_120 : x_okL x_xm xm_134 120 b134_120 := x_okc (snd_iret rfl (by decide +kernel)) x_okn
theorem o134 : ∀ q ∈ t134, x_okL x_xm xm_134 q.1 q.2 := List.forall_mem_cons.mpr ⟨o134_0, List.forall_mem_cons.mpr ⟨o134_13, List.forall_mem_cons.mpr ⟨o134_14, List.forall_mem_cons.mpr ⟨o134_22, List.forall_mem_cons.mpr ⟨o134_47, List.forall_mem_cons.mpr ⟨o134_48, List.forall_mem_cons.mpr ⟨o134_90, List.forall_mem_cons.mpr ⟨o134_91, List.forall_mem_cons.mpr ⟨o134_102, List.forall_mem_cons.mpr ⟨o134_118, List.forall_mem_cons.mpr ⟨o134_120, fun _ h => absurd h List.not_mem_nil⟩⟩⟩⟩⟩⟩⟩⟩⟩⟩⟩
theorem p134 : x_okM xm_134 := ⟨by decide, rfl, fun h => by cases h⟩
theorem o135_0 : x_okL x_xm xm_135 0 b135_0 := x_okc (snd_aload_n (k := 0) rfl (by decide +kernel)) (x_okc (snd_iload_n (k := 1) rfl (by decide +kernel)) (x_okc (snd_iload_n (k := 2) rfl (by decide +kernel)) (x_okc (snd_calls (M' := xm_93) rfl rfl rfl rfl rfl wd_962 wd_960 wd_961 wd_62 (by decide +kernel) (Nat.le_of_ble_eq_true rfl) (Nat.le_of_ble_eq_true rfl) (by decide +kernel)) (x_okc (snd_if_eq (off := 7) (by decide) (by decide +kernel)) (x_okc (snd_iconst (n := 0) (by decide) (by decide +kernel)) (x_okc (snd_goto (off := 4) (by decide) (by decide +kernel)) x_okn))))))
theorem o135_13 : x_okL x_xm xm_135 13 b135_13 := x_okc (snd_iconst (n := 1) (by decide) (by decide +kernel)) (x_okc (snd_to) x_okn)
theorem o135_14 : x_okL x_xm xm_135 14 b135_14 := x_okc (snd_callv (M' := xm_91) rfl ko_8 rfl rfl rfl rfl wd_945 wd_942 wd_944 wd_62 wd_27 (by decide +kernel) (Nat.le_of_ble_eq_true rfl) (Nat.le_of_ble_eq_true rfl) (by decide +kernel)) (x_okc (snd_if_eq (off := 7) (by decide) (by decide +kernel)) (x_okc (snd_iconst (n := 0) (by decide) (by decide +kernel)) (x_okc (snd_goto (off := 14) (by decide) (by decide +kernel)) x_okn)))
theorem o135_24 : x_okL x_xm xm_135 24 b135_24 := x_okc (snd_aload_n (k := 0) rfl (by decide +kernel)) (x_okc (snd_gfr ko_8 (by decide) rfl (by decide) wd_788 (by decide +kernel)) (x_okc (snd_bipush (n := 24) (by decide) (by decide +kernel)) (x_okc (snd_iload_n (k := 1) rfl (by decide +kernel)) (x_okc (snd_imul (by decide +kernel)) (x_okc (snd_iload_n (k := 2) rfl (by decide +kernel)) (x_okc (snd_iadd (by decide +kernel)) (x_okc (snd_ald ka_25 rfl rfl (by decide) (by decide +kernel)) (x_okc (snd_to) x_okn))))))))
theorem o135_35 : x_okL x_xm xm_135 35 b135_35 := x_okc (snd_iret rfl (by decide +kernel)) x_okn
theorem o135 : ∀ q ∈ t135, x_okL x_xm xm_135 q.1 q.2 := List.forall_mem_cons.mpr ⟨o135_0, List.forall_mem_cons.mpr ⟨o135_13, List.forall_mem_cons.mpr ⟨o135_14, List.forall_mem_cons.mpr ⟨o135_24, List.forall_mem_cons.mpr ⟨o135_35, fun _ h => absurd h List.not_mem_nil⟩⟩⟩⟩⟩
theorem p135 : x_okM xm_135 := ⟨by decide, rfl, fun h => by cases h⟩
theorem o136_0 : x_okL x_xm xm_136 0 b136_0 := x_okc (snd_aload_n (k := 0) rfl (by decide +kernel)) (x_okc (snd_iload_n (k := 1) rfl (by decide +kernel)) (x_okc (snd_iload_n (k := 2) rfl (by decide +kernel)) (x_okc (snd_calls (M' := xm_93) rfl rfl rfl rfl rfl wd_962 wd_960 wd_961 wd_62 (by decide +kernel) (Nat.le_of_ble_eq_true rfl) (Nat.le_of_ble_eq_true rfl) (by decide +kernel)) (x_okc (snd_if_eq (off := 7) (by decide) (by decide +kernel)) (x_okc (snd_iconst (n := 0) (by decide) (by decide +kernel)) (x_okc (snd_goto (off := 4) (by decide) (by decide +kernel)) x_okn))))))
theorem o136_13 : x_okL x_xm xm_136 13 b136_13 := x_okc (snd_iconst (n := 1) (by decide) (by decide +kernel)) (x_okc (snd_to) x_okn)
theorem o136_14 : x_okL x_xm xm_136 14 b136_14 := x_okc (snd_callv (M' := xm_91) rfl ko_8 rfl rfl rfl rfl wd_945 wd_942 wd_944 wd_62 wd_27 (by decide +kernel) (Nat.le_of_ble_eq_true rfl) (Nat.le_of_ble_eq_true rfl) (by decide +kernel)) (x_okc (snd_if_eq (off := 5) (by decide) (by decide +kernel)) (x_okc (snd_iconst (n := 0) (by decide) (by decide +kernel)) (x_okc (snd_iret rfl (by decide +kernel)) x_okn)))
theorem o136_22 : x_okL x_xm xm_136 22 b136_22 := x_okc (snd_bipush (n := 24) (by decide) (by decide +kernel)) (x_okc (snd_iload_n (k := 1) rfl (by decide +kernel)) (x_okc (snd_imul (by decide +kernel)) (x_okc (snd_iload_n (k := 2) rfl (by decide +kernel)) (x_okc (snd_iadd (by decide +kernel)) (x_okc (snd_istore (by decide +kernel)) (x_okc (snd_aload_n (k := 0) rfl (by decide +kernel)) (x_okc (snd_gfr ko_8 (by decide) rfl (by decide) wd_811 (by decide +kernel)) (x_okc (snd_iload (by decide +kernel)) (x_okc (snd_ald ka_47 rfl rfl (by decide) (by decide +kernel)) (x_okc (snd_if_eq (off := 35) (by decide) (by decide +kernel)) (x_okc (snd_iload_n (k := 3) rfl (by decide +kernel)) (x_okc (snd_iconst (n := 0) (by decide) (by decide +kernel)) (x_okc (snd_aload_n (k := 0) rfl (by decide +kernel)) (x_okc (snd_gfr ko_8 (by decide) rfl (by decide) wd_827 (by decide +kernel)) (x_okc (snd_iload (by decide +kernel)) (x_okc (snd_ald ka_63 rfl rfl (by decide) (by decide +kernel)) (x_okc (snd_iconst (n := 1) (by decide) (by decide +kernel)) (x_okc (snd_isub (by decide +kernel)) (x_okc (snd_calls (M' := xm_92) rfl rfl rfl rfl rfl wd_941 wd_939 wd_940 wd_62 (by decide +kernel) (Nat.le_of_ble_eq_true rfl) (Nat.le_of_ble_eq_true rfl) (by decide +kernel)) (x_okc (snd_if_eq (off := 18) (by decide) (by decide +kernel)) (x_okc (snd_aload_n (k := 0) rfl (by decide +kernel)) (x_okc (snd_gfr ko_8 (by decide) rfl (by decide) wd_828 (by decide +kernel)) (x_okc (snd_bipush (n := 16) (by decide) (by decide +kernel)) (x_okc (snd_iload (by decide +kernel)) (x_okc (snd_imul (by decide +kernel)) (x_okc (snd_iload_n (k := 3) rfl (by decide +kernel)) (x_okc (snd_iadd (by decide +kernel)) (x_okc (snd_ald ka_64 rfl rfl (by decide) (by decide +kernel)) (x_okc (snd_goto (off := 4) (by decide) (by decide +kernel)) x_okn)))))))))))))))))))))))))))))
theorem o136_72 : x_okL x_xm xm_136 72 b136_72 := x_okc (snd_iconst (n := -1) (by decide) (by decide +kernel)) (x_okc (snd_to) x_okn)
theorem o136_73 : x_okL x_xm xm_136 73 b136_73 := x_okc (snd_iret rfl (by decide +kernel)) x_okn
theorem o136 : ∀ q ∈ t136, x_okL x_xm xm_136 q.1 q.2 := List.forall_mem_cons.mpr ⟨o136_0, List.forall_mem_cons.mpr ⟨o136_13, List.forall_mem_cons.mpr ⟨o136_14, List.forall_mem_cons.mpr ⟨o136_22, List.forall_mem_cons.mpr ⟨o136_72, List.forall_mem_cons.mpr ⟨o136_73, fun _ h => absurd h List.not_mem_nil⟩⟩⟩⟩⟩⟩
theorem p136 : x_okM xm_136 := ⟨by decide, rfl, fun h => by cases h⟩
end
section
theorem o137_0 : x_okL x_xm xm_137 0 b137_0 := x_okc (snd_aload_n (k := 0) rfl (by decide +kernel)) (x_okc (snd_iload_n (k := 1) rfl (by decide +kernel)) (x_okc (snd_iconst (n := 0) (by decide) (by decide +kernel)) (x_okc (snd_iconst (n := 2) (by decide) (by decide +kernel)) (x_okc (snd_calls (M' := xm_92) rfl rfl rfl rfl rfl wd_941 wd_939 wd_940 wd_62 (by decide +kernel) (Nat.le_of_ble_eq_true rfl) (Nat.le_of_ble_eq_true rfl) (by decide +kernel)) (x_okc (snd_if_eq (off := 16) (by decide) (by decide +kernel)) (x_okc (snd_iload_n (k := 2) rfl (by decide +kernel)) (x_okc (snd_iconst (n := 0) (by decide) (by decide +kernel)) (x_okc (snd_iconst (n := 5) (by decide) (by decide +kernel)) (x_okc (snd_calls (M' := xm_92) rfl rfl rfl rfl rfl wd_941 wd_939 wd_940 wd_62 (by decide +kernel) (Nat.le_of_ble_eq_true rfl) (Nat.le_of_ble_eq_true rfl) (by decide +kernel)) (x_okc (snd_if_eq (off := 7) (by decide) (by decide +kernel)) (x_okc (snd_iconst (n := 0) (by decide) (by decide +kernel)) (x_okc (snd_goto (off := 4) (by decide) (by decide +kernel)) x_okn))))))))))))
theorem o137_23 : x_okL x_xm xm_137 23 b137_23 := x_okc (snd_iconst (n := 1) (by decide) (by decide +kernel)) (x_okc (snd_to) x_okn)
theorem o137_24 : x_okL x_xm xm_137 24 b137_24 := x_okc (snd_callv (M' := xm_91) rfl ko_8 rfl rfl rfl rfl wd_945 wd_942 wd_944 wd_62 wd_27 (by decide +kernel) (Nat.le_of_ble_eq_true rfl) (Nat.le_of_ble_eq_true rfl) (by decide +kernel)) (x_okc (snd_if_eq (off := 5) (by decide) (by decide +kernel)) (x_okc (snd_iconst (n := 0) (by decide) (by decide +kernel)) (x_okc (snd_iret rfl (by decide +kernel)) x_okn)))
theorem o137_32 : x_okL x_xm xm_137 32 b137_32 := x_okc (snd_iload_n (k := 2) rfl (by decide +kernel)) (x_okc (snd_iconst (n := 5) (by decide) (by decide +kernel)) (x_okc (snd_icmp_ne (off := 12) (by decide) (by decide +kernel)) (x_okc (snd_aload_n (k := 0) rfl (by decide +kernel)) (x_okc (snd_gfr ko_8 (by decide) rfl (by decide) wd_809 (by decide +kernel)) (x_okc (snd_iload_n (k := 1) rfl (by decide +kernel)) (x_okc (snd_ald ka_45 rfl rfl (by decide) (by decide +kernel)) (x_okc (snd_goto (off := 4) (by decide) (by decide +kernel)) x_okn)))))))
theorem o137_46 : x_okL x_xm xm_137 46 b137_46 := x_okc (snd_iconst (n := 0) (by decide) (by decide +kernel)) (x_okc (snd_to) x_okn)
theorem o137_47 : x_okL x_xm xm_137 47 b137_47 := x_okc (snd_istore_n (k := 3) rfl (by decide +kernel)) (x_okc (snd_iconst (n := 0) (by decide) (by decide +kernel)) (x_okc (snd_istore (by decide +kernel)) (x_okc (snd_to) x_okn)))
theorem o137_51 : x_okL x_xm xm_137 51 b137_51 := x_okc (snd_iload (by decide +kernel)) (x_okc (snd_iconst (n := 3) (by decide) (by decide +kernel)) (x_okc (snd_icmp_ge (off := 35) (by decide) (by decide +kernel)) (x_okc (snd_iload_n (k := 2) rfl (by decide +kernel)) (x_okc (snd_if_ne (off := 23) (by decide) (by decide +kernel)) (x_okc (snd_aload_n (k := 0) rfl (by decide +kernel)) (x_okc (snd_gfr ko_8 (by decide) rfl (by decide) wd_801 (by decide +kernel)) (x_okc (snd_iconst (n := 3) (by decide) (by decide +kernel)) (x_okc (snd_iload_n (k := 1) rfl (by decide +kernel)) (x_okc (snd_imul (by decide +kernel)) (x_okc (snd_iload (by decide +kernel)) (x_okc (snd_iadd (by decide +kernel)) (x_okc (snd_ald ka_38 rfl rfl (by decide) (by decide +kernel)) (x_okc (snd_if_ge (off := 9) (by decide) (by decide +kernel)) (x_okc (snd_iload_n (k := 3) rfl (by decide +kernel)) (x_okc (snd_iconst (n := 1) (by decide) (by decide +kernel)) (x_okc (snd_iadd (by decide +kernel)) (x_okc (snd_goto (off := 4) (by decide) (by decide +kernel)) x_okn)))))))))))))))))
theorem o137_81 : x_okL x_xm xm_137 81 b137_81 := x_okc (snd_iload_n (k := 3) rfl (by decide +kernel)) (x_okc (snd_to) x_okn)
theorem o137_82 : x_okL x_xm xm_137 82 b137_82 := x_okc (snd_istore_n (k := 3) rfl (by decide +kernel)) (x_okc (snd_iinc (n := 1) (by decide) (by decide +kernel)) (x_okc (snd_goto (off := -35) (by decide) (by decide +kernel)) x_okn))
theorem o137_89 : x_okL x_xm xm_137 89 b137_89 := x_okc (snd_iconst (n := 0) (by decide) (by decide +kernel)) (x_okc (snd_istore (by decide +kernel)) (x_okc (snd_to) x_okn))
theorem o137_92 : x_okL x_xm xm_137 92 b137_92 := x_okc (snd_iload (by decide +kernel)) (x_okc (snd_bipush (n := 12) (by decide) (by decide +kernel)) (x_okc (snd_icmp_ge (off := 37) (by decide) (by decide +kernel)) (x_okc (snd_iload_n (k := 2) rfl (by decide +kernel)) (x_okc (snd_iconst (n := 1) (by decide) (by decide +kernel)) (x_okc (snd_icmp_ne (off := 24) (by decide) (by decide +kernel)) (x_okc (snd_aload_n (k := 0) rfl (by decide +kernel)) (x_okc (snd_gfr ko_8 (by decide) rfl (by decide) wd_799 (by decide +kernel)) (x_okc (snd_bipush (n := 12) (by decide) (by decide +kernel)) (x_okc (snd_iload_n (k := 1) rfl (by decide +kernel)) (x_okc (snd_imul (by decide +kernel)) (x_okc (snd_iload (by decide +kernel)) (x_okc (snd_iadd (by decide +kernel)) (x_okc (snd_ald ka_36 rfl rfl (by decide) (by decide +kernel)) (x_okc (snd_if_ge (off := 9) (by decide) (by decide +kernel)) (x_okc (snd_iload_n (k := 3) rfl (by decide +kernel)) (x_okc (snd_iconst (n := 1) (by decide) (by decide +kernel)) (x_okc (snd_iadd (by decide +kernel)) (x_okc (snd_goto (off := 4) (by decide) (by decide +kernel)) x_okn))))))))))))))))))
theorem o137_125 : x_okL x_xm xm_137 125 b137_125 := x_okc (snd_iload_n (k := 3) rfl (by decide +kernel)) (x_okc (snd_to) x_okn)
theorem o137_126 : x_okL x_xm xm_137 126 b137_126 := x_okc (snd_istore_n (k := 3) rfl (by decide +kernel)) (x_okc (snd_iinc (n := 1) (by decide) (by decide +kernel)) (x_okc (snd_goto (off := -38) (by decide) (by decide +kernel)) x_okn))
theorem o137_133 : x_okL x_xm xm_137 133 b137_133 := x_okc (snd_iconst (n := 0) (by decide) (by decide +kernel)) (x_okc (snd_istore (by decide +kernel)) (x_okc (snd_to) x_okn))
theorem o137_136 : x_okL x_xm xm_137 136 b137_136 := x_okc (snd_iload (by decide +kernel)) (x_okc (snd_iconst (n := 5) (by decide) (by decide +kernel)) (x_okc (snd_icmp_ge (off := 36) (by decide) (by decide +kernel)) (x_okc (snd_iload_n (k := 2) rfl (by decide +kernel)) (x_okc (snd_iconst (n := 2) (by decide) (by decide +kernel)) (x_okc (snd_icmp_ne (off := 23) (by decide) (by decide +kernel)) (x_okc (snd_aload_n (k := 0) rfl (by decide +kernel)) (x_okc (snd_gfr ko_8 (by decide) rfl (by decide) wd_800 (by decide +kernel)) (x_okc (snd_iconst (n := 5) (by decide) (by decide +kernel)) (x_okc (snd_iload_n (k := 1) rfl (by decide +kernel)) (x_okc (snd_imul (by decide +kernel)) (x_okc (snd_iload (by decide +kernel)) (x_okc (snd_iadd (by decide +kernel)) (x_okc (snd_ald ka_37 rfl rfl (by decide) (by decide +kernel)) (x_okc (snd_if_ge (off := 9) (by decide) (by decide +kernel)) (x_okc (snd_iload_n (k := 3) rfl (by decide +kernel)) (x_okc (snd_iconst (n := 1) (by decide) (by decide +kernel)) (x_okc (snd_iadd (by decide +kernel)) (x_okc (snd_goto (off := 4) (by decide) (by decide +kernel)) x_okn))))))))))))))))))
theorem o137_167 : x_okL x_xm xm_137 167 b137_167 := x_okc (snd_iload_n (k := 3) rfl (by decide +kernel)) (x_okc (snd_to) x_okn)
theorem o137_168 : x_okL x_xm xm_137 168 b137_168 := x_okc (snd_istore_n (k := 3) rfl (by decide +kernel)) (x_okc (snd_iinc (n := 1) (by decide) (by decide +kernel)) (x_okc (snd_goto (off := -36) (by decide) (by decide +kernel)) x_okn))
theorem o137_175 : x_okL x_xm xm_137 175 b137_175 := x_okc (snd_iconst (n := 0) (by decide) (by decide +kernel)) (x_okc (snd_istore (by decide +kernel)) (x_okc (snd_to) x_okn))
theorem o137_178 : x_okL x_xm xm_137 178 b137_178 := x_okc (snd_iload (by decide +kernel)) (x_okc (snd_aload_n (k := 0) rfl (by decide +kernel)) (x_okc (snd_gfi ko_8 (by decide) rfl wd_802 (by decide +kernel)) (x_okc (snd_icmp_ge (off := 64) (by decide) (by decide +kernel)) (x_okc (snd_iload_n (k := 2) rfl (by decide +kernel)) (x_okc (snd_iconst (n := 3) (by decide) (by decide +kernel)) (x_okc (snd_icmp_ne (off := 51) (by decide) (by decide +kernel)) (x_okc (snd_aload_n (k := 0) rfl (by decide +kernel)) (x_okc (snd_gfr ko_8 (by decide) rfl (by decide) wd_803 (by decide +kernel)) (x_okc (snd_iload (by decide +kernel)) (x_okc (snd_ald ka_39 rfl rfl (by decide) (by decide +kernel)) (x_okc (snd_iload_n (k := 1) rfl (by decide +kernel)) (x_okc (snd_icmp_eq (off := 14) (by decide) (by decide +kernel)) (x_okc (snd_aload_n (k := 0) rfl (by decide +kernel)) (x_okc (snd_gfr ko_8 (by decide) rfl (by decide) wd_804 (by decide +kernel)) (x_okc (snd_iload (by decide +kernel)) (x_okc (snd_ald ka_40 rfl rfl (by decide) (by decide +kernel)) (x_okc (snd_iload_n (k := 1) rfl (by decide +kernel)) (x_okc (snd_icmp_ne (off := 29) (by decide) (by decide +kernel)) (x_okc (snd_to) x_okn)))))))))))))))))))
theorem o137_214 : x_okL x_xm xm_137 214 b137_214 := x_okc (snd_aload_n (k := 0) rfl (by decide +kernel)) (x_okc (snd_gfr ko_8 (by decide) rfl (by decide) wd_805 (by decide +kernel)) (x_okc (snd_iload (by decide +kernel)) (x_okc (snd_ald ka_41 rfl rfl (by decide) (by decide +kernel)) (x_okc (snd_if_ge (off := 19) (by decide) (by decide +kernel)) (x_okc (snd_aload_n (k := 0) rfl (by decide +kernel)) (x_okc (snd_gfr ko_8 (by decide) rfl (by decide) wd_806 (by decide +kernel)) (x_okc (snd_iload (by decide +kernel)) (x_okc (snd_bald ka_42 rfl rfl (by decide) (by decide +kernel)) (x_okc (snd_if_ne (off := 9) (by decide) (by decide +kernel)) (x_okc (snd_iload_n (k := 3) rfl (by decide +kernel)) (x_okc (snd_iconst (n := 1) (by decide) (by decide +kernel)) (x_okc (snd_iadd (by decide +kernel)) (x_okc (snd_goto (off := 4) (by decide) (by decide +kernel)) x_okn)))))))))))))
theorem o137_240 : x_okL x_xm xm_137 240 b137_240 := x_okc (snd_iload_n (k := 3) rfl (by decide +kernel)) (x_okc (snd_to) x_okn)
theorem o137_241 : x_okL x_xm xm_137 241 b137_241 := x_okc (snd_istore_n (k := 3) rfl (by decide +kernel)) (x_okc (snd_iinc (n := 1) (by decide) (by decide +kernel)) (x_okc (snd_goto (off := -67) (by decide) (by decide +kernel)) x_okn))
theorem o137_248 : x_okL x_xm xm_137 248 b137_248 := x_okc (snd_bipush (n := 24) (by decide) (by decide +kernel)) (x_okc (snd_iload_n (k := 1) rfl (by decide +kernel)) (x_okc (snd_imul (by decide +kernel)) (x_okc (snd_istore (by decide +kernel)) (x_okc (snd_to) x_okn))))
theorem o137_254 : x_okL x_xm xm_137 254 b137_254 := x_okc (snd_iload (by decide +kernel)) (x_okc (snd_bipush (n := 24) (by decide) (by decide +kernel)) (x_okc (snd_iload_n (k := 1) rfl (by decide +kernel)) (x_okc (snd_imul (by decide +kernel)) (x_okc (snd_bipush (n := 24) (by decide) (by decide +kernel)) (x_okc (snd_iadd (by decide +kernel)) (x_okc (snd_icmp_ge (off := 32) (by decide) (by decide +kernel)) (x_okc (snd_iload_n (k := 2) rfl (by decide +kernel)) (x_okc (snd_iconst (n := 4) (by decide) (by decide +kernel)) (x_okc (snd_icmp_ne (off := 19) (by decide) (by decide +kernel)) (x_okc (snd_aload_n (k := 0) rfl (by decide +kernel)) (x_okc (snd_gfr ko_8 (by decide) rfl (by decide) wd_787 (by decide +kernel)) (x_okc (snd_iload (by decide +kernel)) (x_okc (snd_ald ka_24 rfl rfl (by decide) (by decide +kernel)) (x_okc (snd_if_lt (off := 9) (by decide) (by decide +kernel)) (x_okc (snd_iload_n (k := 3) rfl (by decide +kernel)) (x_okc (snd_iconst (n := 1) (by decide) (by decide +kernel)) (x_okc (snd_iadd (by decide +kernel)) (x_okc (snd_goto (off := 4) (by decide) (by decide +kernel)) x_okn))))))))))))))))))
theorem o137_287 : x_okL x_xm xm_137 287 b137_287 := x_okc (snd_iload_n (k := 3) rfl (by decide +kernel)) (x_okc (snd_to) x_okn)
theorem o137_288 : x_okL x_xm xm_137 288 b137_288 := x_okc (snd_istore_n (k := 3) rfl (by decide +kernel)) (x_okc (snd_iinc (n := 1) (by decide) (by decide +kernel)) (x_okc (snd_goto (off := -38) (by decide) (by decide +kernel)) x_okn))
theorem o137_295 : x_okL x_xm xm_137 295 b137_295 := x_okc (snd_iload_n (k := 3) rfl (by decide +kernel)) (x_okc (snd_iret rfl (by decide +kernel)) x_okn)
theorem o137 : ∀ q ∈ t137, x_okL x_xm xm_137 q.1 q.2 := List.forall_mem_cons.mpr ⟨o137_0, List.forall_mem_cons.mpr ⟨o137_23, List.forall_mem_cons.mpr ⟨o137_24, List.forall_mem_cons.mpr ⟨o137_32, List.forall_mem_cons.mpr ⟨o137_46, List.forall_mem_cons.mpr ⟨o137_47, List.forall_mem_cons.mpr ⟨o137_51, List.forall_mem_cons.mpr ⟨o137_81, List.forall_mem_cons.mpr ⟨o137_82, List.forall_mem_cons.mpr ⟨o137_89, List.forall_mem_cons.mpr ⟨o137_92, List.forall_mem_cons.mpr ⟨o137_125, List.forall_mem_cons.mpr ⟨o137_126, List.forall_mem_cons.mpr ⟨o137_133, List.forall_mem_cons.mpr ⟨o137_136, List.forall_mem_cons.mpr ⟨o137_167, List.forall_mem_cons.mpr ⟨o137_168, List.forall_mem_cons.mpr ⟨o137_175, List.forall_mem_cons.mpr ⟨o137_178, List.forall_mem_cons.mpr ⟨o137_214, List.forall_mem_cons.mpr ⟨o137_240, List.forall_mem_cons.mpr ⟨o137_241, List.forall_mem_cons.mpr ⟨o137_248, List.forall_mem_cons.mpr ⟨o137_254, List.forall_mem_cons.mpr ⟨o137_287, List.forall_mem_cons.mpr ⟨o137_288, List.forall_mem_cons.mpr ⟨o137_295, fun _ h => absurd h List.not_mem_nil⟩⟩⟩⟩⟩⟩⟩⟩⟩⟩⟩⟩⟩⟩⟩⟩⟩⟩⟩⟩⟩⟩⟩⟩⟩⟩⟩
theorem p137 : x_okM xm_137 := ⟨by decide, rfl, fun h => by cases h⟩
theorem o138_0 : x_okL x_xm xm_138 0 b138_0 := x_okc (snd_aload_n (k := 0) rfl (by decide +kernel)) (x_okc (snd_iload_n (k := 1) rfl (by decide +kernel)) (x_okc (snd_iconst (n := 0) (by decide) (by decide +kernel)) (x_okc (snd_iconst (n := 2) (by decide) (by decide +kernel)) (x_okc (snd_calls (M' := xm_92) rfl rfl rfl rfl rfl wd_941 wd_939 wd_940 wd_62 (by decide +kernel) (Nat.le_of_ble_eq_true rfl) (Nat.le_of_ble_eq_true rfl) (by decide +kernel)) (x_okc (snd_if_eq (off := 16) (by decide) (by decide +kernel)) (x_okc (snd_iload_n (k := 2) rfl (by decide +kernel)) (x_okc (snd_iconst (n := 0) (by decide) (by decide +kernel)) (x_okc (snd_iconst (n := 2) (by decide) (by decide +kernel)) (x_okc (snd_calls (M' := xm_92) rfl rfl rfl rfl rfl wd_941 wd_939 wd_940 wd_62 (by decide +kernel) (Nat.le_of_ble_eq_true rfl) (Nat.le_of_ble_eq_true rfl) (by decide +kernel)) (x_okc (snd_if_eq (off := 7) (by decide) (by decide +kernel)) (x_okc (snd_iconst (n := 0) (by decide) (by decide +kernel)) (x_okc (snd_goto (off := 4) (by decide) (by decide +kernel)) x_okn))))))))))))
theorem o138_23 : x_okL x_xm xm_138 23 b138_23 := x_okc (snd_iconst (n := 1) (by decide) (by decide +kernel)) (x_okc (snd_to) x_okn)
theorem o138_24 : x_okL x_xm xm_138 24 b138_24 := x_okc (snd_callv (M' := xm_91) rfl ko_8 rfl rfl rfl rfl wd_945 wd_942 wd_944 wd_62 wd_27 (by decide +kernel) (Nat.le_of_ble_eq_true rfl) (Nat.le_of_ble_eq_true rfl) (by decide +kernel)) (x_okc (snd_if_eq (off := 7) (by decide) (by decide +kernel)) (x_okc (snd_iconst (n := 0) (by decide) (by decide +kernel)) (x_okc (snd_goto (off := 13) (by decide) (by decide +kernel)) x_okn)))
theorem o138_34 : x_okL x_xm xm_138 34 b138_34 := x_okc (snd_aload_n (k := 0) rfl (by decide +kernel)) (x_okc (snd_gfr ko_8 (by decide) rfl (by decide) wd_808 (by decide +kernel)) (x_okc (snd_iconst (n := 3) (by decide) (by decide +kernel)) (x_okc (snd_iload_n (k := 1) rfl (by decide +kernel)) (x_okc (snd_imul (by decide +kernel)) (x_okc (snd_iload_n (k := 2) rfl (by decide +kernel)) (x_okc (snd_iadd (by decide +kernel)) (x_okc (snd_ald ka_44 rfl rfl (by decide) (by decide +kernel)) (x_okc (snd_to) x_okn))))))))
theorem o138_44 : x_okL x_xm xm_138 44 b138_44 := x_okc (snd_iret rfl (by decide +kernel)) x_okn
theorem o138 : ∀ q ∈ t138, x_okL x_xm xm_138 q.1 q.2 := List.forall_mem_cons.mpr ⟨o138_0, List.forall_mem_cons.mpr ⟨o138_23, List.forall_mem_cons.mpr ⟨o138_24, List.forall_mem_cons.mpr ⟨o138_34, List.forall_mem_cons.mpr ⟨o138_44, fun _ h => absurd h List.not_mem_nil⟩⟩⟩⟩⟩
theorem p138 : x_okM xm_138 := ⟨by decide, rfl, fun h => by cases h⟩
end
section
/-! THE PROGRAM IS SOUND -/
theorem x_tbl_ok : ∀ q ∈ (List.zip x_ml x_tbl), x_okM q.1 ∧ ∀ b ∈ q.2, x_okL x_xm q.1 b.1 b.2 := List.forall_mem_cons.mpr ⟨⟨p0, o0⟩, List.forall_mem_cons.mpr ⟨⟨p1, o1⟩, List.forall_mem_cons.mpr ⟨⟨p2, o2⟩, List.forall_mem_cons.mpr ⟨⟨p3, o3⟩, List.forall_mem_cons.mpr ⟨⟨p4, o4⟩, List.forall_mem_cons.mpr ⟨⟨p5, o5⟩, List.forall_mem_cons.mpr ⟨⟨p6, o6⟩, List.forall_mem_cons.mpr ⟨⟨p7, o7⟩, List.forall_mem_cons.mpr ⟨⟨p8, o8⟩, List.forall_mem_cons.mpr ⟨⟨p9, o9⟩, List.forall_mem_cons.mpr ⟨⟨p10, o10⟩, List.forall_mem_cons.mpr ⟨⟨p11, o11⟩, List.forall_mem_cons.mpr ⟨⟨p12, o12⟩, List.forall_mem_cons.mpr ⟨⟨p13, o13⟩, List.forall_mem_cons.mpr ⟨⟨p14, o14⟩, List.forall_mem_cons.mpr ⟨⟨p15, o15⟩, List.forall_mem_cons.mpr ⟨⟨p16, o16⟩, List.forall_mem_cons.mpr ⟨⟨p17, o17⟩, List.forall_mem_cons.mpr ⟨⟨p18, o18⟩, List.forall_mem_cons.mpr ⟨⟨p19, o19⟩, List.forall_mem_cons.mpr ⟨⟨p20, o20⟩, List.forall_mem_cons.mpr ⟨⟨p21, o21⟩, List.forall_mem_cons.mpr ⟨⟨p22, o22⟩, List.forall_mem_cons.mpr ⟨⟨p23, o23⟩, List.forall_mem_cons.mpr ⟨⟨p24, o24⟩, List.forall_mem_cons.mpr ⟨⟨p25, o25⟩, List.forall_mem_cons.mpr ⟨⟨p26, o26⟩, List.forall_mem_cons.mpr ⟨⟨p27, o27⟩, List.forall_mem_cons.mpr ⟨⟨p28, o28⟩, List.forall_mem_cons.mpr ⟨⟨p29, o29⟩, List.forall_mem_cons.mpr ⟨⟨p30, o30⟩, List.forall_mem_cons.mpr ⟨⟨p31, o31⟩, List.forall_mem_cons.mpr ⟨⟨p32, o32⟩, List.forall_mem_cons.mpr ⟨⟨p33, o33⟩, List.forall_mem_cons.mpr ⟨⟨p34, o34⟩, List.forall_mem_cons.mpr ⟨⟨p35, o35⟩, List.forall_mem_cons.mpr ⟨⟨p36, o36⟩, List.forall_mem_cons.mpr ⟨⟨p37, o37⟩, List.forall_mem_cons.mpr ⟨⟨p38, o38⟩, List.forall_mem_cons.mpr ⟨⟨p39, o39⟩, List.forall_mem_cons.mpr ⟨⟨p40, o40⟩, List.forall_mem_cons.mpr ⟨⟨p41, o41⟩, List.forall_mem_cons.mpr ⟨⟨p42, o42⟩, List.forall_mem_cons.mpr ⟨⟨p43, o43⟩, List.forall_mem_cons.mpr ⟨⟨p44, o44⟩, List.forall_mem_cons.mpr ⟨⟨p45, o45⟩, List.forall_mem_cons.mpr ⟨⟨p46, o46⟩, List.forall_mem_cons.mpr ⟨⟨p47, o47⟩, List.forall_mem_cons.mpr ⟨⟨p48, o48⟩, List.forall_mem_cons.mpr ⟨⟨p49, o49⟩, List.forall_mem_cons.mpr ⟨⟨p50, o50⟩, List.forall_mem_cons.mpr ⟨⟨p51, o51⟩, List.forall_mem_cons.mpr ⟨⟨p52, o52⟩, List.forall_mem_cons.mpr ⟨⟨p53, o53⟩, List.forall_mem_cons.mpr ⟨⟨p54, o54⟩, List.forall_mem_cons.mpr ⟨⟨p55, o55⟩, List.forall_mem_cons.mpr ⟨⟨p56, o56⟩, List.forall_mem_cons.mpr ⟨⟨p57, o57⟩, List.forall_mem_cons.mpr ⟨⟨p58, o58⟩, List.forall_mem_cons.mpr ⟨⟨p59, o59⟩, List.forall_mem_cons.mpr ⟨⟨p60, o60⟩, List.forall_mem_cons.mpr ⟨⟨p61, o61⟩, List.forall_mem_cons.mpr ⟨⟨p62, o62⟩, List.forall_mem_cons.mpr ⟨⟨p63, o63⟩, List.forall_mem_cons.mpr ⟨⟨p64, o64⟩, List.forall_mem_cons.mpr ⟨⟨p65, o65⟩, List.forall_mem_cons.mpr ⟨⟨p66, o66⟩, List.forall_mem_cons.mpr ⟨⟨p67, o67⟩, List.forall_mem_cons.mpr ⟨⟨p68, o68⟩, List.forall_mem_cons.mpr ⟨⟨p69, o69⟩, List.forall_mem_cons.mpr ⟨⟨p70, o70⟩, List.forall_mem_cons.mpr ⟨⟨p71, o71⟩, List.forall_mem_cons.mpr ⟨⟨p72, o72⟩, List.forall_mem_cons.mpr ⟨⟨p73, o73⟩, List.forall_mem_cons.mpr ⟨⟨p74, o74⟩, List.forall_mem_cons.mpr ⟨⟨p75, o75⟩, List.forall_mem_cons.mpr ⟨⟨p76, o76⟩, List.forall_mem_cons.mpr ⟨⟨p77, o77⟩, List.forall_mem_cons.mpr ⟨⟨p78, o78⟩, List.forall_mem_cons.mpr ⟨⟨p79, o79⟩, List.forall_mem_cons.mpr ⟨⟨p80, o80⟩, List.forall_mem_cons.mpr ⟨⟨p81, o81⟩, List.forall_mem_cons.mpr ⟨⟨p82, o82⟩, List.forall_mem_cons.mpr ⟨⟨p83, o83⟩, List.forall_mem_cons.mpr ⟨⟨p84, o84⟩, List.forall_mem_cons.mpr ⟨⟨p85, o85⟩, List.forall_mem_cons.mpr ⟨⟨p86, o86⟩, List.forall_mem_cons.mpr ⟨⟨p87, o87⟩, List.forall_mem_cons.mpr ⟨⟨p88, o88⟩, List.forall_mem_cons.mpr ⟨⟨p89, o89⟩, List.forall_mem_cons.mpr ⟨⟨p90, o90⟩, List.forall_mem_cons.mpr ⟨⟨p91, o91⟩, List.forall_mem_cons.mpr ⟨⟨p92, o92⟩, List.forall_mem_cons.mpr ⟨⟨p93, o93⟩, List.forall_mem_cons.mpr ⟨⟨p94, o94⟩, List.forall_mem_cons.mpr ⟨⟨p95, o95⟩, List.forall_mem_cons.mpr ⟨⟨p96, o96⟩, List.forall_mem_cons.mpr ⟨⟨p97, o97⟩, List.forall_mem_cons.mpr ⟨⟨p98, o98⟩, List.forall_mem_cons.mpr ⟨⟨p99, o99⟩, List.forall_mem_cons.mpr ⟨⟨p100, o100⟩, List.forall_mem_cons.mpr ⟨⟨p101, o101⟩, List.forall_mem_cons.mpr ⟨⟨p102, o102⟩, List.forall_mem_cons.mpr ⟨⟨p103, o103⟩, List.forall_mem_cons.mpr ⟨⟨p104, o104⟩, List.forall_mem_cons.mpr ⟨⟨p105, o105⟩, List.forall_mem_cons.mpr ⟨⟨p106, o106⟩, List.forall_mem_cons.mpr ⟨⟨p107, o107⟩, List.forall_mem_cons.mpr ⟨⟨p108, o108⟩, List.forall_mem_cons.mpr ⟨⟨p109, o109⟩, List.forall_mem_cons.mpr ⟨⟨p110, o110⟩, List.forall_mem_cons.mpr ⟨⟨p111, o111⟩, List.forall_mem_cons.mpr ⟨⟨p112, o112⟩, List.forall_mem_cons.mpr ⟨⟨p113, o113⟩, List.forall_mem_cons.mpr ⟨⟨p114, o114⟩, List.forall_mem_cons.mpr ⟨⟨p115, o115⟩, List.forall_mem_cons.mpr ⟨⟨p116, o116⟩, List.forall_mem_cons.mpr ⟨⟨p117, o117⟩, List.forall_mem_cons.mpr ⟨⟨p118, o118⟩, List.forall_mem_cons.mpr ⟨⟨p119, o119⟩, List.forall_mem_cons.mpr ⟨⟨p120, o120⟩, List.forall_mem_cons.mpr ⟨⟨p121, o121⟩, List.forall_mem_cons.mpr ⟨⟨p122, o122⟩, List.forall_mem_cons.mpr ⟨⟨p123, o123⟩, List.forall_mem_cons.mpr ⟨⟨p124, o124⟩, List.forall_mem_cons.mpr ⟨⟨p125, o125⟩, List.forall_mem_cons.mpr ⟨⟨p126, o126⟩, List.forall_mem_cons.mpr ⟨⟨p127, o127⟩, List.forall_mem_cons.mpr ⟨⟨p128, o128⟩, List.forall_mem_cons.mpr ⟨⟨p129, o129⟩, List.forall_mem_cons.mpr ⟨⟨p130, o130⟩, List.forall_mem_cons.mpr ⟨⟨p131, o131⟩, List.forall_mem_cons.mpr ⟨⟨p132, o132⟩, List.forall_mem_cons.mpr ⟨⟨p133, o133⟩, List.forall_mem_cons.mpr ⟨⟨p134, o134⟩, List.forall_mem_cons.mpr ⟨⟨p135, o135⟩, List.forall_mem_cons.mpr ⟨⟨p136, o136⟩, List.forall_mem_cons.mpr ⟨⟨p137, o137⟩, List.forall_mem_cons.mpr ⟨⟨p138, o138⟩, fun _ h => absurd h List.not_mem_nil⟩⟩⟩⟩⟩⟩⟩⟩⟩⟩⟩⟩⟩⟩⟩⟩⟩⟩⟩⟩⟩⟩⟩⟩⟩⟩⟩⟩⟩⟩⟩⟩⟩⟩⟩⟩⟩⟩⟩⟩⟩⟩⟩⟩⟩⟩⟩⟩⟩⟩⟩⟩⟩⟩⟩⟩⟩⟩⟩⟩⟩⟩⟩⟩⟩⟩⟩⟩⟩⟩⟩⟩⟩⟩⟩⟩⟩⟩⟩⟩⟩⟩⟩⟩⟩⟩⟩⟩⟩⟩⟩⟩⟩⟩⟩⟩⟩⟩⟩⟩⟩⟩⟩⟩⟩⟩⟩⟩⟩⟩⟩⟩⟩⟩⟩⟩⟩⟩⟩⟩⟩⟩⟩⟩⟩⟩⟩⟩⟩⟩⟩⟩⟩⟩⟩⟩⟩⟩⟩
theorem x_len : x_ml.length = 139 ∧ x_tbl.length = 139 := ⟨rfl, rfl⟩
theorem x_okMs (μ : Nat) : x_okM (x_xm μ) := by
  unfold x_xm
  by_cases h : μ < x_ml.length
  · have h' : μ < x_tbl.length := by rw [x_len.2]; rw [x_len.1] at h; exact h
    rw [List.getElem?_eq_getElem h]
    exact (x_tbl_ok (x_ml[μ], x_tbl[μ]) (by rw [List.mem_iff_getElem?]; exact ⟨μ, by rw [List.getElem?_zip_eq_some]; exact ⟨List.getElem?_eq_getElem h, List.getElem?_eq_getElem h'⟩⟩)).1
  · rw [List.getElem?_eq_none (by omega)]
    exact p0
theorem x_lookup {l : List (Nat × List (Nat × xI))} {M : xM} (h : ∀ b ∈ l, x_okL x_xm M b.1 b.2) (pc : Nat) : x_okL x_xm M pc ((l.lookup pc).getD []) := by
  induction l with
  | nil => exact trivial
  | cons b r ih =>
    rw [List.lookup_cons]
    by_cases e : pc = b.1
    · subst e
      simp only [beq_self_eq_true]
      exact h b List.mem_cons_self
    · rw [show (pc == b.1) = false from beq_eq_false_iff_ne.mpr e]
      exact ih (fun b hb => h b (List.mem_cons_of_mem _ hb))
theorem x_hcd (μ pc : Nat) : x_okL x_xm (x_xm μ) pc (x_cd μ pc) := by
  unfold x_cd
  refine x_lookup ?_ pc
  by_cases h : μ < x_ml.length
  · have h' : μ < x_tbl.length := by rw [x_len.2]; rw [x_len.1] at h; exact h
    unfold x_xm
    rw [List.getElem?_eq_getElem h, List.getElem?_eq_getElem h']
    exact (x_tbl_ok (x_ml[μ], x_tbl[μ]) (by rw [List.mem_iff_getElem?]; exact ⟨μ, by rw [List.getElem?_zip_eq_some]; exact ⟨List.getElem?_eq_getElem h, List.getElem?_eq_getElem h'⟩⟩)).2
  · have h' : ¬ μ < x_tbl.length := by rw [x_len.2]; rw [x_len.1] at h; exact h
    rw [List.getElem?_eq_none (l := x_tbl) (by omega)]
    exact fun b hb => by cases hb
end
