section
-- ===== PART A: goes FIRST, ahead of the names: the tables' words, and 'selects' of the private methods out of them =====
/-- a private method of a class that the tables say can be made, by its rows of tables_1 -/
def lw_okq (q : MethodName × Nat) : Prop := (q.1.cls ≠ "java/lang/invoke/MethodHandle" ∧ q.1.cls ≠ "java/lang/invoke/VarHandle") ∧ Cond.instantiable q.1.cls q.2 ∈ tables_1 ∧ Cond.privateMethod q.1 ∈ tables_1 ∧ Cond.instanceMethod q.1 ∈ tables_1
theorem lw_p0 : lw_okq (⟨"java/lang/Throwable", "fillInStackTrace", "(I)Ljava/lang/Throwable;"⟩, 6) := ⟨⟨by decide +kernel, by decide +kernel⟩, List.mem_of_getElem? (i := 259) (by decide +kernel), List.mem_of_getElem? (i := 257) (by decide +kernel), List.mem_of_getElem? (i := 258) (by decide +kernel)⟩
theorem lw_p1 : lw_okq (⟨"CrossbarNet", "lineOf", "(II)LCrossbarNet$Line;"⟩, 5) := ⟨⟨by decide +kernel, by decide +kernel⟩, List.mem_of_getElem? (i := 17) (by decide +kernel), List.mem_of_getElem? (i := 423) (by decide +kernel), List.mem_of_getElem? (i := 424) (by decide +kernel)⟩
theorem lw_p2 : lw_okq (⟨"CrossbarNet", "askForRegister", "(LCrossbarNet$Office;LCrossbarNet$Line;)V"⟩, 5) := ⟨⟨by decide +kernel, by decide +kernel⟩, List.mem_of_getElem? (i := 17) (by decide +kernel), List.mem_of_getElem? (i := 427) (by decide +kernel), List.mem_of_getElem? (i := 428) (by decide +kernel)⟩
theorem lw_p3 : lw_okq (⟨"CrossbarNet", "beginCall", "(LCrossbarNet$Office;LCrossbarNet$Line;I)V"⟩, 5) := ⟨⟨by decide +kernel, by decide +kernel⟩, List.mem_of_getElem? (i := 17) (by decide +kernel), List.mem_of_getElem? (i := 435) (by decide +kernel), List.mem_of_getElem? (i := 436) (by decide +kernel)⟩
theorem lw_p4 : lw_okq (⟨"CrossbarNet", "seize", "(LCrossbarNet$Call;I)V"⟩, 5) := ⟨⟨by decide +kernel, by decide +kernel⟩, List.mem_of_getElem? (i := 17) (by decide +kernel), List.mem_of_getElem? (i := 457) (by decide +kernel), List.mem_of_getElem? (i := 458) (by decide +kernel)⟩
theorem lw_p5 : lw_okq (⟨"CrossbarNet", "setHolder", "(ILCrossbarNet$Call;)V"⟩, 5) := ⟨⟨by decide +kernel, by decide +kernel⟩, List.mem_of_getElem? (i := 17) (by decide +kernel), List.mem_of_getElem? (i := 461) (by decide +kernel), List.mem_of_getElem? (i := 462) (by decide +kernel)⟩
theorem lw_p6 : lw_okq (⟨"CrossbarNet", "answer", "(LCrossbarNet$Call;)V"⟩, 5) := ⟨⟨by decide +kernel, by decide +kernel⟩, List.mem_of_getElem? (i := 17) (by decide +kernel), List.mem_of_getElem? (i := 465) (by decide +kernel), List.mem_of_getElem? (i := 466) (by decide +kernel)⟩
theorem lw_p7 : lw_okq (⟨"CrossbarNet", "charge", "(LCrossbarNet$Call;)V"⟩, 5) := ⟨⟨by decide +kernel, by decide +kernel⟩, List.mem_of_getElem? (i := 17) (by decide +kernel), List.mem_of_getElem? (i := 473) (by decide +kernel), List.mem_of_getElem? (i := 474) (by decide +kernel)⟩
theorem lw_p8 : lw_okq (⟨"CrossbarNet", "end", "(LCrossbarNet$Call;I)V"⟩, 5) := ⟨⟨by decide +kernel, by decide +kernel⟩, List.mem_of_getElem? (i := 17) (by decide +kernel), List.mem_of_getElem? (i := 492) (by decide +kernel), List.mem_of_getElem? (i := 493) (by decide +kernel)⟩
theorem lw_p9 : lw_okq (⟨"CrossbarNet", "takeDigit", "(LCrossbarNet$Office;LCrossbarNet$Call;I)V"⟩, 5) := ⟨⟨by decide +kernel, by decide +kernel⟩, List.mem_of_getElem? (i := 17) (by decide +kernel), List.mem_of_getElem? (i := 517) (by decide +kernel), List.mem_of_getElem? (i := 518) (by decide +kernel)⟩
theorem lw_p10 : lw_okq (⟨"CrossbarNet", "makeJob", "(LCrossbarNet$Office;LCrossbarNet$Call;)V"⟩, 5) := ⟨⟨by decide +kernel, by decide +kernel⟩, List.mem_of_getElem? (i := 17) (by decide +kernel), List.mem_of_getElem? (i := 530) (by decide +kernel), List.mem_of_getElem? (i := 531) (by decide +kernel)⟩
theorem lw_p11 : lw_okq (⟨"CrossbarNet", "doOldestJob", "(LCrossbarNet$Office;)V"⟩, 5) := ⟨⟨by decide +kernel, by decide +kernel⟩, List.mem_of_getElem? (i := 17) (by decide +kernel), List.mem_of_getElem? (i := 543) (by decide +kernel), List.mem_of_getElem? (i := 544) (by decide +kernel)⟩
theorem lw_p12 : lw_okq (⟨"CrossbarNet", "callLine", "(LCrossbarNet$Office;LCrossbarNet$Call;I)V"⟩, 5) := ⟨⟨by decide +kernel, by decide +kernel⟩, List.mem_of_getElem? (i := 17) (by decide +kernel), List.mem_of_getElem? (i := 552) (by decide +kernel), List.mem_of_getElem? (i := 553) (by decide +kernel)⟩
theorem lw_p13 : lw_okq (⟨"CrossbarNet$Office", "firstFree", "(LCrossbarNet$Row;I)I"⟩, 9) := ⟨⟨by decide +kernel, by decide +kernel⟩, List.mem_of_getElem? (i := 32) (by decide +kernel), List.mem_of_getElem? (i := 561) (by decide +kernel), List.mem_of_getElem? (i := 562) (by decide +kernel)⟩
theorem lw_p14 : lw_okq (⟨"CrossbarNet", "seizeWayWithin", "(LCrossbarNet$Office;LCrossbarNet$Call;LCrossbarNet$Line;)Z"⟩, 5) := ⟨⟨by decide +kernel, by decide +kernel⟩, List.mem_of_getElem? (i := 17) (by decide +kernel), List.mem_of_getElem? (i := 572) (by decide +kernel), List.mem_of_getElem? (i := 573) (by decide +kernel)⟩
theorem lw_p15 : lw_okq (⟨"CrossbarNet", "seizeLink", "(LCrossbarNet$Office;LCrossbarNet$Call;I)Z"⟩, 5) := ⟨⟨by decide +kernel, by decide +kernel⟩, List.mem_of_getElem? (i := 17) (by decide +kernel), List.mem_of_getElem? (i := 584) (by decide +kernel), List.mem_of_getElem? (i := 585) (by decide +kernel)⟩
def lw_privs_1 : List (MethodName × Nat) := [(⟨"java/lang/Throwable", "fillInStackTrace", "(I)Ljava/lang/Throwable;"⟩, 6), (⟨"CrossbarNet", "lineOf", "(II)LCrossbarNet$Line;"⟩, 5), (⟨"CrossbarNet", "askForRegister", "(LCrossbarNet$Office;LCrossbarNet$Line;)V"⟩, 5), (⟨"CrossbarNet", "beginCall", "(LCrossbarNet$Office;LCrossbarNet$Line;I)V"⟩, 5), (⟨"CrossbarNet", "seize", "(LCrossbarNet$Call;I)V"⟩, 5), (⟨"CrossbarNet", "setHolder", "(ILCrossbarNet$Call;)V"⟩, 5), (⟨"CrossbarNet", "answer", "(LCrossbarNet$Call;)V"⟩, 5), (⟨"CrossbarNet", "charge", "(LCrossbarNet$Call;)V"⟩, 5), (⟨"CrossbarNet", "end", "(LCrossbarNet$Call;I)V"⟩, 5), (⟨"CrossbarNet", "takeDigit", "(LCrossbarNet$Office;LCrossbarNet$Call;I)V"⟩, 5), (⟨"CrossbarNet", "makeJob", "(LCrossbarNet$Office;LCrossbarNet$Call;)V"⟩, 5), (⟨"CrossbarNet", "doOldestJob", "(LCrossbarNet$Office;)V"⟩, 5), (⟨"CrossbarNet", "callLine", "(LCrossbarNet$Office;LCrossbarNet$Call;I)V"⟩, 5), (⟨"CrossbarNet$Office", "firstFree", "(LCrossbarNet$Row;I)I"⟩, 9), (⟨"CrossbarNet", "seizeWayWithin", "(LCrossbarNet$Office;LCrossbarNet$Call;LCrossbarNet$Line;)Z"⟩, 5), (⟨"CrossbarNet", "seizeLink", "(LCrossbarNet$Office;LCrossbarNet$Call;I)Z"⟩, 5)]
theorem lw_r1 : ∀ q ∈ lw_privs_1, lw_okq q := List.forall_mem_cons.mpr ⟨lw_p0, List.forall_mem_cons.mpr ⟨lw_p1, List.forall_mem_cons.mpr ⟨lw_p2, List.forall_mem_cons.mpr ⟨lw_p3, List.forall_mem_cons.mpr ⟨lw_p4, List.forall_mem_cons.mpr ⟨lw_p5, List.forall_mem_cons.mpr ⟨lw_p6, List.forall_mem_cons.mpr ⟨lw_p7, List.forall_mem_cons.mpr ⟨lw_p8, List.forall_mem_cons.mpr ⟨lw_p9, List.forall_mem_cons.mpr ⟨lw_p10, List.forall_mem_cons.mpr ⟨lw_p11, List.forall_mem_cons.mpr ⟨lw_p12, List.forall_mem_cons.mpr ⟨lw_p13, List.forall_mem_cons.mpr ⟨lw_p14, List.forall_mem_cons.mpr ⟨lw_p15, fun _ h => absurd h List.not_mem_nil⟩⟩⟩⟩⟩⟩⟩⟩⟩⟩⟩⟩⟩⟩⟩⟩
theorem lw_p16 : lw_okq (⟨"CrossbarNet", "release", "(LCrossbarNet$Call;I)V"⟩, 5) := ⟨⟨by decide +kernel, by decide +kernel⟩, List.mem_of_getElem? (i := 17) (by decide +kernel), List.mem_of_getElem? (i := 588) (by decide +kernel), List.mem_of_getElem? (i := 589) (by decide +kernel)⟩
theorem lw_p17 : lw_okq (⟨"CrossbarNet", "sendOnward", "(LCrossbarNet$Office;LCrossbarNet$Call;LCrossbarNet$Route;)V"⟩, 5) := ⟨⟨by decide +kernel, by decide +kernel⟩, List.mem_of_getElem? (i := 17) (by decide +kernel), List.mem_of_getElem? (i := 592) (by decide +kernel), List.mem_of_getElem? (i := 593) (by decide +kernel)⟩
theorem lw_p18 : lw_okq (⟨"CrossbarNet", "seizeOnward", "(LCrossbarNet$Office;LCrossbarNet$Call;LCrossbarNet$Office;)Z"⟩, 5) := ⟨⟨by decide +kernel, by decide +kernel⟩, List.mem_of_getElem? (i := 17) (by decide +kernel), List.mem_of_getElem? (i := 600) (by decide +kernel), List.mem_of_getElem? (i := 601) (by decide +kernel)⟩
theorem lw_p19 : lw_okq (⟨"CrossbarNet", "firstIdleTrunk", "(II)I"⟩, 5) := ⟨⟨by decide +kernel, by decide +kernel⟩, List.mem_of_getElem? (i := 17) (by decide +kernel), List.mem_of_getElem? (i := 604) (by decide +kernel), List.mem_of_getElem? (i := 605) (by decide +kernel)⟩
theorem lw_p20 : lw_okq (⟨"CrossbarNet", "sendDigits", "()V"⟩, 5) := ⟨⟨by decide +kernel, by decide +kernel⟩, List.mem_of_getElem? (i := 17) (by decide +kernel), List.mem_of_getElem? (i := 620) (by decide +kernel), List.mem_of_getElem? (i := 621) (by decide +kernel)⟩
theorem lw_p21 : lw_okq (⟨"CrossbarNet", "sendDigit", "(LCrossbarNet$Call;)V"⟩, 5) := ⟨⟨by decide +kernel, by decide +kernel⟩, List.mem_of_getElem? (i := 17) (by decide +kernel), List.mem_of_getElem? (i := 624) (by decide +kernel), List.mem_of_getElem? (i := 625) (by decide +kernel)⟩
theorem lw_p22 : lw_okq (⟨"CrossbarNet", "letTimePass", "()V"⟩, 5) := ⟨⟨by decide +kernel, by decide +kernel⟩, List.mem_of_getElem? (i := 17) (by decide +kernel), List.mem_of_getElem? (i := 628) (by decide +kernel), List.mem_of_getElem? (i := 629) (by decide +kernel)⟩
theorem lw_p23 : lw_okq (⟨"CrossbarNet", "waitForDigit", "(LCrossbarNet$Call;)V"⟩, 5) := ⟨⟨by decide +kernel, by decide +kernel⟩, List.mem_of_getElem? (i := 17) (by decide +kernel), List.mem_of_getElem? (i := 632) (by decide +kernel), List.mem_of_getElem? (i := 633) (by decide +kernel)⟩
theorem lw_p24 : lw_okq (⟨"CrossbarNet", "spendTalkTick", "(LCrossbarNet$Call;)V"⟩, 5) := ⟨⟨by decide +kernel, by decide +kernel⟩, List.mem_of_getElem? (i := 17) (by decide +kernel), List.mem_of_getElem? (i := 636) (by decide +kernel), List.mem_of_getElem? (i := 637) (by decide +kernel)⟩
theorem lw_p25 : lw_okq (⟨"CrossbarNet", "giveRegisters", "()V"⟩, 5) := ⟨⟨by decide +kernel, by decide +kernel⟩, List.mem_of_getElem? (i := 17) (by decide +kernel), List.mem_of_getElem? (i := 648) (by decide +kernel), List.mem_of_getElem? (i := 649) (by decide +kernel)⟩
theorem lw_p26 : lw_okq (⟨"CrossbarNet", "countIdleTrunks", "(I)I"⟩, 5) := ⟨⟨by decide +kernel, by decide +kernel⟩, List.mem_of_getElem? (i := 17) (by decide +kernel), List.mem_of_getElem? (i := 712) (by decide +kernel), List.mem_of_getElem? (i := 713) (by decide +kernel)⟩
theorem lw_p27 : lw_okq (⟨"CrossbarNetModel", "refused", "(I)Z"⟩, 49) := ⟨⟨by decide +kernel, by decide +kernel⟩, List.mem_of_getElem? (i := 723) (by decide +kernel), List.mem_of_getElem? (i := 889) (by decide +kernel), List.mem_of_getElem? (i := 890) (by decide +kernel)⟩
theorem lw_p28 : lw_okq (⟨"CrossbarNetModel", "idleRegister", "(I)I"⟩, 49) := ⟨⟨by decide +kernel, by decide +kernel⟩, List.mem_of_getElem? (i := 723) (by decide +kernel), List.mem_of_getElem? (i := 914) (by decide +kernel), List.mem_of_getElem? (i := 915) (by decide +kernel)⟩
theorem lw_p29 : lw_okq (⟨"CrossbarNetModel", "doesWait", "(I)Z"⟩, 49) := ⟨⟨by decide +kernel, by decide +kernel⟩, List.mem_of_getElem? (i := 723) (by decide +kernel), List.mem_of_getElem? (i := 918) (by decide +kernel), List.mem_of_getElem? (i := 919) (by decide +kernel)⟩
theorem lw_p30 : lw_okq (⟨"CrossbarNetModel", "begin", "(I)V"⟩, 49) := ⟨⟨by decide +kernel, by decide +kernel⟩, List.mem_of_getElem? (i := 723) (by decide +kernel), List.mem_of_getElem? (i := 922) (by decide +kernel), List.mem_of_getElem? (i := 923) (by decide +kernel)⟩
theorem lw_p31 : lw_okq (⟨"CrossbarNetModel", "seize", "(II)V"⟩, 49) := ⟨⟨by decide +kernel, by decide +kernel⟩, List.mem_of_getElem? (i := 723) (by decide +kernel), List.mem_of_getElem? (i := 926) (by decide +kernel), List.mem_of_getElem? (i := 927) (by decide +kernel)⟩
def lw_privs_2 : List (MethodName × Nat) := [(⟨"CrossbarNet", "release", "(LCrossbarNet$Call;I)V"⟩, 5), (⟨"CrossbarNet", "sendOnward", "(LCrossbarNet$Office;LCrossbarNet$Call;LCrossbarNet$Route;)V"⟩, 5), (⟨"CrossbarNet", "seizeOnward", "(LCrossbarNet$Office;LCrossbarNet$Call;LCrossbarNet$Office;)Z"⟩, 5), (⟨"CrossbarNet", "firstIdleTrunk", "(II)I"⟩, 5), (⟨"CrossbarNet", "sendDigits", "()V"⟩, 5), (⟨"CrossbarNet", "sendDigit", "(LCrossbarNet$Call;)V"⟩, 5), (⟨"CrossbarNet", "letTimePass", "()V"⟩, 5), (⟨"CrossbarNet", "waitForDigit", "(LCrossbarNet$Call;)V"⟩, 5), (⟨"CrossbarNet", "spendTalkTick", "(LCrossbarNet$Call;)V"⟩, 5), (⟨"CrossbarNet", "giveRegisters", "()V"⟩, 5), (⟨"CrossbarNet", "countIdleTrunks", "(I)I"⟩, 5), (⟨"CrossbarNetModel", "refused", "(I)Z"⟩, 49), (⟨"CrossbarNetModel", "idleRegister", "(I)I"⟩, 49), (⟨"CrossbarNetModel", "doesWait", "(I)Z"⟩, 49), (⟨"CrossbarNetModel", "begin", "(I)V"⟩, 49), (⟨"CrossbarNetModel", "seize", "(II)V"⟩, 49)]
theorem lw_r2 : ∀ q ∈ lw_privs_2, lw_okq q := List.forall_mem_cons.mpr ⟨lw_p16, List.forall_mem_cons.mpr ⟨lw_p17, List.forall_mem_cons.mpr ⟨lw_p18, List.forall_mem_cons.mpr ⟨lw_p19, List.forall_mem_cons.mpr ⟨lw_p20, List.forall_mem_cons.mpr ⟨lw_p21, List.forall_mem_cons.mpr ⟨lw_p22, List.forall_mem_cons.mpr ⟨lw_p23, List.forall_mem_cons.mpr ⟨lw_p24, List.forall_mem_cons.mpr ⟨lw_p25, List.forall_mem_cons.mpr ⟨lw_p26, List.forall_mem_cons.mpr ⟨lw_p27, List.forall_mem_cons.mpr ⟨lw_p28, List.forall_mem_cons.mpr ⟨lw_p29, List.forall_mem_cons.mpr ⟨lw_p30, List.forall_mem_cons.mpr ⟨lw_p31, fun _ h => absurd h List.not_mem_nil⟩⟩⟩⟩⟩⟩⟩⟩⟩⟩⟩⟩⟩⟩⟩⟩
theorem lw_p32 : lw_okq (⟨"CrossbarNetModel", "give", "(II)V"⟩, 49) := ⟨⟨by decide +kernel, by decide +kernel⟩, List.mem_of_getElem? (i := 723) (by decide +kernel), List.mem_of_getElem? (i := 930) (by decide +kernel), List.mem_of_getElem? (i := 931) (by decide +kernel)⟩
theorem lw_p33 : lw_okq (⟨"CrossbarNetModel", "over", "(II)V"⟩, 49) := ⟨⟨by decide +kernel, by decide +kernel⟩, List.mem_of_getElem? (i := 723) (by decide +kernel), List.mem_of_getElem? (i := 938) (by decide +kernel), List.mem_of_getElem? (i := 939) (by decide +kernel)⟩
theorem lw_p34 : lw_okq (⟨"CrossbarNetModel", "end", "(I)V"⟩, 49) := ⟨⟨by decide +kernel, by decide +kernel⟩, List.mem_of_getElem? (i := 723) (by decide +kernel), List.mem_of_getElem? (i := 942) (by decide +kernel), List.mem_of_getElem? (i := 943) (by decide +kernel)⟩
theorem lw_p35 : lw_okq (⟨"CrossbarNetModel", "release", "(II)V"⟩, 49) := ⟨⟨by decide +kernel, by decide +kernel⟩, List.mem_of_getElem? (i := 723) (by decide +kernel), List.mem_of_getElem? (i := 946) (by decide +kernel), List.mem_of_getElem? (i := 947) (by decide +kernel)⟩
theorem lw_p36 : lw_okq (⟨"CrossbarNetModel", "dropJob", "(I)V"⟩, 49) := ⟨⟨by decide +kernel, by decide +kernel⟩, List.mem_of_getElem? (i := 723) (by decide +kernel), List.mem_of_getElem? (i := 950) (by decide +kernel), List.mem_of_getElem? (i := 951) (by decide +kernel)⟩
theorem lw_p37 : lw_okq (⟨"CrossbarNetModel", "prefixFor", "(II)I"⟩, 49) := ⟨⟨by decide +kernel, by decide +kernel⟩, List.mem_of_getElem? (i := 723) (by decide +kernel), List.mem_of_getElem? (i := 958) (by decide +kernel), List.mem_of_getElem? (i := 959) (by decide +kernel)⟩
theorem lw_p38 : lw_okq (⟨"CrossbarNetModel", "fits", "(II)Z"⟩, 49) := ⟨⟨by decide +kernel, by decide +kernel⟩, List.mem_of_getElem? (i := 723) (by decide +kernel), List.mem_of_getElem? (i := 962) (by decide +kernel), List.mem_of_getElem? (i := 963) (by decide +kernel)⟩
theorem lw_p39 : lw_okq (⟨"CrossbarNetModel", "mayBecome", "(II)Z"⟩, 49) := ⟨⟨by decide +kernel, by decide +kernel⟩, List.mem_of_getElem? (i := 723) (by decide +kernel), List.mem_of_getElem? (i := 966) (by decide +kernel), List.mem_of_getElem? (i := 967) (by decide +kernel)⟩
theorem lw_p40 : lw_okq (⟨"CrossbarNetModel", "fail", "(II)V"⟩, 49) := ⟨⟨by decide +kernel, by decide +kernel⟩, List.mem_of_getElem? (i := 723) (by decide +kernel), List.mem_of_getElem? (i := 970) (by decide +kernel), List.mem_of_getElem? (i := 971) (by decide +kernel)⟩
theorem lw_p41 : lw_okq (⟨"CrossbarNetModel", "addJob", "(II)V"⟩, 49) := ⟨⟨by decide +kernel, by decide +kernel⟩, List.mem_of_getElem? (i := 723) (by decide +kernel), List.mem_of_getElem? (i := 974) (by decide +kernel), List.mem_of_getElem? (i := 975) (by decide +kernel)⟩
theorem lw_p42 : lw_okq (⟨"CrossbarNetModel", "one", "()V"⟩, 49) := ⟨⟨by decide +kernel, by decide +kernel⟩, List.mem_of_getElem? (i := 723) (by decide +kernel), List.mem_of_getElem? (i := 982) (by decide +kernel), List.mem_of_getElem? (i := 983) (by decide +kernel)⟩
theorem lw_p43 : lw_okq (⟨"CrossbarNetModel", "doJob", "(I)V"⟩, 49) := ⟨⟨by decide +kernel, by decide +kernel⟩, List.mem_of_getElem? (i := 723) (by decide +kernel), List.mem_of_getElem? (i := 986) (by decide +kernel), List.mem_of_getElem? (i := 987) (by decide +kernel)⟩
theorem lw_p44 : lw_okq (⟨"CrossbarNetModel", "complete", "(III)V"⟩, 49) := ⟨⟨by decide +kernel, by decide +kernel⟩, List.mem_of_getElem? (i := 723) (by decide +kernel), List.mem_of_getElem? (i := 990) (by decide +kernel), List.mem_of_getElem? (i := 991) (by decide +kernel)⟩
theorem lw_p45 : lw_okq (⟨"CrossbarNetModel", "hunted", "(II)I"⟩, 49) := ⟨⟨by decide +kernel, by decide +kernel⟩, List.mem_of_getElem? (i := 723) (by decide +kernel), List.mem_of_getElem? (i := 994) (by decide +kernel), List.mem_of_getElem? (i := 995) (by decide +kernel)⟩
theorem lw_p46 : lw_okq (⟨"CrossbarNetModel", "isFree", "(I)Z"⟩, 49) := ⟨⟨by decide +kernel, by decide +kernel⟩, List.mem_of_getElem? (i := 723) (by decide +kernel), List.mem_of_getElem? (i := 998) (by decide +kernel), List.mem_of_getElem? (i := 999) (by decide +kernel)⟩
theorem lw_p47 : lw_okq (⟨"CrossbarNetModel", "idleJunctor", "(I)I"⟩, 49) := ⟨⟨by decide +kernel, by decide +kernel⟩, List.mem_of_getElem? (i := 723) (by decide +kernel), List.mem_of_getElem? (i := 1002) (by decide +kernel), List.mem_of_getElem? (i := 1003) (by decide +kernel)⟩
def lw_privs_3 : List (MethodName × Nat) := [(⟨"CrossbarNetModel", "give", "(II)V"⟩, 49), (⟨"CrossbarNetModel", "over", "(II)V"⟩, 49), (⟨"CrossbarNetModel", "end", "(I)V"⟩, 49), (⟨"CrossbarNetModel", "release", "(II)V"⟩, 49), (⟨"CrossbarNetModel", "dropJob", "(I)V"⟩, 49), (⟨"CrossbarNetModel", "prefixFor", "(II)I"⟩, 49), (⟨"CrossbarNetModel", "fits", "(II)Z"⟩, 49), (⟨"CrossbarNetModel", "mayBecome", "(II)Z"⟩, 49), (⟨"CrossbarNetModel", "fail", "(II)V"⟩, 49), (⟨"CrossbarNetModel", "addJob", "(II)V"⟩, 49), (⟨"CrossbarNetModel", "one", "()V"⟩, 49), (⟨"CrossbarNetModel", "doJob", "(I)V"⟩, 49), (⟨"CrossbarNetModel", "complete", "(III)V"⟩, 49), (⟨"CrossbarNetModel", "hunted", "(II)I"⟩, 49), (⟨"CrossbarNetModel", "isFree", "(I)Z"⟩, 49), (⟨"CrossbarNetModel", "idleJunctor", "(I)I"⟩, 49)]
theorem lw_r3 : ∀ q ∈ lw_privs_3, lw_okq q := List.forall_mem_cons.mpr ⟨lw_p32, List.forall_mem_cons.mpr ⟨lw_p33, List.forall_mem_cons.mpr ⟨lw_p34, List.forall_mem_cons.mpr ⟨lw_p35, List.forall_mem_cons.mpr ⟨lw_p36, List.forall_mem_cons.mpr ⟨lw_p37, List.forall_mem_cons.mpr ⟨lw_p38, List.forall_mem_cons.mpr ⟨lw_p39, List.forall_mem_cons.mpr ⟨lw_p40, List.forall_mem_cons.mpr ⟨lw_p41, List.forall_mem_cons.mpr ⟨lw_p42, List.forall_mem_cons.mpr ⟨lw_p43, List.forall_mem_cons.mpr ⟨lw_p44, List.forall_mem_cons.mpr ⟨lw_p45, List.forall_mem_cons.mpr ⟨lw_p46, List.forall_mem_cons.mpr ⟨lw_p47, fun _ h => absurd h List.not_mem_nil⟩⟩⟩⟩⟩⟩⟩⟩⟩⟩⟩⟩⟩⟩⟩⟩
theorem lw_p48 : lw_okq (⟨"CrossbarNetModel", "findWay", "(III)Z"⟩, 49) := ⟨⟨by decide +kernel, by decide +kernel⟩, List.mem_of_getElem? (i := 723) (by decide +kernel), List.mem_of_getElem? (i := 1006) (by decide +kernel), List.mem_of_getElem? (i := 1007) (by decide +kernel)⟩
theorem lw_p49 : lw_okq (⟨"CrossbarNetModel", "forward", "(III)V"⟩, 49) := ⟨⟨by decide +kernel, by decide +kernel⟩, List.mem_of_getElem? (i := 723) (by decide +kernel), List.mem_of_getElem? (i := 1013) (by decide +kernel), List.mem_of_getElem? (i := 1014) (by decide +kernel)⟩
theorem lw_p50 : lw_okq (⟨"CrossbarNetModel", "idleTrunk", "(II)I"⟩, 49) := ⟨⟨by decide +kernel, by decide +kernel⟩, List.mem_of_getElem? (i := 723) (by decide +kernel), List.mem_of_getElem? (i := 1017) (by decide +kernel), List.mem_of_getElem? (i := 1018) (by decide +kernel)⟩
theorem lw_p51 : lw_okq (⟨"CrossbarNetModel", "send", "(II)V"⟩, 49) := ⟨⟨by decide +kernel, by decide +kernel⟩, List.mem_of_getElem? (i := 723) (by decide +kernel), List.mem_of_getElem? (i := 1021) (by decide +kernel), List.mem_of_getElem? (i := 1022) (by decide +kernel)⟩
theorem lw_p52 : lw_okq (⟨"CrossbarNetModel", "pass", "(I)V"⟩, 49) := ⟨⟨by decide +kernel, by decide +kernel⟩, List.mem_of_getElem? (i := 723) (by decide +kernel), List.mem_of_getElem? (i := 1025) (by decide +kernel), List.mem_of_getElem? (i := 1026) (by decide +kernel)⟩
theorem lw_p53 : lw_okq (⟨"CrossbarNetModel", "hand", "(I)V"⟩, 49) := ⟨⟨by decide +kernel, by decide +kernel⟩, List.mem_of_getElem? (i := 723) (by decide +kernel), List.mem_of_getElem? (i := 1029) (by decide +kernel), List.mem_of_getElem? (i := 1030) (by decide +kernel)⟩
def lw_privs_4 : List (MethodName × Nat) := [(⟨"CrossbarNetModel", "findWay", "(III)Z"⟩, 49), (⟨"CrossbarNetModel", "forward", "(III)V"⟩, 49), (⟨"CrossbarNetModel", "idleTrunk", "(II)I"⟩, 49), (⟨"CrossbarNetModel", "send", "(II)V"⟩, 49), (⟨"CrossbarNetModel", "pass", "(I)V"⟩, 49), (⟨"CrossbarNetModel", "hand", "(I)V"⟩, 49)]
theorem lw_r4 : ∀ q ∈ lw_privs_4, lw_okq q := List.forall_mem_cons.mpr ⟨lw_p48, List.forall_mem_cons.mpr ⟨lw_p49, List.forall_mem_cons.mpr ⟨lw_p50, List.forall_mem_cons.mpr ⟨lw_p51, List.forall_mem_cons.mpr ⟨lw_p52, List.forall_mem_cons.mpr ⟨lw_p53, fun _ h => absurd h List.not_mem_nil⟩⟩⟩⟩⟩⟩
def lw_privs : List (MethodName × Nat) := lw_privs_1 ++ (lw_privs_2 ++ (lw_privs_3 ++ (lw_privs_4)))
def lw_tbl : List Cond := k2_sels lw_privs ++ tables_1
theorem lw_privs_ok : ∀ q ∈ lw_privs, lw_okq q := by
  show ∀ q ∈ lw_privs_1 ++ (lw_privs_2 ++ (lw_privs_3 ++ (lw_privs_4))), lw_okq q
  exact List.forall_mem_append.mpr ⟨lw_r1, List.forall_mem_append.mpr ⟨lw_r2, List.forall_mem_append.mpr ⟨lw_r3, lw_r4⟩⟩⟩
end
section
/-! ===== BEGIN words of one list among another's, by their places ===== -/
theorem goodIn_r {big : List Cond} (ws : List Cond) (ps : List Nat) (hp : ws = ps.filterMap (fun i => big[i]?)) (h : ws.all goodWord = true) : GoodIn big ws := by
  intro w hw
  have h1 := List.all_eq_true.mp h w hw
  rw [hp] at hw
  obtain ⟨i, -, hi⟩ := List.mem_filterMap.mp hw
  have hm : w ∈ big := by first | exact List.mem_of_getElem? hi | exact List.getElem?_mem hi
  exact ⟨hm, good_of_word h1⟩
theorem goodIn_app {big a b : List Cond} (ha : GoodIn big a) (hb : GoodIn big b) : GoodIn big (a ++ b) := fun w h => (List.mem_append.mp h).elim (ha w) (hb w)
theorem goodIn_ca {big a b : List Cond} {c : Cond} (ha : GoodIn big (c :: a)) (hb : GoodIn big b) : GoodIn big (c :: (a ++ b)) := fun w h => (List.mem_cons.mp h).elim (fun e => ha w (List.mem_cons.mpr (Or.inl e))) (fun h => (List.mem_append.mp h).elim (fun h => ha w (List.mem_cons.mpr (Or.inr h))) (hb w))
theorem goodIn_sub {big ws : List Cond} (hm : ∀ w ∈ ws, w ∈ big) (h : ws.all goodWord = true) : GoodIn big ws := fun w hw => ⟨hm w hw, good_of_word (List.all_eq_true.mp h w hw)⟩
/-! ===== END ===== -/

/-! ===== BEGIN exceptions that leave a method, and their catching by the caller (launches without stack traces) ===== -/
section VXA
/-! The laws vx_back, vx_callV, vx_callS, vx_callSW, vx_throw0, vx_throwS follow proofs of the library, with one case more: JvmDerived/Free/Laws.lean (Back.of_free), Shelf42/LK1.lean (callV, callS), Shelf/KitTraced.lean (throwNew0V, throwNewS). -/
/-- where a method has thrown q: the class by its name, the cell, what was written, the world -/
def vx_T (XC : String → State → State → Prop) (st : State) (q : Addr) (t : State) (mc ms : Nat) (free : Addr → Prop) : Prop :=
  ∃ (E : String) (ce : Cell) (L : List Loc), XC E st t ∧ t.heap[q]? = some ce ∧ ce.vm = .none ∧ st.vm.findClass E = some ce.cls ∧ st.WarmedH t.vm ∧ st.sameButNew ({ t with vm := st.vm } : State) L mc ms ∧ ∀ z ∈ L, free z.base
def vx_Q (Qc : Array Value → State → Outcome → State → Prop) (XC : String → State → State → Prop) (mc ms : Nat) (free : Addr → Prop) : Array Value → State → Outcome → State → Prop := fun a st o t =>
  (Qc a st o t ∧ ∃ L, FrameEnd st o t L mc ms ∧ ∀ q ∈ L, free q.base) ∨ ∃ q, o = .threw q ∧ vx_T XC st q t mc ms free
/-- a callee that returns or throws -/
def vx_Met (l : Launch) (y : MethodName) (ws : List Cond) (rm : Room) (Pc : Array Value → State → Prop) (Qc : Array Value → State → Outcome → State → Prop) (XC : String → State → State → Prop) (mc ms : Nat) (free : Addr → Prop) : Prop :=
  MetFree l y (headSpec ws rm) Pc (fun _ _ _ _ _ => True) (vx_Q Qc XC mc ms free)
def vx_Post (XC : String → State → State → Prop) (mc ms : Nat) (free : Addr → Prop) : Pt → Array Value → Addr → Pt → Prop := fun A a q B =>
  ∃ (g : JFrame) (mk : MethodId) (t : State) (L : List Loc) (E : String) (ce : Cell), B.U.heap = t.heap ∧ B.U.vm = t.vm ∧ XC E (A.U.calling g mk a) t ∧ t.heap[q]? = some ce ∧ ce.vm = .none ∧ A.U.vm.findClass E = some ce.cls ∧ B.locs = A.locs ++ L ∧ (∀ z ∈ L, free z.base) ∧ B.cells = A.cells + mc ∧ B.slots = A.slots + ms
def vx_Back (l : Launch) (R : Room) (p : Program) (e : Env) (below : List Frame) (s : State) (sargs : Array Value) (y : MethodName) (len W9 : Nat)
    (Pre : Pt → Array Value → Prop) (Post : Pt → Array Value → Option Value → Pt → Prop) (PostX : Pt → Array Value → Addr → Pt → Prop) : Prop :=
  ∀ (m : MethodId) (meth : Method) (c : Code) (A : Pt) (g : JFrame) (ig : Instr) (mk : MethodId) (a : Array Value),
    Stand p l e R s m sargs below meth c A.U A.locs A.cells A.slots → g.method = m → g.locals.size = c.maxLocals → decode c.code g.pc = .ok (ig, len) →
    2 * g.monitorRoom + (g.stack.map fun v => v.category).sum ≤ W9 → A.U.methodNamed? y = some mk → Pre A a →
    (∃ (v : Option Value) (B : Pt), Stand p l e R s m sargs below meth c B.U B.locs B.cells B.slots ∧ Post A a v B ∧
      Steps p.tables e below (doInvoke e (A.U.setTop g) [] mk a).1 (B.U.setTop { g with pc := g.pc + len, stack := v.toList ++ g.stack })) ∨
    (∃ (q : Addr) (B : Pt), Stand p l e R s m sargs below meth c B.U B.locs B.cells B.slots ∧ PostX A a q B ∧
      Steps p.tables e below (doInvoke e (A.U.setTop g) [] mk a).1 ((B.U.setTop g).pushFrame (.throwing q)))
section Payer
variable {l : Launch} {R : Room} {p : Program} {e : Env} {below : List Frame} {s : State} {sargs : Array Value} {y : MethodName} {len W9 : Nat}
theorem vx_back {ws : List Cond} {rm : Room} {Pc : Array Value → State → Prop} {Qc : Array Value → State → Outcome → State → Prop} {XC : String → State → State → Prop} {mc ms : Nat} {free : Addr → Prop} {bytes : ByteArray} {maxL : Nat} {ret : Option FieldType}
    (hM : vx_Met l y ws rm Pc Qc XC mc ms free) (hblind : FrameBlind Pc) (hrc : rm.cells = mc) (hrs : rm.slots = ms)
    (hframes : rm.frames + 1 ≤ R.frames) (hlocals : W9 + (maxL + 11) + rm.locals ≤ R.locals)
    (hws : ∀ w ∈ ws, ∀ a' U, s.WarmedH U.vm → w.before a' U = true) (hcode : Cond.code y bytes maxL ret ∈ ws) (hinit : ∀ a' U, s.WarmedH U.vm → (Cond.initialized y.cls).before a' U = true) :
    vx_Back l R p e below s sargs y len W9 (PreOf R mc ms Pc) (PostOf Qc mc ms free) (vx_Post XC mc ms free) := by
  intro m meth c A g ig mk a X hg hsize hdg hW hn hp
  have h1 : (headSpec ws rm).pre.before a A.U = true := atoms_intro fun w hw => hws w hw _ _ X.warmed
  have h2 : (Cond.code y bytes maxL ret).before a A.U = true := hws _ hcode _ _ X.warmed
  have h3 : (Cond.initialized y.cls).before a A.U = true := hinit _ _ X.warmed
  have h4 : A.cells + (headSpec ws rm).room.cells ≤ R.cells := by rw [show (headSpec ws rm).room.cells = mc from hrc]; exact hp.1
  have h5 : A.slots + (headSpec ws rm).room.slots ≤ R.slots := by rw [show (headSpec ws rm).room.slots = ms from hrs]; exact hp.2.1
  have hPc : Pc a (A.U.calling g mk a) := hblind _ _ _ _ hp.2.2
  obtain ⟨U, Ls, c0, s0⟩ := A
  dsimp only [Pt.U, Pt.locs, Pt.cells, Pt.slots] at h1 h2 h3 h4 h5 X hn hPc ⊢
  obtain ⟨methY, cY, hmY, hcY, -, hlY, -, -, -, -⟩ := Cond.code_spec hn h2
  obtain ⟨kY, hkY, -⟩ := className_of_methodNamed hn
  have hinitY : kY.init = .initialized := Cond.initialized_spec (findClass_of_methodNamed hn) hkY h3
  have h : At U g.method c below := by rw [hg]; exact X.here
  have hlocals9 : W9 + (maxL + 11) + (headSpec ws rm).room.locals ≤ R.locals := hlocals
  have happ : (headSpec ws rm).appliesLoose y e.platform (U.calling g mk a) = true :=
    Spec.appliesLoose_calling (g := g) h hdg hn hkY hinitY
      (X.room_calling (g := g) (R' := (headSpec ws rm).room) hsize hmY hcY hframes (by rw [hlY]; omega) h4 h5) h1
  obtain ⟨mid, hmid⟩ := h.above
  have hfr : (U.setTop g).frames = (.java g :: mid) ++ below := by rw [State.frames_setTop' g h.top, hmid]; rfl
  obtain ⟨o, s₂, hsteps, -, hend, hq⟩ := Steps.callFree hM p X.admits X.cas X.clock (acts := []) hfr happ hPc trivial
  have hq' : vx_Q Qc XC mc ms free a (U.calling g mk a) o s₂ := hq
  rw [State.frames_setTop' g h.top] at hend
  obtain ⟨g₀, hg0⟩ := Option.isSome_iff_exists.mp h.top
  obtain ⟨r, hr⟩ := State.topJava?_eq_some.mp hg0
  have hr' : (({ U with heap := s₂.heap, slotsUsed := s₂.slotsUsed } : State).setVm s₂.vm).frames = .java g₀ :: r := hr
  rcases hq' with ⟨hqc, L, hfe, hL⟩ | ⟨q, rfl, E, ce, L, hx, hce, hcv, hcl, hW₂, hsm, hL⟩
  · obtain ⟨⟨v, rfl⟩, hW₂, e2, q2, q3, q4, q5, q6⟩ := id hfe
    have e3 : s₂ = ({ (U.calling g mk a).setFrames s₂.frames with heap := s₂.heap, slotsUsed := s₂.slotsUsed } : State).setVm s₂.vm := by
      have : s₂ = ({ s₂ with vm := (U.calling g mk a).vm } : State).setVm s₂.vm := rfl
      rw [e2] at this
      exact this
    obtain ⟨c₂, i₂, len₂, hc₂, hd₂, hf₂⟩ := hend
    have hW' : U.WarmedH s₂.vm := hW₂
    have hcc : c₂ = c := by
      have h1 : s₂.code? g.method = U.code? g.method := by
        rw [State.code?_eq, State.code?_eq, hW'.alike.method?]
      exact Option.some.inj (hc₂.symm.trans (h1.trans h.code))
    subst hcc
    have hlen : len₂ = len := by rw [hdg] at hd₂; cases hd₂; rfl
    subst hlen
    have hs₂ : s₂ = (({ U with heap := s₂.heap, slotsUsed := s₂.slotsUsed } : State).setVm s₂.vm).setTop { g with pc := g.pc + len₂, stack := v.toList ++ g.stack } := by
      refine e3.trans ?_
      rw [hf₂, State.calling_eq h.top, State.setFrames_setFrames, State.setTop_of_frames _ hr', hr]
      rfl
    have hsame : U.sameButNew ({ U with heap := s₂.heap, slotsUsed := s₂.slotsUsed } : State) L mc ms := by
      refine ⟨?_, q2, q3, q4, q5, q6⟩
      obtain ⟨t, ht, -⟩ := State.frames_cons hr
      show ({ U with heap := s₂.heap, slotsUsed := s₂.slotsUsed } : State) = { U.setFrames U.frames with heap := s₂.heap, slotsUsed := s₂.slotsUsed }
      rw [State.setFrames_self ht]
    subst hg
    refine Or.inl ⟨v, ⟨(({ U with heap := s₂.heap, slotsUsed := s₂.slotsUsed } : State).setVm s₂.vm), Ls ++ L, c0 + mc, s0 + ms⟩,
      ⟨X.admits, X.cas, X.clock, X.frames, X.room, X.hears, X.method, X.code, (X.here.setHeapUsed s₂.heap s₂.slotsUsed).setVm hW'.alike, X.tail, State.WarmedH.trans X.warmed hW', X.limits, X.bytes, X.same.trans (hsame.setVm s.vm)⟩,
      ⟨g, mk, s₂, L, rfl, rfl, hqc, rfl, hL, rfl, rfl⟩, ?_⟩
    show Steps p.tables e below _ ((({ U with heap := s₂.heap, slotsUsed := s₂.slotsUsed } : State).setVm s₂.vm).setTop { g with pc := g.pc + len₂, stack := v.toList ++ g.stack })
    rw [← hs₂]
    exact hsteps
  · obtain ⟨e2, q2, q3, q4, q5, q6⟩ := id hsm
    have e3 : s₂ = ({ (U.calling g mk a).setFrames s₂.frames with heap := s₂.heap, slotsUsed := s₂.slotsUsed } : State).setVm s₂.vm := by
      have : s₂ = ({ s₂ with vm := (U.calling g mk a).vm } : State).setVm s₂.vm := rfl
      rw [e2] at this
      exact this
    have hf₂ : s₂.frames = .throwing q :: .java g :: U.frames.tail := hend
    have hW' : U.WarmedH s₂.vm := hW₂
    have hs₂ : s₂ = ((({ U with heap := s₂.heap, slotsUsed := s₂.slotsUsed } : State).setVm s₂.vm).setTop g).pushFrame (.throwing q) := by
      refine e3.trans ?_
      rw [hf₂, State.calling_eq h.top, State.setFrames_setFrames, State.pushFrame, State.frames_setTop _ hr', State.setTop_of_frames _ hr', State.setFrames_setFrames, hr]
      rfl
    have hsame : U.sameButNew ({ U with heap := s₂.heap, slotsUsed := s₂.slotsUsed } : State) L mc ms := by
      refine ⟨?_, q2, q3, q4, q5, q6⟩
      obtain ⟨t, ht, -⟩ := State.frames_cons hr
      show ({ U with heap := s₂.heap, slotsUsed := s₂.slotsUsed } : State) = { U.setFrames U.frames with heap := s₂.heap, slotsUsed := s₂.slotsUsed }
      rw [State.setFrames_self ht]
    subst hg
    refine Or.inr ⟨q, ⟨(({ U with heap := s₂.heap, slotsUsed := s₂.slotsUsed } : State).setVm s₂.vm), Ls ++ L, c0 + mc, s0 + ms⟩,
      ⟨X.admits, X.cas, X.clock, X.frames, X.room, X.hears, X.method, X.code, (X.here.setHeapUsed s₂.heap s₂.slotsUsed).setVm hW'.alike, X.tail, State.WarmedH.trans X.warmed hW', X.limits, X.bytes, X.same.trans (hsame.setVm s.vm)⟩,
      ⟨g, mk, s₂, L, E, ce, rfl, rfl, hx, hce, hcv, hcl, rfl, hL, rfl, rfl⟩, ?_⟩
    show Steps p.tables e below _ (((({ U with heap := s₂.heap, slotsUsed := s₂.slotsUsed } : State).setVm s₂.vm).setTop g).pushFrame (.throwing q))
    rw [← hs₂]
    exact hsteps
end Payer
section Calls
variable {p : Program} {l : Launch} {e : Env} {R : Room} {s : State} {m : MethodId} {args : Array Value} {below : List Frame} {meth : Method} {c : Code} {T : State} {locs : List Loc} {cells slots : Nat}
theorem vx_callV (X : Stand p l e R s m args below meth c T locs cells slots) (hexec : p.tables.exec = Jvm.exec) {own C : String} {index : Nat} {y : MethodName} {bytes : ByteArray} {maxL : Nat} {ret : Option FieldType}
    (hown : s.vm.findClass own = some m.cls) (hlink : (Cond.methodLink own index y).before args s = true) (hinst : (Cond.instanceMethod y).before args s = true) (hsel : (Cond.selects C y y).before args s = true)
    (hcode : (Cond.code y bytes maxL ret).before args s = true) (hy : y.cls ≠ "java/lang/invoke/MethodHandle" ∧ y.cls ≠ "java/lang/invoke/VarHandle")
    {W9 : Nat} {Pre : Pt → Array Value → Prop} {Post : Pt → Array Value → Option Value → Pt → Prop} {PostX : Pt → Array Value → Addr → Pt → Prop} (hK : vx_Back l R p e below s args y 3 W9 Pre Post PostX)
    {b : Addr} {cellB : Cell} (hcell : T.heap[b]? = some cellB) (hobj : cellB.vm.isStatics = false) (hcls : s.vm.findClass C = some cellB.cls)
    {g : JFrame} (hg : g.method = m) (hsize : g.locals.size = c.maxLocals) {argsL rest : List Value} (hlen : ∀ sig, parseMethodDescriptor y.desc = some sig → argsL.length = sig.parameters.length)
    (hstack : g.stack = argsL.reverse ++ .ref b :: rest) (hW : 2 * g.monitorRoom + (rest.map fun v => v.category).sum ≤ W9) (hdg : decode c.code g.pc = .ok (.invokevirtual index, 3))
    (hpre : ∀ vm₁, s.WarmedH vm₁ → Pre ⟨T.setVm vm₁, locs, cells, slots⟩ (Value.ref b :: argsL).toArray) :
    (∃ (v : Option Value) (vm₁ : Vm) (B : Pt), s.WarmedH vm₁ ∧ Stand p l e R s m args below meth c B.U B.locs B.cells B.slots ∧ Post ⟨T.setVm vm₁, locs, cells, slots⟩ (Value.ref b :: argsL).toArray v B ∧
      ∀ target, Steps p.tables e below (B.U.setTop { g with pc := g.pc + 3, stack := v.toList ++ rest }) target → Steps p.tables e below (T.setTop g) target) ∨
    (∃ (q : Addr) (vm₁ : Vm) (B : Pt), s.WarmedH vm₁ ∧ Stand p l e R s m args below meth c B.U B.locs B.cells B.slots ∧ PostX ⟨T.setVm vm₁, locs, cells, slots⟩ (Value.ref b :: argsL).toArray q B ∧
      Steps p.tables e below (T.setTop g) ((B.U.setTop { g with stack := rest }).pushFrame (.throwing q))) := by
  obtain ⟨mk, methM, hnamed, hmethM, hstM, habM⟩ := Cond.instanceMethod_spec hinst
  obtain ⟨methM', cM, hmethM', -, -, -, -, -, -, hsigM⟩ := Cond.code_spec hnamed hcode
  cases hmethM.symm.trans hmethM'
  obtain ⟨c2, r2, m2, q1, q2, q3, q4, kP, hkP, hkPi⟩ := Cond.selects_spec hsel
  cases hcls.symm.trans q1
  cases (State.methodFound?_of_named hnamed hy).symm.trans q2
  cases hnamed.symm.trans q3
  have hselP : selectMethod e.platform s.vm cellB.cls mk = .method mk := by rw [Launch.admits_selectMethod X.admits]; exact q4
  obtain ⟨vm₁, X₁, hstep₁⟩ := X.invokevirtual hexec hown hlink hnamed hmethM hstM hkP hkPi hy (a := b) (cell := cellB) hcell
    (fun z h => by rw [h] at hobj; cases hobj) hselP hmethM habM hkP hkPi (g := g) hg (argsL := argsL) (rest := rest) (hlen _ hsigM) hstack hdg
  rcases hK m meth c ⟨T.setVm vm₁, locs, cells, slots⟩ { g with stack := rest } (.invokevirtual index) mk (Value.ref b :: argsL).toArray X₁ hg hsize hdg hW (X₁.named hnamed) (hpre vm₁ X₁.warmed) with ⟨v, B, X', hpost, hsteps⟩ | ⟨q, B, X', hpost, hsteps⟩
  · exact Or.inl ⟨v, vm₁, B, X₁.warmed, X', hpost, fun target h => hstep₁ _ fun acts => by rw [doInvoke_state]; exact hsteps.trans h⟩
  · exact Or.inr ⟨q, vm₁, B, X₁.warmed, X', hpost, hstep₁ _ fun acts => by rw [doInvoke_state]; exact hsteps⟩
theorem vx_callS (X : Stand p l e R s m args below meth c T locs cells slots) (hexec : p.tables.exec = Jvm.exec) {own : String} {index : Nat} {y : MethodName} {bytes : ByteArray} {maxL : Nat} {ret : Option FieldType}
    (hown : s.vm.findClass own = some m.cls) (hlink : (Cond.methodLink own index y).before args s = true) (hstat : (Cond.static y).before args s = true) (hinit : (Cond.initialized y.cls).before args s = true)
    (hcode : (Cond.code y bytes maxL ret).before args s = true) (hy : y.cls ≠ "java/lang/invoke/MethodHandle" ∧ y.cls ≠ "java/lang/invoke/VarHandle")
    {W9 : Nat} {Pre : Pt → Array Value → Prop} {Post : Pt → Array Value → Option Value → Pt → Prop} {PostX : Pt → Array Value → Addr → Pt → Prop} (hK : vx_Back l R p e below s args y 3 W9 Pre Post PostX)
    {g : JFrame} (hg : g.method = m) (hsize : g.locals.size = c.maxLocals) {argsL rest : List Value} (hlen : ∀ sig, parseMethodDescriptor y.desc = some sig → argsL.length = sig.parameters.length)
    (hstack : g.stack = argsL.reverse ++ rest) (hW : 2 * g.monitorRoom + (rest.map fun v => v.category).sum ≤ W9) (hdg : decode c.code g.pc = .ok (.invokestatic index, 3))
    (hpre : ∀ vm₁, s.WarmedH vm₁ → Pre ⟨T.setVm vm₁, locs, cells, slots⟩ argsL.toArray) :
    (∃ (v : Option Value) (vm₁ : Vm) (B : Pt), s.WarmedH vm₁ ∧ Stand p l e R s m args below meth c B.U B.locs B.cells B.slots ∧ Post ⟨T.setVm vm₁, locs, cells, slots⟩ argsL.toArray v B ∧
      ∀ target, Steps p.tables e below (B.U.setTop { g with pc := g.pc + 3, stack := v.toList ++ rest }) target → Steps p.tables e below (T.setTop g) target) ∨
    (∃ (q : Addr) (vm₁ : Vm) (B : Pt), s.WarmedH vm₁ ∧ Stand p l e R s m args below meth c B.U B.locs B.cells B.slots ∧ PostX ⟨T.setVm vm₁, locs, cells, slots⟩ argsL.toArray q B ∧
      Steps p.tables e below (T.setTop g) ((B.U.setTop { g with stack := rest }).pushFrame (.throwing q))) := by
  obtain ⟨mk, hnamed⟩ := Cond.code_named hcode
  obtain ⟨methM, cM, hmethM, -, -, -, -, -, -, hsigM⟩ := Cond.code_spec hnamed hcode
  have hstatic : methM.isStatic = true := Cond.static_spec hnamed hmethM hstat
  obtain ⟨kP, hkP, -⟩ := className_of_methodNamed hnamed
  have hinitP : kP.init = .initialized := Cond.initialized_spec (findClass_of_methodNamed hnamed) hkP hinit
  obtain ⟨vm₁, X₁, hstep₁⟩ := X.invokestatic hexec hown hlink hnamed hmethM hstatic hkP hinitP hy (g := g) hg (argsL := argsL) (rest := rest) (hlen _ hsigM) hstack hdg
  rcases hK m meth c ⟨T.setVm vm₁, locs, cells, slots⟩ { g with stack := rest } (.invokestatic index) mk argsL.toArray X₁ hg hsize hdg hW (X₁.named hnamed) (hpre vm₁ X₁.warmed) with ⟨v, B, X', hpost, hsteps⟩ | ⟨q, B, X', hpost, hsteps⟩
  · exact Or.inl ⟨v, vm₁, B, X₁.warmed, X', hpost, fun target h => hstep₁ _ fun acts => by rw [doInvoke_state]; exact hsteps.trans h⟩
  · exact Or.inr ⟨q, vm₁, B, X₁.warmed, X', hpost, hstep₁ _ fun acts => by rw [doInvoke_state]; exact hsteps⟩
end Calls
theorem vx_cls {s : State} {T : State} {vm₁ : Vm} {E : String} {k : ClassId} (hW : s.WarmedH vm₁) (h : (T.setVm vm₁).vm.findClass E = some k) : s.vm.findClass E = some k := by
  have h1 : vm₁.findClass E = some k := h
  rw [hW.alike.findClass] at h1
  exact h1
/-- the method's frame g, with q thrown over it -/
def vx_W (p : Program) (l : Launch) (e : Env) (R : Room) (s : State) (m : MethodId) (args : Array Value) (below : List Frame) (meth : Method) (c : Code) (H : Heap) (locs : List Loc) (cells slots : Nat) (Q : State → Prop) (g : JFrame) (q : Addr) : Prop :=
  ∀ T : State, T.heap = H → Stand p l e R s m args below meth c T locs cells slots → ∃ t, Steps p.tables e below ((T.setTop g).pushFrame (.throwing q)) t ∧ Q t
def vx_Run (p : Program) (l : Launch) (e : Env) (R : Room) (s : State) (m : MethodId) (args : Array Value) (below : List Frame) (meth : Method) (c : Code) (H : Heap) (locs : List Loc) (cells slots mc ms : Nat) (g : JFrame) (rest : List Value) (Qa : State → Outcome → State → Prop) (XC : String → State → State → Prop) (free : Addr → Prop) : Prop :=
  ∀ T : State, T.heap = H → Stand p l e R s m args below meth c T locs cells slots →
    (∃ (v : Option Value) (st₀ t T' : State) (L : List Loc), st₀.heap = H ∧ Stand p l e R s m args below meth c T' (locs ++ L) (cells + mc) (slots + ms) ∧ (∀ q ∈ L, free q.base) ∧ T'.heap = t.heap ∧ T'.vm = t.vm ∧ Qa st₀ (.returned v) t ∧
      Goes p e below T g T' { g with pc := g.pc + 3, stack := v.toList ++ rest }) ∨
    (∃ (q : Addr) (st₀ t T' : State) (L : List Loc) (E : String) (ce : Cell), st₀.heap = H ∧ Stand p l e R s m args below meth c T' (locs ++ L) (cells + mc) (slots + ms) ∧ (∀ z ∈ L, free z.base) ∧ T'.heap = t.heap ∧ T'.vm = t.vm ∧ XC E st₀ t ∧ t.heap[q]? = some ce ∧ ce.vm = .none ∧ s.vm.findClass E = some ce.cls ∧
      Steps p.tables e below (T.setTop g) ((T'.setTop { g with stack := rest }).pushFrame (.throwing q)))
def vx_X {S : Type} (px : S → Prop) (B : String → S → State → Prop) (A : Nat → Prop) : String → State → State → Prop := fun E st t => ∃ u : S, px u ∧ B E u t ∧ va_F A st t
section Runs
variable {p : Program} {l : Launch} {e : Env} {R : Room} {s : State} {m : MethodId} {args : Array Value} {below : List Frame} {meth : Method} {c : Code} {H : Heap} {locs : List Loc} {cells slots : Nat}
variable {y : MethodName} {bytes cc : ByteArray} {maxL nL mc ms n index : Nat} {ret : Option FieldType} {ws : List Cond} {rm : Room} {Pc : Array Value → State → Prop} {Qc : Array Value → State → Outcome → State → Prop} {XC : String → State → State → Prop} {free : Addr → Prop} {Ts : List Cond} {own C : String} {b : Addr} {As rest : List Value} {g : JFrame}
theorem vx_callBack (cb : CallB R s args own index y bytes maxL ret ws rm mc ms n) (hM : vx_Met l y ws rm Pc Qc XC mc ms free) (hbl : FrameBlind Pc) : vx_Back l R p e below s args y 3 8 (PreOf R mc ms Pc) (PostOf Qc mc ms free) (vx_Post XC mc ms free) := by
  obtain ⟨hrc, hrs, hfr, hlo, hws, hcw, -, hini, -⟩ := cb
  exact vx_back (bytes := bytes) (maxL := maxL) (ret := ret) hM hbl hrc hrs hfr hlo hws hcw (fun a' U hW => word_at hW (Or.inl (by first | rfl | simp [Cond.onTables, Cond.keeps, Cond.steady])) hini)
theorem vx_runV (S : CallFix p m c cc nL s args Ts own) (hM : vx_Met l y ws rm Pc Qc XC mc ms free) (cw : CallW R s args own C index y bytes maxL ret ws rm mc ms n) (hp : PreV s H C b Pc As)
    (hg : g.method = m) (hn : As.length = n) (hsize : g.locals.size = nL) (hstack : g.stack = As.reverse ++ .ref b :: rest) (hW : 2 * g.monitorRoom + (rest.map fun v => v.category).sum ≤ 8) (hdg : decode cc g.pc = .ok (.invokevirtual index, 3)) (hf : cells + mc ≤ R.cells ∧ slots + ms ≤ R.slots) :
    vx_Run p l e R s m args below meth c H locs cells slots mc ms g rest (Qc (Value.ref b :: As).toArray) XC free := by
  have hK : vx_Back l R p e below s args y 3 8 (PreOf R mc ms Pc) (PostOf Qc mc ms free) (vx_Post XC mc ms free) := vx_callBack cw.1 hM hp.1
  obtain ⟨⟨-, -, -, -, -, -, hcode, -, hy, hlen, hl⟩, hin, hse⟩ := cw
  obtain ⟨hx, hb, hml, ho, -⟩ := S
  obtain ⟨-, ⟨cellB, hcB, hoB, hclB⟩, hPc⟩ := hp
  intro T hT X
  rcases vx_callV X hx (C := C) (bytes := bytes) (maxL := maxL) (ret := ret) ho hl hin hse hcode hy hK (by rw [hT]; exact hcB) hoB hclB hg (hsize.trans hml.symm) (argsL := As) (rest := rest) (fun sig h => hn.trans (hlen sig h)) hstack hW (by rw [hb]; exact hdg)
    (fun vm₁ hW₁ => ⟨hf.1, hf.2, hPc (T.setVm vm₁) hT hW₁⟩) with ⟨v, vm₁, ⟨U', l2, c2, s2⟩, hW₁, X', ⟨g', mk, t, L, e1, e2, hq, h1, hL, h2, h3⟩, st⟩ | ⟨q, vm₁, ⟨U', l2, c2, s2⟩, hW₁, X', ⟨g', mk, t, L, E, ce, e1, e2, hq, hce, hcv, hcl, h1, hL, h2, h3⟩, st⟩
  · dsimp only [Pt.U, Pt.locs, Pt.cells, Pt.slots] at X' e1 e2 h1 h2 h3 st
    subst h1; subst h2; subst h3
    exact Or.inl ⟨v, (T.setVm vm₁).calling g' mk (Value.ref b :: As).toArray, t, U', L, hT, X', hL, e1, e2, hq, st⟩
  · dsimp only [Pt.U, Pt.locs, Pt.cells, Pt.slots] at X' e1 e2 h1 h2 h3 st hcl
    subst h1; subst h2; subst h3
    exact Or.inr ⟨q, (T.setVm vm₁).calling g' mk (Value.ref b :: As).toArray, t, U', L, E, ce, hT, X', hL, e1, e2, hq, hce, hcv, vx_cls hW₁ hcl, st⟩
theorem vx_runS (S : CallFix p m c cc nL s args Ts own) (hM : vx_Met l y ws rm Pc Qc XC mc ms free) (cw : CallB R s args own index y bytes maxL ret ws rm mc ms n ∧ (Cond.static y).before args s = true) (hp : PreS s H Pc As)
    (hg : g.method = m) (hn : As.length = n) (hsize : g.locals.size = nL) (hstack : g.stack = As.reverse ++ rest) (hW : 2 * g.monitorRoom + (rest.map fun v => v.category).sum ≤ 8) (hdg : decode cc g.pc = .ok (.invokestatic index, 3)) (hf : cells + mc ≤ R.cells ∧ slots + ms ≤ R.slots) :
    vx_Run p l e R s m args below meth c H locs cells slots mc ms g rest (Qc As.toArray) XC free := by
  have hK : vx_Back l R p e below s args y 3 8 (PreOf R mc ms Pc) (PostOf Qc mc ms free) (vx_Post XC mc ms free) := vx_callBack cw.1 hM hp.1
  obtain ⟨⟨-, -, -, -, -, -, hcode, hini, hy, hlen, hl⟩, hstt⟩ := cw
  obtain ⟨hx, hb, hml, ho, -⟩ := S
  intro T hT X
  rcases vx_callS X hx (bytes := bytes) (maxL := maxL) (ret := ret) ho hl hstt hini hcode hy hK hg (hsize.trans hml.symm) (argsL := As) (rest := rest) (fun sig h => hn.trans (hlen sig h)) hstack hW (by rw [hb]; exact hdg)
    (fun vm₁ hW₁ => ⟨hf.1, hf.2, hp.2 (T.setVm vm₁) hT hW₁⟩) with ⟨v, vm₁, ⟨U', l2, c2, s2⟩, hW₁, X', ⟨g', mk, t, L, e1, e2, hq, h1, hL, h2, h3⟩, st⟩ | ⟨q, vm₁, ⟨U', l2, c2, s2⟩, hW₁, X', ⟨g', mk, t, L, E, ce, e1, e2, hq, hce, hcv, hcl, h1, hL, h2, h3⟩, st⟩
  · dsimp only [Pt.U, Pt.locs, Pt.cells, Pt.slots] at X' e1 e2 h1 h2 h3 st
    subst h1; subst h2; subst h3
    exact Or.inl ⟨v, (T.setVm vm₁).calling g' mk As.toArray, t, U', L, hT, X', hL, e1, e2, hq, st⟩
  · dsimp only [Pt.U, Pt.locs, Pt.cells, Pt.slots] at X' e1 e2 h1 h2 h3 st hcl
    subst h1; subst h2; subst h3
    exact Or.inr ⟨q, (T.setVm vm₁).calling g' mk As.toArray, t, U', L, E, ce, hT, X', hL, e1, e2, hq, hce, hcv, vx_cls hW₁ hcl, st⟩
end Runs
section Rows
variable {p : Program} {l : Launch} {e : Env} {R : Room} {s : State} {m : MethodId} {args : Array Value} {below : List Frame} {meth : Method} {c : Code} {H : Heap} {locs : List Loc} {cells slots : Nat} {Q : State → Prop}
variable {mc ms : Nat} {free : Addr → Prop} {A0 A1 : Nat → Prop} {H0 : Heap} {a : Array Value} {pc : Nat} {ls : Array Slot} {st0 rest : List Value}
theorem vx_keep {st₀ t T' : State} {L : List Loc} (h0 : st₀.heap = H) (e1 : T'.heap = t.heap) (hS : va_S A0 H0 H locs) (hA : ∀ q, q < H.size → A1 q → A0 q) (hf : ∀ q, free q → A0 q) (hL : ∀ q ∈ L, free q.base) (hF : va_F A1 st₀ t) :
    H.size ≤ T'.heap.size ∧ (∀ q : Nat, q < H.size → ¬ A1 q → T'.heap[q]? = H[q]?) ∧ va_S A0 H0 T'.heap (locs ++ L) := by
  obtain ⟨hz, hk⟩ := hF
  rw [h0] at hz hk
  exact ⟨by rw [e1]; exact hz, fun q h1 h2 => by rw [e1]; exact hk q h1 h2,
    ⟨Nat.le_trans hS.1 (by rw [e1]; exact hz), fun q h1 h2 => by rw [e1, hk q (Nat.lt_of_lt_of_le h1 hS.1) (fun z => h2 (hA q (Nat.lt_of_lt_of_le h1 hS.1) z))]; exact hS.2.1 q h1 h2, fun q hq => by
      rcases List.mem_append.mp hq with h | h
      · exact hS.2.2 q h
      · exact hf _ (hL q h)⟩⟩
theorem vx_calli {S SX : Type} {post : Int32 → S → Prop} {px : SX → Prop} {B : S → State → Prop} {BX : String → SX → State → Prop} {AX : Nat → Prop} (hr : vx_Run p l e R s m args below meth c H locs cells slots mc ms (F0 m pc ls st0) rest (va_Qi post B A1 a) (vx_X px BX AX) free) (hS : va_S A0 H0 H locs) (hA : ∀ q, q < H.size → A1 q → A0 q) (hf : ∀ q, free q → A0 q) (hAX : ∀ q, q < H.size → AX q → A0 q)
    (kx : ∀ (E : String) (ce : Cell) (q9 : Addr) (u : SX) (t : State) (H1 : Heap) (locs1 : List Loc), t.heap = H1 → s.vm.Alike t.vm → px u → BX E u t → H.size ≤ H1.size → (∀ q : Nat, q < H.size → ¬ AX q → H1[q]? = H[q]?) → va_S A0 H0 H1 locs1 → H1[q9]? = some ce → ce.vm = .none → s.vm.findClass E = some ce.cls → vx_W p l e R s m args below meth c H1 locs1 (cells + mc) (slots + ms) Q (F0 m pc ls rest) q9)
    (kk : ∀ (r : Int32) (u : S) (t : State) (H1 : Heap) (locs1 : List Loc), t.heap = H1 → s.vm.Alike t.vm → post r u → B u t → H.size ≤ H1.size → (∀ q : Nat, q < H.size → ¬ A1 q → H1[q]? = H[q]?) → va_S A0 H0 H1 locs1 → W p l e R s m args below meth c H1 locs1 (cells + mc) (slots + ms) Q (F0 m (pc + 3) ls (.int r :: rest))) : W p l e R s m args below meth c H locs cells slots Q (F0 m pc ls st0) := by
  intro T hT X
  rcases hr T hT X with ⟨v, st₀, t, T', L, h0, X', hL, e1, e2, ⟨⟨r, u, hv, hp, hb⟩, hF⟩, st⟩ | ⟨q, st₀, t, T', L, E, ce, h0, X', hL, e1, e2, ⟨u, hp, hb, hF⟩, hce, hcv, hcl, st⟩
  · cases hv
    obtain ⟨k1, k2, k3⟩ := vx_keep h0 e1 hS hA hf hL hF
    obtain ⟨t2, a1, b1⟩ := kk r u t T'.heap (locs ++ L) e1.symm (by rw [← e2]; exact X'.warmed.alike) hp hb k1 k2 k3 T' rfl X'
    exact ⟨t2, st t2 a1, b1⟩
  · obtain ⟨k1, k2, k3⟩ := vx_keep h0 e1 hS hAX hf hL hF
    obtain ⟨t2, a1, b1⟩ := kx E ce q u t T'.heap (locs ++ L) e1.symm (by rw [← e2]; exact X'.warmed.alike) hp hb k1 k2 k3 (by rw [e1]; exact hce) hcv hcl T' rfl X'
    exact ⟨t2, st.trans a1, b1⟩
theorem vx_calll {S SX : Type} {post : Int64 → S → Prop} {px : SX → Prop} {B : S → State → Prop} {BX : String → SX → State → Prop} {AX : Nat → Prop} (hr : vx_Run p l e R s m args below meth c H locs cells slots mc ms (F0 m pc ls st0) rest (va_Ql post B A1 a) (vx_X px BX AX) free) (hS : va_S A0 H0 H locs) (hA : ∀ q, q < H.size → A1 q → A0 q) (hf : ∀ q, free q → A0 q) (hAX : ∀ q, q < H.size → AX q → A0 q)
    (kx : ∀ (E : String) (ce : Cell) (q9 : Addr) (u : SX) (t : State) (H1 : Heap) (locs1 : List Loc), t.heap = H1 → s.vm.Alike t.vm → px u → BX E u t → H.size ≤ H1.size → (∀ q : Nat, q < H.size → ¬ AX q → H1[q]? = H[q]?) → va_S A0 H0 H1 locs1 → H1[q9]? = some ce → ce.vm = .none → s.vm.findClass E = some ce.cls → vx_W p l e R s m args below meth c H1 locs1 (cells + mc) (slots + ms) Q (F0 m pc ls rest) q9)
    (kk : ∀ (r : Int64) (u : S) (t : State) (H1 : Heap) (locs1 : List Loc), t.heap = H1 → s.vm.Alike t.vm → post r u → B u t → H.size ≤ H1.size → (∀ q : Nat, q < H.size → ¬ A1 q → H1[q]? = H[q]?) → va_S A0 H0 H1 locs1 → W p l e R s m args below meth c H1 locs1 (cells + mc) (slots + ms) Q (F0 m (pc + 3) ls (.long r :: rest))) : W p l e R s m args below meth c H locs cells slots Q (F0 m pc ls st0) := by
  intro T hT X
  rcases hr T hT X with ⟨v, st₀, t, T', L, h0, X', hL, e1, e2, ⟨⟨r, u, hv, hp, hb⟩, hF⟩, st⟩ | ⟨q, st₀, t, T', L, E, ce, h0, X', hL, e1, e2, ⟨u, hp, hb, hF⟩, hce, hcv, hcl, st⟩
  · cases hv
    obtain ⟨k1, k2, k3⟩ := vx_keep h0 e1 hS hA hf hL hF
    obtain ⟨t2, a1, b1⟩ := kk r u t T'.heap (locs ++ L) e1.symm (by rw [← e2]; exact X'.warmed.alike) hp hb k1 k2 k3 T' rfl X'
    exact ⟨t2, st t2 a1, b1⟩
  · obtain ⟨k1, k2, k3⟩ := vx_keep h0 e1 hS hAX hf hL hF
    obtain ⟨t2, a1, b1⟩ := kx E ce q u t T'.heap (locs ++ L) e1.symm (by rw [← e2]; exact X'.warmed.alike) hp hb k1 k2 k3 (by rw [e1]; exact hce) hcv hcl T' rfl X'
    exact ⟨t2, st.trans a1, b1⟩
theorem vx_callf {S SX : Type} {post : UInt32 → S → Prop} {px : SX → Prop} {B : S → State → Prop} {BX : String → SX → State → Prop} {AX : Nat → Prop} (hr : vx_Run p l e R s m args below meth c H locs cells slots mc ms (F0 m pc ls st0) rest (va_Qf post B A1 a) (vx_X px BX AX) free) (hS : va_S A0 H0 H locs) (hA : ∀ q, q < H.size → A1 q → A0 q) (hf : ∀ q, free q → A0 q) (hAX : ∀ q, q < H.size → AX q → A0 q)
    (kx : ∀ (E : String) (ce : Cell) (q9 : Addr) (u : SX) (t : State) (H1 : Heap) (locs1 : List Loc), t.heap = H1 → s.vm.Alike t.vm → px u → BX E u t → H.size ≤ H1.size → (∀ q : Nat, q < H.size → ¬ AX q → H1[q]? = H[q]?) → va_S A0 H0 H1 locs1 → H1[q9]? = some ce → ce.vm = .none → s.vm.findClass E = some ce.cls → vx_W p l e R s m args below meth c H1 locs1 (cells + mc) (slots + ms) Q (F0 m pc ls rest) q9)
    (kk : ∀ (r : UInt32) (u : S) (t : State) (H1 : Heap) (locs1 : List Loc), t.heap = H1 → s.vm.Alike t.vm → post r u → B u t → H.size ≤ H1.size → (∀ q : Nat, q < H.size → ¬ A1 q → H1[q]? = H[q]?) → va_S A0 H0 H1 locs1 → W p l e R s m args below meth c H1 locs1 (cells + mc) (slots + ms) Q (F0 m (pc + 3) ls (.float r :: rest))) : W p l e R s m args below meth c H locs cells slots Q (F0 m pc ls st0) := by
  intro T hT X
  rcases hr T hT X with ⟨v, st₀, t, T', L, h0, X', hL, e1, e2, ⟨⟨r, u, hv, hp, hb⟩, hF⟩, st⟩ | ⟨q, st₀, t, T', L, E, ce, h0, X', hL, e1, e2, ⟨u, hp, hb, hF⟩, hce, hcv, hcl, st⟩
  · cases hv
    obtain ⟨k1, k2, k3⟩ := vx_keep h0 e1 hS hA hf hL hF
    obtain ⟨t2, a1, b1⟩ := kk r u t T'.heap (locs ++ L) e1.symm (by rw [← e2]; exact X'.warmed.alike) hp hb k1 k2 k3 T' rfl X'
    exact ⟨t2, st t2 a1, b1⟩
  · obtain ⟨k1, k2, k3⟩ := vx_keep h0 e1 hS hAX hf hL hF
    obtain ⟨t2, a1, b1⟩ := kx E ce q u t T'.heap (locs ++ L) e1.symm (by rw [← e2]; exact X'.warmed.alike) hp hb k1 k2 k3 (by rw [e1]; exact hce) hcv hcl T' rfl X'
    exact ⟨t2, st.trans a1, b1⟩
theorem vx_calld {S SX : Type} {post : UInt64 → S → Prop} {px : SX → Prop} {B : S → State → Prop} {BX : String → SX → State → Prop} {AX : Nat → Prop} (hr : vx_Run p l e R s m args below meth c H locs cells slots mc ms (F0 m pc ls st0) rest (va_Qd post B A1 a) (vx_X px BX AX) free) (hS : va_S A0 H0 H locs) (hA : ∀ q, q < H.size → A1 q → A0 q) (hf : ∀ q, free q → A0 q) (hAX : ∀ q, q < H.size → AX q → A0 q)
    (kx : ∀ (E : String) (ce : Cell) (q9 : Addr) (u : SX) (t : State) (H1 : Heap) (locs1 : List Loc), t.heap = H1 → s.vm.Alike t.vm → px u → BX E u t → H.size ≤ H1.size → (∀ q : Nat, q < H.size → ¬ AX q → H1[q]? = H[q]?) → va_S A0 H0 H1 locs1 → H1[q9]? = some ce → ce.vm = .none → s.vm.findClass E = some ce.cls → vx_W p l e R s m args below meth c H1 locs1 (cells + mc) (slots + ms) Q (F0 m pc ls rest) q9)
    (kk : ∀ (r : UInt64) (u : S) (t : State) (H1 : Heap) (locs1 : List Loc), t.heap = H1 → s.vm.Alike t.vm → post r u → B u t → H.size ≤ H1.size → (∀ q : Nat, q < H.size → ¬ A1 q → H1[q]? = H[q]?) → va_S A0 H0 H1 locs1 → W p l e R s m args below meth c H1 locs1 (cells + mc) (slots + ms) Q (F0 m (pc + 3) ls (.double r :: rest))) : W p l e R s m args below meth c H locs cells slots Q (F0 m pc ls st0) := by
  intro T hT X
  rcases hr T hT X with ⟨v, st₀, t, T', L, h0, X', hL, e1, e2, ⟨⟨r, u, hv, hp, hb⟩, hF⟩, st⟩ | ⟨q, st₀, t, T', L, E, ce, h0, X', hL, e1, e2, ⟨u, hp, hb, hF⟩, hce, hcv, hcl, st⟩
  · cases hv
    obtain ⟨k1, k2, k3⟩ := vx_keep h0 e1 hS hA hf hL hF
    obtain ⟨t2, a1, b1⟩ := kk r u t T'.heap (locs ++ L) e1.symm (by rw [← e2]; exact X'.warmed.alike) hp hb k1 k2 k3 T' rfl X'
    exact ⟨t2, st t2 a1, b1⟩
  · obtain ⟨k1, k2, k3⟩ := vx_keep h0 e1 hS hAX hf hL hF
    obtain ⟨t2, a1, b1⟩ := kx E ce q u t T'.heap (locs ++ L) e1.symm (by rw [← e2]; exact X'.warmed.alike) hp hb k1 k2 k3 (by rw [e1]; exact hce) hcv hcl T' rfl X'
    exact ⟨t2, st.trans a1, b1⟩
theorem vx_callv {S SX : Type} {post : S → Prop} {px : SX → Prop} {B : S → State → Prop} {BX : String → SX → State → Prop} {AX : Nat → Prop} (hr : vx_Run p l e R s m args below meth c H locs cells slots mc ms (F0 m pc ls st0) rest (va_Qv post B A1 a) (vx_X px BX AX) free) (hS : va_S A0 H0 H locs) (hA : ∀ q, q < H.size → A1 q → A0 q) (hf : ∀ q, free q → A0 q) (hAX : ∀ q, q < H.size → AX q → A0 q)
    (kx : ∀ (E : String) (ce : Cell) (q9 : Addr) (u : SX) (t : State) (H1 : Heap) (locs1 : List Loc), t.heap = H1 → s.vm.Alike t.vm → px u → BX E u t → H.size ≤ H1.size → (∀ q : Nat, q < H.size → ¬ AX q → H1[q]? = H[q]?) → va_S A0 H0 H1 locs1 → H1[q9]? = some ce → ce.vm = .none → s.vm.findClass E = some ce.cls → vx_W p l e R s m args below meth c H1 locs1 (cells + mc) (slots + ms) Q (F0 m pc ls rest) q9)
    (kk : ∀ (u : S) (t : State) (H1 : Heap) (locs1 : List Loc), t.heap = H1 → s.vm.Alike t.vm → post u → B u t → H.size ≤ H1.size → (∀ q : Nat, q < H.size → ¬ A1 q → H1[q]? = H[q]?) → va_S A0 H0 H1 locs1 → W p l e R s m args below meth c H1 locs1 (cells + mc) (slots + ms) Q (F0 m (pc + 3) ls (rest))) : W p l e R s m args below meth c H locs cells slots Q (F0 m pc ls st0) := by
  intro T hT X
  rcases hr T hT X with ⟨v, st₀, t, T', L, h0, X', hL, e1, e2, ⟨⟨u, hv, hp, hb⟩, hF⟩, st⟩ | ⟨q, st₀, t, T', L, E, ce, h0, X', hL, e1, e2, ⟨u, hp, hb, hF⟩, hce, hcv, hcl, st⟩
  · cases hv
    obtain ⟨k1, k2, k3⟩ := vx_keep h0 e1 hS hA hf hL hF
    obtain ⟨t2, a1, b1⟩ := kk u t T'.heap (locs ++ L) e1.symm (by rw [← e2]; exact X'.warmed.alike) hp hb k1 k2 k3 T' rfl X'
    exact ⟨t2, st t2 a1, b1⟩
  · obtain ⟨k1, k2, k3⟩ := vx_keep h0 e1 hS hAX hf hL hF
    obtain ⟨t2, a1, b1⟩ := kx E ce q u t T'.heap (locs ++ L) e1.symm (by rw [← e2]; exact X'.warmed.alike) hp hb k1 k2 k3 (by rw [e1]; exact hce) hcv hcl T' rfl X'
    exact ⟨t2, st.trans a1, b1⟩
/-- caught by the row x of this method's table; the rows ahead don't take it -/
theorem vx_catch {own name : String} {E : String} {ce : Cell} {q : Addr} (hown : s.vm.findClass own = some m.cls) (pre : List ExceptionTableEntry) (x : ExceptionTableEntry) (suf : List ExceptionTableEntry) (hsplit : c.exceptionTable.toList = pre ++ x :: suf)
    (hpass : ∀ z ∈ pre, covers z pc = false ∨ (z.catchType ≠ 0 ∧ ∃ nm : String, (Cond.classLink own z.catchType nm).before args s = true ∧ va_Nc E nm s)) (hx : covers x pc = true) (h0 : x.catchType ≠ 0)
    (hlink : (Cond.classLink own x.catchType name).before args s = true) (hcast : (Cond.castable E name).before args s = true) (hcell : H[q]? = some ce) (hv : ce.vm = .none) (hcl : s.vm.findClass E = some ce.cls)
    (kk : W p l e R s m args below meth c H locs cells slots Q (F0 m x.handlerPc ls [.ref q])) : vx_W p l e R s m args below meth c H locs cells slots Q (F0 m pc ls rest) q := by
  intro T hT X
  have hpl : e.platform.magicAccessors = ({} : Platform).magicAccessors := by rw [X.admits.platform]
  obtain ⟨c3, c4, hc3, hc4, hasg⟩ := Cond.castable_spec hcast
  cases Option.some.inj (hc3.symm.trans hcl)
  obtain ⟨c5, hc5, hcl5⟩ := Cond.classLink_spec hown hlink e.platform hpl
  cases Option.some.inj (hc4.symm.trans hc5)
  obtain ⟨vm', X', st⟩ := X.thenCaughtThrough q (g := F0 m pc ls rest) rfl (Steps.refl _) (by rw [hT]; exact hcell) (by rw [hv]; rfl) (by obtain ⟨k9, h9, -⟩ := Vm.findClass_spec hcl; exact ⟨k9, h9⟩) pre x suf hsplit
    (fun z hz => by
      rcases hpass z hz with h | ⟨hz0, nm, hl1, hn1⟩
      · exact Or.inl h
      · obtain ⟨c6, hc6, hcl6⟩ := Cond.classLink_spec hown hl1 e.platform hpl
        obtain ⟨a8, b8, h1, h2, h3⟩ := hn1
        cases Option.some.inj (h1.symm.trans hcl)
        cases Option.some.inj (h2.symm.trans hc6)
        exact Or.inr ⟨hz0, _, hcl6, h3⟩) hx (Or.inr ⟨h0, c4, hcl5, hasg⟩)
  obtain ⟨t, a1, b1⟩ := kk (T.setVm vm') hT X'
  exact ⟨t, st.trans a1, b1⟩
end Rows
section Ends
variable {p : Program} {l : Launch} {e : Env} {R : Room} {s : State} {m : MethodId} {args : Array Value} {below : List Frame} {meth : Method} {c : Code} {H : Heap} {locs : List Loc} {cells slots : Nat} {Q : State → Prop}
variable {mc ms : Nat} {free : Addr → Prop} {A0 A1 : Nat → Prop} {H0 : Heap} {a : Array Value} {ls : Array Slot} {st0 rest : List Value}
variable {Qc : Array Value → State → Outcome → State → Prop} {XC : String → State → State → Prop}
/-- what a body that may throw owes at its end -/
def vx_MQ (below : List Frame) (Qc : Array Value → State → Outcome → State → Prop) (XC : String → State → State → Prop) (a : Array Value) (s : State) (mc ms : Nat) (free : Addr → Prop) : State → Prop := fun t =>
  ∃ o, t.status = .running ∧ Ended t below o ∧ vx_Q Qc XC mc ms free a s o t
theorem vx_ret {g : JFrame} {mc ms : Nat} (k : W p l e R s m args below meth c H locs cells slots (MQ below Qc args s mc ms free) g) : W p l e R s m args below meth c H locs cells slots (vx_MQ below Qc XC args s mc ms free) g := by
  intro T hT X
  obtain ⟨t, a1, o, b1, b2, b3, b4⟩ := k T hT X
  exact ⟨t, a1, o, b1, b2, Or.inl ⟨b3, b4⟩⟩
/-- not caught here: it goes on to the caller -/
theorem vx_widen {g : JFrame} {q : Addr} {k n : Nat} (h1 : cells ≤ k) (h2 : slots ≤ n) (kk : vx_W p l e R s m args below meth c H locs k n Q g q) : vx_W p l e R s m args below meth c H locs cells slots Q g q := fun T hT X => kk T hT (stand_widen X h1 h2)
theorem vx_out {pc : Nat} {E : String} {ce : Cell} {q : Addr} {mc ms : Nat} (hout : ∀ x ∈ c.exceptionTable.toList, covers x pc = false) (hlocks : meth.locks = false) (hcell : H[q]? = some ce) (hv : ce.vm = .none) (hcl : s.vm.findClass E = some ce.cls)
    (hx : ∀ t : State, t.heap = H → s.vm.Alike t.vm → XC E s t) (hf : ∀ z ∈ locs, free z.base) (hc : cells ≤ mc) (hs : slots ≤ ms) :
    vx_W p l e R s m args below meth c H locs cells slots (vx_MQ below Qc XC args s mc ms free) (F0 m pc ls rest) q := by
  intro T hT X
  obtain ⟨st1, hrun, hend, hW, hsm⟩ := X.leaveThrown q (g := F0 m pc ls rest) rfl rfl rfl hout hlocks
  have hcell9 : (T.setFrames (.throwing q :: below)).heap[q]? = some ce := by
    show T.heap[q]? = some ce
    rw [hT]; exact hcell
  exact ⟨_, st1, .threw q, hrun, hend, Or.inr ⟨q, rfl, E, ce, locs, hx _ hT hW.alike, hcell9, hv, hcl, hW, hsm.mono hc hs, hf⟩⟩
theorem vx_frame {U : State} {k n : Nat} (h : s.sameButNew ({ U with vm := s.vm } : State) locs k n) : s.heap.size ≤ U.heap.size ∧ ∀ q : Nat, q < s.heap.size → (∀ z ∈ locs, z.base ≠ q) → U.heap[q]? = s.heap[q]? := by
  obtain ⟨-, h2, -, -, -, h6⟩ := h
  refine ⟨h2, fun q hq hz => ?_⟩
  obtain ⟨c9, e1, e2, e3, e4⟩ := h6 q _ (Array.getElem?_eq_getElem hq)
  have hs : c9.slots = (s.heap[q]).slots := Array.ext_getElem? fun i => e4 i fun hm => hz _ hm rfl
  have h9 : c9 = s.heap[q] := by
    rw [hs] at e2
    exact e2
  have e5 : U.heap[q]? = some c9 := e1
  rw [e5, h9, Array.getElem?_eq_getElem hq]
/-- the words of a throw but the four that speak of the heap -/
def vx_no (w : Cond) : Bool := decide (w ≠ .isRef (.static Bundle.tN "UNASSIGNED_STACK" Bundle.steD)) && decide (w ≠ .isRef (.static Bundle.tN "SUPPRESSED_SENTINEL" Bundle.listD)) && decide (w ≠ .laysStatic Bundle.tN "UNASSIGNED_STACK" Bundle.steD) && decide (w ≠ .laysStatic Bundle.tN "SUPPRESSED_SENTINEL" Bundle.listD)
def vx_at0 (own : String) (ic : Nat) (X : String) (names : List String) : List Cond := (Bundle.ownAtoms0 own ic X names).filter vx_no
def vx_atS (own : String) (ic : Nat) (X : String) (names : List String) : List Cond := (Bundle.ownAtoms own ic X names).filter vx_no
/-- a word that the tables alone decide, or a good one -/
def vx_ot (w : Cond) : Bool := w.onTables || goodWord w
theorem vx_ot_at {args a' : Array Value} {s U : State} {w : Cond} (hW : s.WarmedH U.vm) (hvm : s.vm = U.vm) (hg : vx_ot w = true) (h : w.before args s = true) : w.before a' U = true := by
  simp only [vx_ot, Bool.or_eq_true] at hg
  rcases hg with hg | hg
  · exact va_tabs hg hvm h
  · exact word_at hW (good_of_word hg) h
/-- a list's words: the good ones out of the method's own list, the others by premises of their own -/
theorem vx_hat {args : Array Value} {s : State} {L B : List Cond} (h1 : ∀ w ∈ L.filter goodWord, w.before args s = true) (h2 : ∀ w ∈ L.filter (fun w => !goodWord w), w ∈ B) (h3 : ∀ w ∈ B, w.before args s = true) : ∀ w ∈ L, w.before args s = true := by
  intro w hw
  by_cases g : goodWord w = true
  · exact h1 w (List.mem_filter.mpr ⟨hw, g⟩)
  · refine h3 w (h2 w (List.mem_filter.mpr ⟨hw, ?_⟩))
    show (!goodWord w) = true
    cases hgw : goodWord w
    · rfl
    · exact absurd hgw g
theorem vx_c {args : Array Value} {s : State} {w : Cond} {B : List Cond} (h : w.before args s = true) (t : ∀ w ∈ B, w.before args s = true) : ∀ w' ∈ w :: B, w'.before args s = true := fun w' h' => (List.mem_cons.mp h').elim (fun e => by rw [e]; exact h) (t w')
theorem vx_n {args : Array Value} {s : State} : ∀ w ∈ ([] : List Cond), w.before args s = true := fun _ h => nomatch h
theorem vx_own {args : Array Value} {s : State} {L : List Cond} (h1 : ∀ w ∈ L.filter vx_no, w.before args s = true)
    (hU : (Cond.isRef (.static Bundle.tN "UNASSIGNED_STACK" Bundle.steD)).before args s = true) (hN : (Cond.isRef (.static Bundle.tN "SUPPRESSED_SENTINEL" Bundle.listD)).before args s = true)
    (lU : (Cond.laysStatic Bundle.tN "UNASSIGNED_STACK" Bundle.steD).before args s = true) (lN : (Cond.laysStatic Bundle.tN "SUPPRESSED_SENTINEL" Bundle.listD).before args s = true) : ∀ w ∈ L, w.before args s = true := by
  intro w hw
  by_cases e1 : w = .isRef (.static Bundle.tN "UNASSIGNED_STACK" Bundle.steD)
  · rw [e1]; exact hU
  · by_cases e2 : w = .isRef (.static Bundle.tN "SUPPRESSED_SENTINEL" Bundle.listD)
    · rw [e2]; exact hN
    · by_cases e3 : w = .laysStatic Bundle.tN "UNASSIGNED_STACK" Bundle.steD
      · rw [e3]; exact lU
      · by_cases e4 : w = .laysStatic Bundle.tN "SUPPRESSED_SENTINEL" Bundle.listD
        · rw [e4]; exact lN
        · exact h1 w (List.mem_filter.mpr ⟨hw, by unfold vx_no; rw [decide_eq_true e1, decide_eq_true e2, decide_eq_true e3, decide_eq_true e4]; rfl⟩)
/-- where a static field lies, its class's statics cell in H -/
def vx_L (C n d : String) (A : Nat → Prop) (U : State) (H : Heap) : Prop := ∃ (c : ClassId) (k : Class) (i : Nat) (f : Field) (a : Nat) (cell : Cell), U.vm.findClass C = some c ∧ U.fieldFound? C n d = some (c, k, i, f) ∧ f.isStatic = true ∧ k.statics = some a ∧ H[a]? = some cell ∧ cell.vm.isStatics = true ∧ cell.cls = c ∧ f.slot < cell.slots.size ∧ k.staticTypes[f.slot]? = some f.type ∧ ¬ A a
theorem vx_L.moved {C n d : String} {A : Nat → Prop} {u U : State} {H : Heap} (hvm : u.vm.Alike U.vm) (h : vx_L C n d A u H) : vx_L C n d A U H := by
  obtain ⟨c, k, i, f, a, cell, h1, h2, h3, h4, h5, h6, h7, h8, h9, h10⟩ := h
  obtain ⟨k', hi', he⟩ := State.fieldFound?_setVm hvm h2
  exact ⟨c, k', i, f, a, cell, by rw [hvm.findClass]; exact h1, hi', h3, by rw [he]; exact h4, h5, h6, h7, h8, by rw [he]; exact h9, h10⟩
theorem vx_L.kept {C n d : String} {A : Nat → Prop} {U : State} {H H1 : Heap} (h : vx_L C n d A U H) (hq : ∀ a : Nat, a < H.size → ¬ A a → H1[a]? = H[a]?) : vx_L C n d A U H1 := by
  obtain ⟨c, k, i, f, a, cell, h1, h2, h3, h4, h5, h6, h7, h8, h9, h10⟩ := h
  exact ⟨c, k, i, f, a, cell, h1, h2, h3, h4, by rw [hq a (Array.getElem?_eq_some_iff.mp h5).1 h10]; exact h5, h6, h7, h8, h9, h10⟩
theorem vx_L.narrow {C n d : String} {A B : Nat → Prop} {U : State} {H : Heap} (h : vx_L C n d A U H) (hAB : ∀ q, B q → A q) : vx_L C n d B U H := by
  obtain ⟨c, k, i, f, a, cell, h1, h2, h3, h4, h5, h6, h7, h8, h9, h10⟩ := h
  exact ⟨c, k, i, f, a, cell, h1, h2, h3, h4, h5, h6, h7, h8, h9, fun z => h10 (hAB _ z)⟩
theorem vx_L.word {C n d : String} {A : Nat → Prop} {s : State} {args : Array Value} (h : vx_L C n d A s s.heap) : (Cond.laysStatic C n d).before args s = true := by
  obtain ⟨c, k, i, f, a, cell, h1, h2, h3, h4, h5, h6, h7, h8, h9, -⟩ := h
  show (Cond.laysStatic C n d).holds args s none s [] = true
  exact Cond.laysStatic_of h1 h2 h3 h4 h5 h6 h7 h8 h9
/-- .. and what it holds: null or some reference -/
def vx_Zq (C n d : String) (A : Nat → Prop) (U : State) (H : Heap) : Prop := va_Zq C n d A U H ∧ vx_L C n d A U H
theorem vx_Zq.moved {C n d : String} {A : Nat → Prop} {u U : State} {H : Heap} (hvm : u.vm.Alike U.vm) (h : vx_Zq C n d A u H) : vx_Zq C n d A U H := ⟨va_Zq.moved hvm h.1, vx_L.moved hvm h.2⟩
theorem vx_Zq.kept {C n d : String} {A : Nat → Prop} {U : State} {H H1 : Heap} (h : vx_Zq C n d A U H) (hq : ∀ a : Nat, a < H.size → ¬ A a → H1[a]? = H[a]?) : vx_Zq C n d A U H1 := ⟨va_Zq.kept h.1 hq, vx_L.kept h.2 hq⟩
theorem vx_Zq.narrow {C n d : String} {A B : Nat → Prop} {U : State} {H : Heap} (h : vx_Zq C n d A U H) (hAB : ∀ q, B q → A q) : vx_Zq C n d B U H := ⟨va_Zq.narrow h.1 hAB, vx_L.narrow h.2 hAB⟩
theorem vx_Zqof {args : Array Value} {s : State} {C n d : String} {A : Nat → Prop} (hl : (Cond.laysStatic C n d).before args s = true) (hini : (Cond.initialized C).before args s = true) (h : (Cond.isRef (.static C n d)).before args s = true) (hA : ∀ a : Nat, a < s.heap.size → ¬ A a) : vx_Zq C n d A s s.heap := by
  refine ⟨va_Zqof hl hini h hA, ?_⟩
  obtain ⟨c, k, i, f, a, cell, h1, h2, h3, h4, h5, h6, h7, h8, h9⟩ := Cond.laysStatic_spec hl
  exact ⟨c, k, i, f, a, cell, h1, h2, h3, h4, h5, h6, h7, h8, h9, hA a (Array.getElem?_eq_some_iff.mp h5).1⟩
theorem vx_isRef {C n d : String} {v : Value} {A : Nat → Prop} {s : State} {args : Array Value} (h : va_Z C n d v A s s.heap) (hv : v.isRef = true) : (Cond.isRef (.static C n d)).before args s = true := by
  obtain ⟨cf, kf, fi, f, a, cell, h1, h2, h3, h4, h5, h6, h7, -⟩ := h
  have he : (Term.static C n d).eval args s none [] s = some v := by
    simp [Term.eval, State.fieldNamed?, h1, h2, h4, h5, h6, h7]
  simp only [Cond.before, Cond.holds, Cond.value, he]
  cases v <;> simp_all [Value.isRef]
theorem vx_isRefq {C n d : String} {A : Nat → Prop} {s : State} {args : Array Value} (h : va_Zq C n d A s s.heap) : (Cond.isRef (.static C n d)).before args s = true := by
  rcases h with h | ⟨t, h⟩
  · exact vx_isRef h rfl
  · exact vx_isRef h rfl
/-- the same frame, seen from here: as if the method were called anew in this heap -/
theorem vx_rebase {T : State} (X : Stand p l e R s m args below meth c T locs cells slots) {R' : Room} (hf : R'.frames ≤ R.frames) (hl : R'.locals ≤ R.locals) (hc : cells + R'.cells ≤ R.cells) (hs : slots + R'.slots ≤ R.slots) :
    Stand p l e R' ((T.setVm s.vm).setFrames (.invoking m args :: below)) m args below meth c T [] 0 0 := by
  have htop : (T.setVm s.vm).topJava?.isSome := X.here.top
  have hF : ((T.setVm s.vm).setFrames (.invoking m args :: below)).frames = .invoking m args :: below := State.frames_setFrames _ (State.cur_lt_of_top htop)
  obtain ⟨g₀, hg0⟩ := Option.isSome_iff_exists.mp htop
  obtain ⟨r, hr⟩ := State.topJava?_eq_some.mp hg0
  have hl9 : e.platform.stackLimits (T.setVm s.vm).me = e.platform.stackLimits s.me := X.limits
  have hb9 : (T.setVm s.vm).me.stackBytes = s.me.stackBytes := X.bytes
  refine ⟨X.admits, X.cas, X.clock, hF, ?_, X.hears, X.method, X.code, X.here, X.tail, X.warmed, ?_, ?_, ?_⟩
  · have h := X.room
    have hU : ((T.setVm s.vm).setFrames (.invoking m args :: below)).localsInUse = s.localsInUse := by
      rw [State.localsInUse_invoking hF (meth := meth) (c := c) X.method X.code, State.localsInUse_invoking X.frames X.method X.code]
    simp only [State.hasRoom, Bool.and_eq_true, decide_eq_true_eq] at h ⊢
    obtain ⟨⟨⟨⟨h1, h2, h3, h4, h5, h6⟩, h7⟩, h8⟩, h9⟩ := h
    rw [X.frames, List.length_cons] at h2 h3
    have q1 := X.heapSize
    have q2 := X.used
    simp only [hF, hU, List.length_cons, State.stackLimits_setFrames, State.stackBytes_setFrames, hl9, hb9]
    refine ⟨⟨⟨⟨by omega, by omega, by omega, by omega, by omega, h6⟩, ?_⟩, ?_⟩, X.book⟩
    · show T.heap.size + R'.cells ≤ e.platform.maxCells
      omega
    · show T.slotsUsed + R'.slots ≤ e.platform.maxSlots
      omega
  · rw [State.stackLimits_setFrames]; rfl
  · rw [State.stackBytes_setFrames]; rfl
  · refine ⟨?_, Nat.le_refl _, Nat.le_refl _, ?_, ?_, fun a c9 h9 => ⟨c9, h9, rfl, rfl, fun _ _ => rfl⟩⟩
    · obtain ⟨t, ht, -⟩ := State.frames_cons hr
      show T.setVm s.vm = { ((T.setVm s.vm).setFrames (.invoking m args :: below)).setFrames (T.setVm s.vm).frames with heap := T.heap, slotsUsed := T.slotsUsed }
      rw [State.setFrames_setFrames, State.setFrames_self ht]
      rfl
    · show T.slotsUsed = T.slotsUsed + ((T.heap.toList.drop T.heap.size).map (·.slots.size)).sum
      rw [List.drop_eq_nil_of_le (Nat.le_of_eq Array.length_toList)]
      rfl
    · show ((T.heap.toList.drop T.heap.size).map (·.slots.size)).sum ≤ 0
      rw [List.drop_eq_nil_of_le (Nat.le_of_eq Array.length_toList)]
      exact Nat.le_refl _
/-- 'throw new E()': new; dup; invokespecial; athrow -/
theorem vx_throw0 {cc : ByteArray} {pc : Nat} (hexec : p.tables.exec = Jvm.exec) (hb : c.code = cc) (hl : l.stackTraces = false) {own cls : String} {names : List String} {ik ic mc ms : Nat} {A : Nat → Prop}
    (hown : s.vm.findClass own = some m.cls) (hcls : Bundle.fit cls = true) (hnames : ∀ n ∈ names, Bundle.fit n = true)
    (hk : (Cond.classLink own ik cls).before args s = true) (hini : (Cond.initialized cls).before args s = true) (hat : ∀ w ∈ vx_at0 own ic cls names, w.before args s = true)
    (hgood : ∀ w ∈ Cond.classLink own ik cls :: Cond.initialized cls :: vx_at0 own ic cls names, vx_ot w = true)
    (hU : vx_Zq Bundle.tN "UNASSIGNED_STACK" Bundle.steD A s s.heap) (hN : vx_Zq Bundle.tN "SUPPRESSED_SENTINEL" Bundle.listD A s s.heap) (hS : va_S A s.heap H locs) (hsize : ls.size = c.maxLocals)
    (d0 : decode cc pc = .ok (.new ik, 3)) (d3 : decode cc (pc + 3) = .ok (.dup, 1)) (d4 : decode cc (pc + 4) = .ok (.invokespecial ic, 3)) (d7 : decode cc (pc + 7) = .ok (.athrow, 1))
    (hout : ∀ x ∈ c.exceptionTable.toList, covers x (pc + 7) = false)
    (hRframes : names.length + 3 < R.frames) (hRlocals : (rest.map fun v => v.category).sum + (13 * (names.length + 1) + 42) ≤ R.locals) (hRcells : cells + 1 ≤ R.cells) (hRslots : slots + 6 ≤ R.slots) (hlocks : meth.locks = false)
    (hx : ∀ t : State, s.vm.Alike t.vm → H.size ≤ t.heap.size → (∀ q : Nat, q < H.size → t.heap[q]? = H[q]?) → XC cls s t)
    (hf : ∀ z ∈ locs, free z.base) (hc : cells + 1 ≤ mc) (hs : slots + 6 ≤ ms) :
    W p l e R s m args below meth c H locs cells slots (vx_MQ below Qc XC args s mc ms free) (F0 m pc ls rest) := by
  intro T hT X
  have htr : e.platform.stackTraces = false := (show e.platform.stackTraces = l.stackTraces by rw [X.admits.platform]).trans hl
  have Y := vx_rebase X (R' := { frames := R.frames, locals := R.locals, cells := 1, slots := 6 }) (Nat.le_refl _) (Nat.le_refl _) hRcells hRslots
  obtain ⟨s', hA⟩ : ∃ z, z = (T.setVm s.vm).setFrames (.invoking m args :: below) := ⟨_, rfl⟩
  rw [← hA] at Y
  have hvm : s'.vm = s.vm := by rw [hA]; rfl
  have hhp : s'.heap = H := by rw [hA]; exact hT
  have hW0 : s.WarmedH s'.vm := by rw [hvm]; exact State.WarmedH.refl s
  have hat' : ∀ w ∈ vx_at0 own ic cls names, w.before args s' = true := fun w hw => vx_ot_at hW0 hvm.symm (hgood w (List.mem_cons_of_mem _ (List.mem_cons_of_mem _ hw))) (hat w hw)
  have hk' : (Cond.classLink own ik cls).before args s' = true := vx_ot_at hW0 hvm.symm (hgood _ List.mem_cons_self) hk
  have hini' : (Cond.initialized cls).before args s' = true := vx_ot_at hW0 hvm.symm (hgood _ (List.mem_cons_of_mem _ List.mem_cons_self)) hini
  have hU' : vx_Zq Bundle.tN "UNASSIGNED_STACK" Bundle.steD A s' s'.heap := by rw [hhp]; exact vx_Zq.moved hW0.alike (hU.kept hS.2.1)
  have hN' : vx_Zq Bundle.tN "SUPPRESSED_SENTINEL" Bundle.listD A s' s'.heap := by rw [hhp]; exact vx_Zq.moved hW0.alike (hN.kept hS.2.1)
  have h : ∀ w ∈ Bundle.ownAtoms0 own ic cls names, w.before args s' = true := vx_own hat' (vx_isRefq hU'.1) (vx_isRefq hN'.1) hU'.2.word hN'.2.word
  have hown' : s'.vm.findClass own = some m.cls := by rw [hvm]; exact hown
  have hins : (Cond.instantiable cls 6).before args s' = true := h _ (by simp [Bundle.ownAtoms0])
  obtain ⟨vm₁, cX, kX, hfX, hkX, -, -, X₁, st1⟩ := Y.newCold hexec (own := own) (C := cls) (index := ik) (n := 6) hown' hk' hins hini'
    (g := F0 m pc ls rest) rfl (by rw [hb]; exact d0) (Nat.le_refl _) (Nat.le_refl _)
  generalize hT1 : (T.setVm vm₁).pushCell { cls := cX, slots := kX.instanceTypes.map defaultValue, vm := .none } = T1 at X₁ st1
  have hcat : (Value.ref T.heap.size).category = 1 := rfl
  have hcellA : T1.heap[T.heap.size]? = some (freshCell cX kX) := by rw [← hT1]; exact State.heap_pushCell_size _ _
  have d3' : decode c.code (pc + 3) = .ok (.dup, 1) := by rw [hb]; exact d3
  obtain ⟨U, hsteps, hrun, hend, hW, hsame, ce, hce, hO⟩ := X₁.ctorThrow0 hexec htr (own := own) (cls := cls) (names := names) (ic := ic) hown' hcls hnames h (fun x hx => nomatch hx) hfX hkX hcellA (by rw [hhp, hT]; exact Nat.le_refl _)
    (g := { method := m, pc := pc + 4, locals := ls, stack := .ref T.heap.size :: .ref T.heap.size :: rest, locked := none }) rfl hsize rfl rfl (rest := rest) rfl
    (by rw [hb]; exact d4) (by rw [hb]; exact d7) hout hRframes (by simp only [List.map_cons, List.sum_cons, hcat]; omega) hlocks
  obtain ⟨f1, f2⟩ := vx_frame hsame
  rw [hhp] at f1 f2
  have hWs : s.WarmedH U.vm := State.WarmedH.trans hW0 hW
  have hcl : s.vm.findClass cls = some ce.cls := by
    have h9 := hO.cls
    rw [hvm] at h9
    exact h9
  have hall : s.sameButNew ({ U with vm := s.vm } : State) locs mc ms := by
    subst hA
    obtain ⟨e1, e2⟩ := hsame
    rw [State.setFrames_setFrames] at e1
    have h2 : (T.setVm s.vm).sameButNew ({ U with vm := s.vm } : State) [] (0 + 1) (0 + 6) := ⟨e1, e2⟩
    have h3 := X.same.trans h2
    rw [List.append_nil] at h3
    exact h3.mono hc hs
  refine ⟨U, ?_, .threw T.heap.size, hrun, hend, Or.inr ⟨T.heap.size, rfl, cls, ce, locs, hx U hWs.alike f1 (fun q hq => f2 q hq (fun z hz => nomatch hz)), hce, hO.vm, hcl, hWs, hall, hf⟩⟩
  refine st1 _ ?_
  show Steps p.tables e below (T1.setTop { method := m, pc := pc + 3, locals := ls, stack := .ref T.heap.size :: rest, locked := none }) _
  jvm_step X₁.here [X₁.here.top, hexec, d3', Value.category]
  exact hsteps
/-- 'throw new E("text")': new; dup; ldc; invokespecial; athrow -/
theorem vx_throwS {cc : ByteArray} {pc : Nat} (hexec : p.tables.exec = Jvm.exec) (hb : c.code = cc) (hl : l.stackTraces = false) {own cls text : String} {names : List String} {ik is ic mc ms sa : Nat} {A : Nat → Prop}
    (hown : s.vm.findClass own = some m.cls) (hcls : Bundle.fit cls = true) (hnames : ∀ n ∈ names, Bundle.fit n = true)
    (hk : (Cond.classLink own ik cls).before args s = true) (hini : (Cond.initialized cls).before args s = true) (hstr : vk_R own is text sa s) (hat : ∀ w ∈ vx_atS own ic cls names, w.before args s = true)
    (hgood : ∀ w ∈ Cond.classLink own ik cls :: Cond.initialized cls :: vx_atS own ic cls names, vx_ot w = true)
    (hU : vx_Zq Bundle.tN "UNASSIGNED_STACK" Bundle.steD A s s.heap) (hN : vx_Zq Bundle.tN "SUPPRESSED_SENTINEL" Bundle.listD A s s.heap) (hS : va_S A s.heap H locs) (hsize : ls.size = c.maxLocals)
    (d0 : decode cc pc = .ok (.new ik, 3)) (d3 : decode cc (pc + 3) = .ok (.dup, 1)) (d4 : decode cc (pc + 4) = .ok (.ldc is, 2)) (d6 : decode cc (pc + 6) = .ok (.invokespecial ic, 3)) (d9 : decode cc (pc + 9) = .ok (.athrow, 1))
    (hout : ∀ x ∈ c.exceptionTable.toList, covers x (pc + 9) = false)
    (hRframes : names.length + 3 < R.frames) (hRlocals : (rest.map fun v => v.category).sum + (13 * (names.length + 1) + 43) ≤ R.locals) (hRcells : cells + 1 ≤ R.cells) (hRslots : slots + 6 ≤ R.slots) (hlocks : meth.locks = false)
    (hx : ∀ t : State, s.vm.Alike t.vm → H.size ≤ t.heap.size → (∀ q : Nat, q < H.size → t.heap[q]? = H[q]?) → XC cls s t)
    (hf : ∀ z ∈ locs, free z.base) (hc : cells + 1 ≤ mc) (hs : slots + 6 ≤ ms) :
    W p l e R s m args below meth c H locs cells slots (vx_MQ below Qc XC args s mc ms free) (F0 m pc ls rest) := by
  intro T hT X
  have htr : e.platform.stackTraces = false := (show e.platform.stackTraces = l.stackTraces by rw [X.admits.platform]).trans hl
  have Y := vx_rebase X (R' := { frames := R.frames, locals := R.locals, cells := 1, slots := 6 }) (Nat.le_refl _) (Nat.le_refl _) hRcells hRslots
  obtain ⟨s', hA⟩ : ∃ z, z = (T.setVm s.vm).setFrames (.invoking m args :: below) := ⟨_, rfl⟩
  rw [← hA] at Y
  have hvm : s'.vm = s.vm := by rw [hA]; rfl
  have hhp : s'.heap = H := by rw [hA]; exact hT
  have hW0 : s.WarmedH s'.vm := by rw [hvm]; exact State.WarmedH.refl s
  have hat' : ∀ w ∈ vx_atS own ic cls names, w.before args s' = true := fun w hw => vx_ot_at hW0 hvm.symm (hgood w (List.mem_cons_of_mem _ (List.mem_cons_of_mem _ hw))) (hat w hw)
  have hk' : (Cond.classLink own ik cls).before args s' = true := vx_ot_at hW0 hvm.symm (hgood _ List.mem_cons_self) hk
  have hini' : (Cond.initialized cls).before args s' = true := vx_ot_at hW0 hvm.symm (hgood _ (List.mem_cons_of_mem _ List.mem_cons_self)) hini
  have hU' : vx_Zq Bundle.tN "UNASSIGNED_STACK" Bundle.steD A s' s'.heap := by rw [hhp]; exact vx_Zq.moved hW0.alike (hU.kept hS.2.1)
  have hN' : vx_Zq Bundle.tN "SUPPRESSED_SENTINEL" Bundle.listD A s' s'.heap := by rw [hhp]; exact vx_Zq.moved hW0.alike (hN.kept hS.2.1)
  have h : ∀ w ∈ Bundle.ownAtoms own ic cls names, w.before args s' = true := vx_own hat' (vx_isRefq hU'.1) (vx_isRefq hN'.1) hU'.2.word hN'.2.word
  have hown' : s'.vm.findClass own = some m.cls := by rw [hvm]; exact hown
  have hins : (Cond.instantiable cls 6).before args s' = true := h _ (by simp [Bundle.ownAtoms])
  obtain ⟨vm₁, cX, kX, hfX, hkX, -, -, X₁, st1⟩ := Y.newCold hexec (own := own) (C := cls) (index := ik) (n := 6) hown' hk' hins hini'
    (g := F0 m pc ls rest) rfl (by rw [hb]; exact d0) (Nat.le_refl _) (Nat.le_refl _)
  generalize hT1 : (T.setVm vm₁).pushCell { cls := cX, slots := kX.instanceTypes.map defaultValue, vm := .none } = T1 at X₁ st1
  have hcat : (Value.ref T.heap.size).category = 1 := rfl
  have hcellA : T1.heap[T.heap.size]? = some (freshCell cX kX) := by rw [← hT1]; exact State.heap_pushCell_size _ _
  have d3' : decode c.code (pc + 3) = .ok (.dup, 1) := by rw [hb]; exact d3
  have d4' : decode c.code (pc + 4) = .ok (.ldc is, 2) := by rw [hb]; exact d4
  have hstr' : vk_R own is text sa s' := vk_R.warm hW0 hstr
  obtain ⟨U, hsteps, hrun, hend, hW, hsame, ce, hce, hO⟩ := X₁.ctorThrowS hexec htr (own := own) (cls := cls) (names := names) (ic := ic) hown' hcls hnames h (fun x hx => nomatch hx) hfX hkX hcellA (by rw [hhp, hT]; exact Nat.le_refl _) (msg := .ref sa) rfl
    (g := { method := m, pc := pc + 6, locals := ls, stack := .ref sa :: .ref T.heap.size :: .ref T.heap.size :: rest, locked := none }) rfl hsize rfl rfl (rest := rest) rfl
    (by rw [hb]; exact d6) (by rw [hb]; exact d9) hout hRframes (by simp only [List.map_cons, List.sum_cons, hcat]; omega) hlocks
  obtain ⟨f1, f2⟩ := vx_frame hsame
  rw [hhp] at f1 f2
  have hWs : s.WarmedH U.vm := State.WarmedH.trans hW0 hW
  have hcl : s.vm.findClass cls = some ce.cls := by
    have h9 := hO.cls
    rw [hvm] at h9
    exact h9
  have hall : s.sameButNew ({ U with vm := s.vm } : State) locs mc ms := by
    subst hA
    obtain ⟨e1, e2⟩ := hsame
    rw [State.setFrames_setFrames] at e1
    have h2 : (T.setVm s.vm).sameButNew ({ U with vm := s.vm } : State) [] (0 + 1) (0 + 6) := ⟨e1, e2⟩
    have h3 := X.same.trans h2
    rw [List.append_nil] at h3
    exact h3.mono hc hs
  refine ⟨U, ?_, .threw T.heap.size, hrun, hend, Or.inr ⟨T.heap.size, rfl, cls, ce, locs, hx U hWs.alike f1 (fun q hq => f2 q hq (fun z hz => nomatch hz)), hce, hO.vm, hcl, hWs, hall, hf⟩⟩
  refine st1 _ ?_
  show Steps p.tables e below (T1.setTop { method := m, pc := pc + 3, locals := ls, stack := .ref T.heap.size :: rest, locked := none }) _
  jvm_step X₁.here [X₁.here.top, hexec, d3', Value.category]
  exact X₁.ldcString hexec (own := own) (text := text) (index := is) (a := sa) hown' hstr'.1 hstr'.2
    (g := { method := m, pc := pc + 4, locals := ls, stack := .ref T.heap.size :: .ref T.heap.size :: rest, locked := none }) rfl d4' _ hsteps
/-- 'throw new E("text")', the text by a wide index -/
theorem vx_throwSW {cc : ByteArray} {pc : Nat} (hexec : p.tables.exec = Jvm.exec) (hb : c.code = cc) (hl : l.stackTraces = false) {own cls text : String} {names : List String} {ik is ic mc ms sa : Nat} {A : Nat → Prop}
    (hown : s.vm.findClass own = some m.cls) (hcls : Bundle.fit cls = true) (hnames : ∀ n ∈ names, Bundle.fit n = true)
    (hk : (Cond.classLink own ik cls).before args s = true) (hini : (Cond.initialized cls).before args s = true) (hstr : vk_R own is text sa s) (hat : ∀ w ∈ vx_atS own ic cls names, w.before args s = true)
    (hgood : ∀ w ∈ Cond.classLink own ik cls :: Cond.initialized cls :: vx_atS own ic cls names, vx_ot w = true)
    (hU : vx_Zq Bundle.tN "UNASSIGNED_STACK" Bundle.steD A s s.heap) (hN : vx_Zq Bundle.tN "SUPPRESSED_SENTINEL" Bundle.listD A s s.heap) (hS : va_S A s.heap H locs) (hsize : ls.size = c.maxLocals)
    (d0 : decode cc pc = .ok (.new ik, 3)) (d3 : decode cc (pc + 3) = .ok (.dup, 1)) (d4 : decode cc (pc + 4) = .ok (.ldc_w is, 3)) (d7 : decode cc (pc + 7) = .ok (.invokespecial ic, 3)) (d10 : decode cc (pc + 10) = .ok (.athrow, 1))
    (hout : ∀ x ∈ c.exceptionTable.toList, covers x (pc + 10) = false)
    (hRframes : names.length + 3 < R.frames) (hRlocals : (rest.map fun v => v.category).sum + (13 * (names.length + 1) + 43) ≤ R.locals) (hRcells : cells + 1 ≤ R.cells) (hRslots : slots + 6 ≤ R.slots) (hlocks : meth.locks = false)
    (hx : ∀ t : State, s.vm.Alike t.vm → H.size ≤ t.heap.size → (∀ q : Nat, q < H.size → t.heap[q]? = H[q]?) → XC cls s t)
    (hf : ∀ z ∈ locs, free z.base) (hc : cells + 1 ≤ mc) (hs : slots + 6 ≤ ms) :
    W p l e R s m args below meth c H locs cells slots (vx_MQ below Qc XC args s mc ms free) (F0 m pc ls rest) := by
  intro T hT X
  have htr : e.platform.stackTraces = false := (show e.platform.stackTraces = l.stackTraces by rw [X.admits.platform]).trans hl
  have Y := vx_rebase X (R' := { frames := R.frames, locals := R.locals, cells := 1, slots := 6 }) (Nat.le_refl _) (Nat.le_refl _) hRcells hRslots
  obtain ⟨s', hA⟩ : ∃ z, z = (T.setVm s.vm).setFrames (.invoking m args :: below) := ⟨_, rfl⟩
  rw [← hA] at Y
  have hvm : s'.vm = s.vm := by rw [hA]; rfl
  have hhp : s'.heap = H := by rw [hA]; exact hT
  have hW0 : s.WarmedH s'.vm := by rw [hvm]; exact State.WarmedH.refl s
  have hat' : ∀ w ∈ vx_atS own ic cls names, w.before args s' = true := fun w hw => vx_ot_at hW0 hvm.symm (hgood w (List.mem_cons_of_mem _ (List.mem_cons_of_mem _ hw))) (hat w hw)
  have hk' : (Cond.classLink own ik cls).before args s' = true := vx_ot_at hW0 hvm.symm (hgood _ List.mem_cons_self) hk
  have hini' : (Cond.initialized cls).before args s' = true := vx_ot_at hW0 hvm.symm (hgood _ (List.mem_cons_of_mem _ List.mem_cons_self)) hini
  have hU' : vx_Zq Bundle.tN "UNASSIGNED_STACK" Bundle.steD A s' s'.heap := by rw [hhp]; exact vx_Zq.moved hW0.alike (hU.kept hS.2.1)
  have hN' : vx_Zq Bundle.tN "SUPPRESSED_SENTINEL" Bundle.listD A s' s'.heap := by rw [hhp]; exact vx_Zq.moved hW0.alike (hN.kept hS.2.1)
  have h : ∀ w ∈ Bundle.ownAtoms own ic cls names, w.before args s' = true := vx_own hat' (vx_isRefq hU'.1) (vx_isRefq hN'.1) hU'.2.word hN'.2.word
  have hown' : s'.vm.findClass own = some m.cls := by rw [hvm]; exact hown
  have hins : (Cond.instantiable cls 6).before args s' = true := h _ (by simp [Bundle.ownAtoms])
  obtain ⟨vm₁, cX, kX, hfX, hkX, -, -, X₁, st1⟩ := Y.newCold hexec (own := own) (C := cls) (index := ik) (n := 6) hown' hk' hins hini'
    (g := F0 m pc ls rest) rfl (by rw [hb]; exact d0) (Nat.le_refl _) (Nat.le_refl _)
  generalize hT1 : (T.setVm vm₁).pushCell { cls := cX, slots := kX.instanceTypes.map defaultValue, vm := .none } = T1 at X₁ st1
  have hcat : (Value.ref T.heap.size).category = 1 := rfl
  have hcellA : T1.heap[T.heap.size]? = some (freshCell cX kX) := by rw [← hT1]; exact State.heap_pushCell_size _ _
  have d3' : decode c.code (pc + 3) = .ok (.dup, 1) := by rw [hb]; exact d3
  have d4' : decode c.code (pc + 4) = .ok (.ldc_w is, 3) := by rw [hb]; exact d4
  have hstr' : vk_R own is text sa s' := vk_R.warm hW0 hstr
  obtain ⟨U, hsteps, hrun, hend, hW, hsame, ce, hce, hO⟩ := X₁.ctorThrowS hexec htr (own := own) (cls := cls) (names := names) (ic := ic) hown' hcls hnames h (fun x hx => nomatch hx) hfX hkX hcellA (by rw [hhp, hT]; exact Nat.le_refl _) (msg := .ref sa) rfl
    (g := { method := m, pc := pc + 7, locals := ls, stack := .ref sa :: .ref T.heap.size :: .ref T.heap.size :: rest, locked := none }) rfl hsize rfl rfl (rest := rest) rfl
    (by rw [hb]; exact d7) (by rw [hb]; exact d10) hout hRframes (by simp only [List.map_cons, List.sum_cons, hcat]; omega) hlocks
  obtain ⟨f1, f2⟩ := vx_frame hsame
  rw [hhp] at f1 f2
  have hWs : s.WarmedH U.vm := State.WarmedH.trans hW0 hW
  have hcl : s.vm.findClass cls = some ce.cls := by
    have h9 := hO.cls
    rw [hvm] at h9
    exact h9
  have hall : s.sameButNew ({ U with vm := s.vm } : State) locs mc ms := by
    subst hA
    obtain ⟨e1, e2⟩ := hsame
    rw [State.setFrames_setFrames] at e1
    have h2 : (T.setVm s.vm).sameButNew ({ U with vm := s.vm } : State) [] (0 + 1) (0 + 6) := ⟨e1, e2⟩
    have h3 := X.same.trans h2
    rw [List.append_nil] at h3
    exact h3.mono hc hs
  refine ⟨U, ?_, .threw T.heap.size, hrun, hend, Or.inr ⟨T.heap.size, rfl, cls, ce, locs, hx U hWs.alike f1 (fun q hq => f2 q hq (fun z hz => nomatch hz)), hce, hO.vm, hcl, hWs, hall, hf⟩⟩
  refine st1 _ ?_
  show Steps p.tables e below (T1.setTop { method := m, pc := pc + 3, locals := ls, stack := .ref T.heap.size :: rest, locked := none }) _
  jvm_step X₁.here [X₁.here.top, hexec, d3', Value.category]
  exact X₁.ldcStringW hexec (own := own) (text := text) (index := is) (a := sa) hown' hstr'.1 hstr'.2
    (g := { method := m, pc := pc + 4, locals := ls, stack := .ref T.heap.size :: .ref T.heap.size :: rest, locked := none }) rfl d4' _ hsteps
end Ends
section Bodies
variable {l : Launch}
theorem vx_ofW {y : MethodName} {ws ws' : List Cond} {rm : Room} {Pc : Array Value → State → Prop} {Qc : Array Value → State → Outcome → State → Prop} {XC : String → State → State → Prop} {mc ms : Nat} {free : Addr → Prop} {cc : ByteArray} {maxL : Nat} {ret : Option FieldType}
    (hy : plainName y.cls = true) (hw : ws = Cond.code y cc maxL ret :: ws')
    (body : ∀ p e s m args below meth c s₁, BodyLoose p l y (headSpec ws rm) cc maxL ret e s m args below meth c s₁ → c.maxLocals = maxL → (∀ x ∈ c.exceptionTable.toList, False) → Pc args s →
      W p l e (headSpec ws rm).room s m args below meth c s.heap [] 0 0 (vx_MQ below Qc XC args s mc ms free) (entryFrame m args maxL)) : vx_Met l y ws rm Pc Qc XC mc ms free := by
  refine MetFree.of_bodyS (code := cc) (maxLocals := maxL) (ret := ret) hy ?_ ?_
  · intro args s m h hn
    obtain ⟨meth, c, h1, h2, h3, h4, h5, h6, -, -⟩ := Cond.code_spec hn (atoms_spec (ws := ws) h _ (by rw [hw]; exact List.mem_cons_self))
    exact ⟨meth, c, h1, h2, h3, h4, h5, h6⟩
  · intro p e s m args below meth c s₁ B hml hP _
    have hh0 : s₁.heap = s.heap := by rw [B.state]; rfl
    have ht : ∀ x ∈ c.exceptionTable.toList, False := by
      obtain ⟨meth9, c9, h1, h2, -, -, -, -, h7, -⟩ := Cond.code_spec B.named (atoms_spec (ws := ws) B.pre _ (by rw [hw]; exact List.mem_cons_self))
      cases Option.some.inj (h1.symm.trans B.method)
      cases Option.some.inj (h2.symm.trans (Stand.of_body B).code)
      intro x hx
      rw [Array.isEmpty_iff.mp h7] at hx
      cases hx
    obtain ⟨t, a1, o, b1, b2, b3⟩ := body p e s m args below meth c s₁ B hml ht hP s₁ hh0 (Stand.of_body B)
    exact ⟨t, o, a1, b1, b2, b3⟩
/-- the table of a body with handlers -/
theorem vx_table {p : Program} {x y : MethodName} {S : Spec} {cc bytes : ByteArray} {maxL maxL' : Nat} {ret ret' : Option FieldType} {e : Env} {s s₁ : State} {m : MethodId} {args : Array Value} {below : List Frame} {meth : Method} {c : Code} {hh : List (Nat × Nat × Nat × Nat)}
    (B : BodyLoose p l y S cc maxL ret e s m args below meth c s₁) (h : (Cond.codeWith y bytes maxL' ret' hh).before args s = true) : c.exceptionTable.toList = tableOf hh := by
  obtain ⟨m9, meth9, c9, hn9, h1, h2, -, -, h6, -⟩ := Cond.codeWith_spec h
  cases Option.some.inj (hn9.symm.trans B.named)
  cases Option.some.inj (h1.symm.trans B.method)
  cases Option.some.inj (h2.symm.trans (Stand.of_body B).code)
  rw [← h6, table_eq]
end Bodies
end VXA
/-! ===== END ===== -/
/-! ===== BEGIN a static call of a method with an exception table ===== -/
section VXS
variable {p : Program} {l : Launch} {e : Env} {R : Room} {s : State} {m : MethodId} {args : Array Value} {below : List Frame} {meth : Method} {c : Code} {T : State} {H : Heap} {locs : List Loc} {cells slots : Nat}
abbrev vx_CSW (R : Room) (s : State) (args : Array Value) (own : String) (index : Nat) (y : MethodName) (bytes : ByteArray) (maxL : Nat) (ret : Option FieldType) (hh : List (Nat × Nat × Nat × Nat)) (ws : List Cond) (rm : Room) (mc ms n : Nat) : Prop :=
  (rm.cells = mc ∧ rm.slots = ms ∧ rm.frames + 1 ≤ R.frames ∧ 8 + (maxL + 11) + rm.locals ≤ R.locals ∧ (∀ w ∈ ws, ∀ (a' : Array Value) (U : State), s.WarmedH U.vm → w.before a' U = true) ∧ Cond.codeWith y bytes maxL ret hh ∈ ws) ∧
  (Cond.codeWith y bytes maxL ret hh).before args s = true ∧ (Cond.initialized y.cls).before args s = true ∧ (y.cls ≠ "java/lang/invoke/MethodHandle" ∧ y.cls ≠ "java/lang/invoke/VarHandle") ∧
  (∀ sig, parseMethodDescriptor y.desc = some sig → n = sig.parameters.length) ∧ (Cond.methodLink own index y).before args s = true ∧ (Cond.static y).before args s = true
theorem vx_cwSW {own : String} {index maxL mc ms : Nat} {y : MethodName} {bytes : ByteArray} {ret : Option FieldType} {hh : List (Nat × Nat × Nat × Nat)} {Ts ws ws' : List Cond} {rm : Room} (n : Nat) (ht : ∀ w ∈ Ts, w.before args s = true) (hT : GoodIn Ts (va_wsS own index y ws)) (hw : ws = Cond.codeWith y bytes maxL ret hh :: ws') (hrc : rm.cells = mc) (hrs : rm.slots = ms)
    (hd : y.cls ≠ "java/lang/invoke/MethodHandle" ∧ y.cls ≠ "java/lang/invoke/VarHandle" ∧ (parseMethodDescriptor y.desc).map (fun d => d.parameters.length) = some n) (hR : rm.frames + 1 ≤ R.frames ∧ 8 + (maxL + 11) + rm.locals ≤ R.locals) :
    vx_CSW R s args own index y bytes maxL ret hh ws rm mc ms n := by
  have ok : ∀ w ∈ va_wsS own index y ws, w.before args s = true := fun w h => ht w (hT w h).1
  have hG : GoodIn Ts ws := fun w h => hT w (by unfold va_wsS; exact List.mem_append_right _ h)
  have hc : Cond.codeWith y bytes maxL ret hh ∈ ws := by rw [hw]; exact List.mem_cons_self
  refine ⟨⟨hrc, hrs, hR.1, hR.2, pay_in ht hG, hc⟩, ht _ (hG _ hc).1, ok _ (by simp [va_wsS]), ⟨hd.1, hd.2.1⟩, fun sig h => ?_, ok _ (by simp [va_wsS]), ok _ (by simp [va_wsS])⟩
  have h2 := hd.2.2
  rw [h] at h2
  exact (Option.some.inj h2).symm
theorem vx_callSW (X : Stand p l e R s m args below meth c T locs cells slots) (hexec : p.tables.exec = Jvm.exec) {own : String} {index : Nat} {y : MethodName} {bytes : ByteArray} {maxL : Nat} {ret : Option FieldType} {hh : List (Nat × Nat × Nat × Nat)}
    (hown : s.vm.findClass own = some m.cls) (hlink : (Cond.methodLink own index y).before args s = true) (hstat : (Cond.static y).before args s = true) (hinit : (Cond.initialized y.cls).before args s = true)
    (hcode : (Cond.codeWith y bytes maxL ret hh).before args s = true) (hy : y.cls ≠ "java/lang/invoke/MethodHandle" ∧ y.cls ≠ "java/lang/invoke/VarHandle")
    {W9 : Nat} {Pre : Pt → Array Value → Prop} {Post : Pt → Array Value → Option Value → Pt → Prop} (hK : Back l R p e below s args y 3 W9 Pre Post)
    {g : JFrame} (hg : g.method = m) (hsize : g.locals.size = c.maxLocals) {argsL rest : List Value} (hlen : ∀ sig, parseMethodDescriptor y.desc = some sig → argsL.length = sig.parameters.length)
    (hstack : g.stack = argsL.reverse ++ rest) (hW : 2 * g.monitorRoom + (rest.map fun v => v.category).sum ≤ W9) (hdg : decode c.code g.pc = .ok (.invokestatic index, 3))
    (hpre : ∀ vm₁, s.WarmedH vm₁ → Pre ⟨T.setVm vm₁, locs, cells, slots⟩ argsL.toArray) :
    ∃ (v : Option Value) (vm₁ : Vm) (B : Pt), s.WarmedH vm₁ ∧ Stand p l e R s m args below meth c B.U B.locs B.cells B.slots ∧ Post ⟨T.setVm vm₁, locs, cells, slots⟩ argsL.toArray v B ∧
      ∀ target, Steps p.tables e below (B.U.setTop { g with pc := g.pc + 3, stack := v.toList ++ rest }) target → Steps p.tables e below (T.setTop g) target := by
  obtain ⟨mk, methM, cM, hnamed, hmethM, -, -, -, -, -, -, hsigM⟩ := Cond.codeWith_spec hcode
  have hstatic : methM.isStatic = true := Cond.static_spec hnamed hmethM hstat
  obtain ⟨kP, hkP, -⟩ := className_of_methodNamed hnamed
  have hinitP : kP.init = .initialized := Cond.initialized_spec (findClass_of_methodNamed hnamed) hkP hinit
  obtain ⟨vm₁, X₁, hstep₁⟩ := X.invokestatic hexec hown hlink hnamed hmethM hstatic hkP hinitP hy (g := g) hg (argsL := argsL) (rest := rest) (hlen _ hsigM) hstack hdg
  obtain ⟨v, B, X', hpost, hsteps⟩ := hK m meth c ⟨T.setVm vm₁, locs, cells, slots⟩ { g with stack := rest } (.invokestatic index) mk argsL.toArray X₁ hg hsize hdg hW (X₁.named hnamed) (hpre vm₁ X₁.warmed)
  exact ⟨v, vm₁, B, X₁.warmed, X', hpost, fun target h => hstep₁ _ fun acts => by rw [doInvoke_state]; exact hsteps.trans h⟩
theorem vx_runSW {y : MethodName} {bytes cc : ByteArray} {maxL nL mc ms n index : Nat} {ret : Option FieldType} {hh : List (Nat × Nat × Nat × Nat)} {ws : List Cond} {rm : Room} {Pc : Array Value → State → Prop} {Qc : Array Value → State → Outcome → State → Prop} {free : Addr → Prop} {Ts : List Cond} {own : String} {As rest : List Value} {g : JFrame}
    (S : CallFix p m c cc nL s args Ts own) (hM : Met l y ws rm Pc Qc mc ms free) (cw : vx_CSW R s args own index y bytes maxL ret hh ws rm mc ms n) (hp : PreS s H Pc As)
    (hg : g.method = m) (hn : As.length = n) (hsize : g.locals.size = nL) (hstack : g.stack = As.reverse ++ rest) (hW : 2 * g.monitorRoom + (rest.map fun v => v.category).sum ≤ 8) (hdg : decode cc g.pc = .ok (.invokestatic index, 3)) (hf : cells + mc ≤ R.cells ∧ slots + ms ≤ R.slots) :
    va_Run p l e R s m args below meth c H locs cells slots mc ms g rest (Qc As.toArray) (free) := by
  obtain ⟨⟨hrc, hrs, hfr, hlo, hws, hcw⟩, hcode, hini, hy, hlen, hl, hstt⟩ := cw
  have hK : Back l R p e below s args y 3 8 (PreOf R mc ms Pc) (PostOf Qc mc ms free) := va_backW (hh := hh) (bytes := bytes) (maxL := maxL) (ret := ret) hM hp.1 hrc hrs hfr hlo hws hcw (fun a' U hW => word_at hW (Or.inl (by first | rfl | simp [Cond.onTables, Cond.keeps, Cond.steady])) hini)
  obtain ⟨hx, hb, hml, ho, -⟩ := S
  intro T hT X
  obtain ⟨v, vm₁, ⟨U', l2, c2, s2⟩, hW₁, X', ⟨g', mk, t, L, e1, e2, hq, h1, hL, h2, h3⟩, st⟩ := vx_callSW X hx (hh := hh) (bytes := bytes) (maxL := maxL) (ret := ret) ho hl hstt hini hcode hy hK hg (hsize.trans hml.symm) (argsL := As) (rest := rest) (fun sig h => hn.trans (hlen sig h)) hstack hW (by rw [hb]; exact hdg)
    (fun vm₁ hW₁ => ⟨hf.1, hf.2, hp.2 (T.setVm vm₁) hT hW₁⟩)
  dsimp only [Pt.U, Pt.locs, Pt.cells, Pt.slots] at X' e1 e2 h1 h2 h3 st
  subst h1; subst h2; subst h3
  exact ⟨v, (T.setVm vm₁).calling g' mk As.toArray, t, U', L, hT, X', hL, e1, e2, hq, st⟩
/-- not caught here, past rows that name other classes: it goes on to the caller -/
theorem vx_outP {p : Program} {l : Launch} {e : Env} {R : Room} {s : State} {m : MethodId} {args : Array Value} {below : List Frame} {meth : Method} {c : Code} {H : Heap} {locs : List Loc} {cells slots : Nat} {free : Addr → Prop} {ls : Array Slot} {rest : List Value} {Qc : Array Value → State → Outcome → State → Prop} {XC : String → State → State → Prop}
    {pc : Nat} {own E : String} {ce : Cell} {q : Addr} {mc ms : Nat} (hown : s.vm.findClass own = some m.cls) (hlocks : meth.locks = false)
    (hpass : ∀ z ∈ c.exceptionTable.toList, covers z pc = false ∨ (z.catchType ≠ 0 ∧ ∃ nm : String, (Cond.classLink own z.catchType nm).before args s = true ∧ va_Nc E nm s)) (hcell : H[q]? = some ce) (hv : ce.vm = .none) (hcl : s.vm.findClass E = some ce.cls)
    (hx : ∀ t : State, t.heap = H → s.vm.Alike t.vm → XC E s t) (hf : ∀ z ∈ locs, free z.base) (hc : cells ≤ mc) (hs : slots ≤ ms) :
    vx_W p l e R s m args below meth c H locs cells slots (vx_MQ below Qc XC args s mc ms free) (F0 m pc ls rest) q := by
  intro T hT X
  have hpl : e.platform.magicAccessors = ({} : Platform).magicAccessors := by rw [X.admits.platform]
  obtain ⟨vm', hW', X', st⟩ := X.outThrough hlocks q (g := F0 m pc ls rest) rfl rfl rfl (cell := ce) (by rw [hT]; exact hcell) (by rw [hv]; rfl)
    (by obtain ⟨k9, h9, -⟩ := Vm.findClass_spec hcl; exact ⟨k9, h9⟩) (fun z hz => by
      rcases hpass z hz with h | ⟨hz0, nm, hl1, hn1⟩
      · exact Or.inl h
      · obtain ⟨c6, hc6, hcl6⟩ := Cond.classLink_spec hown hl1 e.platform hpl
        obtain ⟨a8, b8, h1, h2, h3⟩ := hn1
        cases Option.some.inj (h1.symm.trans hcl)
        cases Option.some.inj (h2.symm.trans hc6)
        exact Or.inr ⟨hz0, _, hcl6, h3⟩)
  obtain ⟨g₀, hfr⟩ := X'.frames_eq
  have hcell9 : ((T.setVm vm').setFrames (.throwing q :: below)).heap[q]? = some ce := by
    show T.heap[q]? = some ce
    rw [hT]; exact hcell
  have hend : Ended ((T.setVm vm').setFrames (.throwing q :: below)) below (.threw q) := State.frames_setFrames _ (State.cur_lt_of_frames hfr)
  refine ⟨(T.setVm vm').setFrames (.throwing q :: below), ?_, .threw q, X'.here.running, hend, Or.inr ⟨q, rfl, E, ce, locs, hx _ hT (X'.ends _).1.alike, hcell9, hv, hcl, (X'.ends _).1, (X'.ends _).2.mono hc hs, hf⟩⟩
  rw [X.pushThrowing_eq]
  exact st
/-- a thing of a world lies in the heap -/
theorem vx_lt {D : va_G} {cl : List vw_C} {ws : va_W} {H1 : Heap} (h : va_P D cl ws H1) {k : Nat} {q : Nat × va_E} (hk : ws[k]? = some q) : q.1 < H1.size := (h k q hk).lt
end VXS
/-! ===== END ===== -/
/-! ===== BEGIN methods with a table of their own: called by a name, returning or throwing ===== -/
section VXH
/-! vx_backW, vx_callVX, vx_callSX, vx_callVW, vx_runVW, vx_runVX, vx_runSX, vx_ofWH follow the same proofs as their sisters above (Free/Laws.lean, Shelf42/LK1.lean); vx_outP calls Shelf42/NT130.lean (outThrough). -/
section
variable {l : Launch} {R : Room} {p : Program} {e : Env} {below : List Frame} {s : State} {sargs : Array Value} {y : MethodName} {len W9 : Nat}
theorem vx_backW {ws : List Cond} {rm : Room} {Pc : Array Value → State → Prop} {Qc : Array Value → State → Outcome → State → Prop} {XC : String → State → State → Prop} {mc ms : Nat} {free : Addr → Prop} {bytes : ByteArray} {maxL : Nat} {ret : Option FieldType} {hh : List (Nat × Nat × Nat × Nat)}
    (hM : vx_Met l y ws rm Pc Qc XC mc ms free) (hblind : FrameBlind Pc) (hrc : rm.cells = mc) (hrs : rm.slots = ms)
    (hframes : rm.frames + 1 ≤ R.frames) (hlocals : W9 + (maxL + 11) + rm.locals ≤ R.locals)
    (hws : ∀ w ∈ ws, ∀ a' U, s.WarmedH U.vm → w.before a' U = true) (hcode : Cond.codeWith y bytes maxL ret hh ∈ ws) (hinit : ∀ a' U, s.WarmedH U.vm → (Cond.initialized y.cls).before a' U = true) :
    vx_Back l R p e below s sargs y len W9 (PreOf R mc ms Pc) (PostOf Qc mc ms free) (vx_Post XC mc ms free) := by
  intro m meth c A g ig mk a X hg hsize hdg hW hn hp
  have h1 : (headSpec ws rm).pre.before a A.U = true := atoms_intro fun w hw => hws w hw _ _ X.warmed
  have h2 : (Cond.codeWith y bytes maxL ret hh).before a A.U = true := hws _ hcode _ _ X.warmed
  have h3 : (Cond.initialized y.cls).before a A.U = true := hinit _ _ X.warmed
  have h4 : A.cells + (headSpec ws rm).room.cells ≤ R.cells := by rw [show (headSpec ws rm).room.cells = mc from hrc]; exact hp.1
  have h5 : A.slots + (headSpec ws rm).room.slots ≤ R.slots := by rw [show (headSpec ws rm).room.slots = ms from hrs]; exact hp.2.1
  have hPc : Pc a (A.U.calling g mk a) := hblind _ _ _ _ hp.2.2
  obtain ⟨U, Ls, c0, s0⟩ := A
  dsimp only [Pt.U, Pt.locs, Pt.cells, Pt.slots] at h1 h2 h3 h4 h5 X hn hPc ⊢
  obtain ⟨m9, methY, cY, hn9, hmY, hcY, -, hlY, -⟩ := Cond.codeWith_spec h2
  cases Option.some.inj (hn9.symm.trans hn)
  obtain ⟨kY, hkY, -⟩ := className_of_methodNamed hn
  have hinitY : kY.init = .initialized := Cond.initialized_spec (findClass_of_methodNamed hn) hkY h3
  have h : At U g.method c below := by rw [hg]; exact X.here
  have hlocals9 : W9 + (maxL + 11) + (headSpec ws rm).room.locals ≤ R.locals := hlocals
  have happ : (headSpec ws rm).appliesLoose y e.platform (U.calling g mk a) = true :=
    Spec.appliesLoose_calling (g := g) h hdg hn hkY hinitY
      (X.room_calling (g := g) (R' := (headSpec ws rm).room) hsize hmY hcY hframes (by rw [hlY]; omega) h4 h5) h1
  obtain ⟨mid, hmid⟩ := h.above
  have hfr : (U.setTop g).frames = (.java g :: mid) ++ below := by rw [State.frames_setTop' g h.top, hmid]; rfl
  obtain ⟨o, s₂, hsteps, -, hend, hq⟩ := Steps.callFree hM p X.admits X.cas X.clock (acts := []) hfr happ hPc trivial
  have hq' : vx_Q Qc XC mc ms free a (U.calling g mk a) o s₂ := hq
  rw [State.frames_setTop' g h.top] at hend
  obtain ⟨g₀, hg0⟩ := Option.isSome_iff_exists.mp h.top
  obtain ⟨r, hr⟩ := State.topJava?_eq_some.mp hg0
  have hr' : (({ U with heap := s₂.heap, slotsUsed := s₂.slotsUsed } : State).setVm s₂.vm).frames = .java g₀ :: r := hr
  rcases hq' with ⟨hqc, L, hfe, hL⟩ | ⟨q, rfl, E, ce, L, hx, hce, hcv, hcl, hW₂, hsm, hL⟩
  · obtain ⟨⟨v, rfl⟩, hW₂, e2, q2, q3, q4, q5, q6⟩ := id hfe
    have e3 : s₂ = ({ (U.calling g mk a).setFrames s₂.frames with heap := s₂.heap, slotsUsed := s₂.slotsUsed } : State).setVm s₂.vm := by
      have : s₂ = ({ s₂ with vm := (U.calling g mk a).vm } : State).setVm s₂.vm := rfl
      rw [e2] at this
      exact this
    obtain ⟨c₂, i₂, len₂, hc₂, hd₂, hf₂⟩ := hend
    have hW' : U.WarmedH s₂.vm := hW₂
    have hcc : c₂ = c := by
      have h1 : s₂.code? g.method = U.code? g.method := by
        rw [State.code?_eq, State.code?_eq, hW'.alike.method?]
      exact Option.some.inj (hc₂.symm.trans (h1.trans h.code))
    subst hcc
    have hlen : len₂ = len := by rw [hdg] at hd₂; cases hd₂; rfl
    subst hlen
    have hs₂ : s₂ = (({ U with heap := s₂.heap, slotsUsed := s₂.slotsUsed } : State).setVm s₂.vm).setTop { g with pc := g.pc + len₂, stack := v.toList ++ g.stack } := by
      refine e3.trans ?_
      rw [hf₂, State.calling_eq h.top, State.setFrames_setFrames, State.setTop_of_frames _ hr', hr]
      rfl
    have hsame : U.sameButNew ({ U with heap := s₂.heap, slotsUsed := s₂.slotsUsed } : State) L mc ms := by
      refine ⟨?_, q2, q3, q4, q5, q6⟩
      obtain ⟨t, ht, -⟩ := State.frames_cons hr
      show ({ U with heap := s₂.heap, slotsUsed := s₂.slotsUsed } : State) = { U.setFrames U.frames with heap := s₂.heap, slotsUsed := s₂.slotsUsed }
      rw [State.setFrames_self ht]
    subst hg
    refine Or.inl ⟨v, ⟨(({ U with heap := s₂.heap, slotsUsed := s₂.slotsUsed } : State).setVm s₂.vm), Ls ++ L, c0 + mc, s0 + ms⟩,
      ⟨X.admits, X.cas, X.clock, X.frames, X.room, X.hears, X.method, X.code, (X.here.setHeapUsed s₂.heap s₂.slotsUsed).setVm hW'.alike, X.tail, State.WarmedH.trans X.warmed hW', X.limits, X.bytes, X.same.trans (hsame.setVm s.vm)⟩,
      ⟨g, mk, s₂, L, rfl, rfl, hqc, rfl, hL, rfl, rfl⟩, ?_⟩
    show Steps p.tables e below _ ((({ U with heap := s₂.heap, slotsUsed := s₂.slotsUsed } : State).setVm s₂.vm).setTop { g with pc := g.pc + len₂, stack := v.toList ++ g.stack })
    rw [← hs₂]
    exact hsteps
  · obtain ⟨e2, q2, q3, q4, q5, q6⟩ := id hsm
    have e3 : s₂ = ({ (U.calling g mk a).setFrames s₂.frames with heap := s₂.heap, slotsUsed := s₂.slotsUsed } : State).setVm s₂.vm := by
      have : s₂ = ({ s₂ with vm := (U.calling g mk a).vm } : State).setVm s₂.vm := rfl
      rw [e2] at this
      exact this
    have hf₂ : s₂.frames = .throwing q :: .java g :: U.frames.tail := hend
    have hW' : U.WarmedH s₂.vm := hW₂
    have hs₂ : s₂ = ((({ U with heap := s₂.heap, slotsUsed := s₂.slotsUsed } : State).setVm s₂.vm).setTop g).pushFrame (.throwing q) := by
      refine e3.trans ?_
      rw [hf₂, State.calling_eq h.top, State.setFrames_setFrames, State.pushFrame, State.frames_setTop _ hr', State.setTop_of_frames _ hr', State.setFrames_setFrames, hr]
      rfl
    have hsame : U.sameButNew ({ U with heap := s₂.heap, slotsUsed := s₂.slotsUsed } : State) L mc ms := by
      refine ⟨?_, q2, q3, q4, q5, q6⟩
      obtain ⟨t, ht, -⟩ := State.frames_cons hr
      show ({ U with heap := s₂.heap, slotsUsed := s₂.slotsUsed } : State) = { U.setFrames U.frames with heap := s₂.heap, slotsUsed := s₂.slotsUsed }
      rw [State.setFrames_self ht]
    subst hg
    refine Or.inr ⟨q, ⟨(({ U with heap := s₂.heap, slotsUsed := s₂.slotsUsed } : State).setVm s₂.vm), Ls ++ L, c0 + mc, s0 + ms⟩,
      ⟨X.admits, X.cas, X.clock, X.frames, X.room, X.hears, X.method, X.code, (X.here.setHeapUsed s₂.heap s₂.slotsUsed).setVm hW'.alike, X.tail, State.WarmedH.trans X.warmed hW', X.limits, X.bytes, X.same.trans (hsame.setVm s.vm)⟩,
      ⟨g, mk, s₂, L, E, ce, rfl, rfl, hx, hce, hcv, hcl, rfl, hL, rfl, rfl⟩, ?_⟩
    show Steps p.tables e below _ (((({ U with heap := s₂.heap, slotsUsed := s₂.slotsUsed } : State).setVm s₂.vm).setTop g).pushFrame (.throwing q))
    rw [← hs₂]
    exact hsteps
end
variable {p : Program} {l : Launch} {e : Env} {R : Room} {s : State} {m : MethodId} {args : Array Value} {below : List Frame} {meth : Method} {c : Code} {T : State} {H : Heap} {locs : List Loc} {cells slots : Nat}
theorem vx_callVX (X : Stand p l e R s m args below meth c T locs cells slots) (hexec : p.tables.exec = Jvm.exec) {own C : String} {index : Nat} {y : MethodName} {bytes : ByteArray} {maxL : Nat} {ret : Option FieldType} {hh : List (Nat × Nat × Nat × Nat)}
    (hown : s.vm.findClass own = some m.cls) (hlink : (Cond.methodLink own index y).before args s = true) (hinst : (Cond.instanceMethod y).before args s = true) (hsel : (Cond.selects C y y).before args s = true)
    (hcode : (Cond.codeWith y bytes maxL ret hh).before args s = true) (hy : y.cls ≠ "java/lang/invoke/MethodHandle" ∧ y.cls ≠ "java/lang/invoke/VarHandle")
    {W9 : Nat} {Pre : Pt → Array Value → Prop} {Post : Pt → Array Value → Option Value → Pt → Prop} {PostX : Pt → Array Value → Addr → Pt → Prop} (hK : vx_Back l R p e below s args y 3 W9 Pre Post PostX)
    {b : Addr} {cellB : Cell} (hcell : T.heap[b]? = some cellB) (hobj : cellB.vm.isStatics = false) (hcls : s.vm.findClass C = some cellB.cls)
    {g : JFrame} (hg : g.method = m) (hsize : g.locals.size = c.maxLocals) {argsL rest : List Value} (hlen : ∀ sig, parseMethodDescriptor y.desc = some sig → argsL.length = sig.parameters.length)
    (hstack : g.stack = argsL.reverse ++ .ref b :: rest) (hW : 2 * g.monitorRoom + (rest.map fun v => v.category).sum ≤ W9) (hdg : decode c.code g.pc = .ok (.invokevirtual index, 3))
    (hpre : ∀ vm₁, s.WarmedH vm₁ → Pre ⟨T.setVm vm₁, locs, cells, slots⟩ (Value.ref b :: argsL).toArray) :
    (∃ (v : Option Value) (vm₁ : Vm) (B : Pt), s.WarmedH vm₁ ∧ Stand p l e R s m args below meth c B.U B.locs B.cells B.slots ∧ Post ⟨T.setVm vm₁, locs, cells, slots⟩ (Value.ref b :: argsL).toArray v B ∧
      ∀ target, Steps p.tables e below (B.U.setTop { g with pc := g.pc + 3, stack := v.toList ++ rest }) target → Steps p.tables e below (T.setTop g) target) ∨
    (∃ (q : Addr) (vm₁ : Vm) (B : Pt), s.WarmedH vm₁ ∧ Stand p l e R s m args below meth c B.U B.locs B.cells B.slots ∧ PostX ⟨T.setVm vm₁, locs, cells, slots⟩ (Value.ref b :: argsL).toArray q B ∧
      Steps p.tables e below (T.setTop g) ((B.U.setTop { g with stack := rest }).pushFrame (.throwing q))) := by
  obtain ⟨mk, methM, hnamed, hmethM, hstM, habM⟩ := Cond.instanceMethod_spec hinst
  obtain ⟨m8, methM', cM, hn8, hmethM', -, -, -, -, -, -, hsigM⟩ := Cond.codeWith_spec hcode
  cases Option.some.inj (hn8.symm.trans hnamed)
  cases hmethM.symm.trans hmethM'
  obtain ⟨c2, r2, m2, q1, q2, q3, q4, kP, hkP, hkPi⟩ := Cond.selects_spec hsel
  cases hcls.symm.trans q1
  cases (State.methodFound?_of_named hnamed hy).symm.trans q2
  cases hnamed.symm.trans q3
  have hselP : selectMethod e.platform s.vm cellB.cls mk = .method mk := by rw [Launch.admits_selectMethod X.admits]; exact q4
  obtain ⟨vm₁, X₁, hstep₁⟩ := X.invokevirtual hexec hown hlink hnamed hmethM hstM hkP hkPi hy (a := b) (cell := cellB) hcell
    (fun z h => by rw [h] at hobj; cases hobj) hselP hmethM habM hkP hkPi (g := g) hg (argsL := argsL) (rest := rest) (hlen _ hsigM) hstack hdg
  rcases hK m meth c ⟨T.setVm vm₁, locs, cells, slots⟩ { g with stack := rest } (.invokevirtual index) mk (Value.ref b :: argsL).toArray X₁ hg hsize hdg hW (X₁.named hnamed) (hpre vm₁ X₁.warmed) with ⟨v, B, X', hpost, hsteps⟩ | ⟨q, B, X', hpost, hsteps⟩
  · exact Or.inl ⟨v, vm₁, B, X₁.warmed, X', hpost, fun target h => hstep₁ _ fun acts => by rw [doInvoke_state]; exact hsteps.trans h⟩
  · exact Or.inr ⟨q, vm₁, B, X₁.warmed, X', hpost, hstep₁ _ fun acts => by rw [doInvoke_state]; exact hsteps⟩
theorem vx_callSX (X : Stand p l e R s m args below meth c T locs cells slots) (hexec : p.tables.exec = Jvm.exec) {own : String} {index : Nat} {y : MethodName} {bytes : ByteArray} {maxL : Nat} {ret : Option FieldType} {hh : List (Nat × Nat × Nat × Nat)}
    (hown : s.vm.findClass own = some m.cls) (hlink : (Cond.methodLink own index y).before args s = true) (hstat : (Cond.static y).before args s = true) (hinit : (Cond.initialized y.cls).before args s = true)
    (hcode : (Cond.codeWith y bytes maxL ret hh).before args s = true) (hy : y.cls ≠ "java/lang/invoke/MethodHandle" ∧ y.cls ≠ "java/lang/invoke/VarHandle")
    {W9 : Nat} {Pre : Pt → Array Value → Prop} {Post : Pt → Array Value → Option Value → Pt → Prop} {PostX : Pt → Array Value → Addr → Pt → Prop} (hK : vx_Back l R p e below s args y 3 W9 Pre Post PostX)
    {g : JFrame} (hg : g.method = m) (hsize : g.locals.size = c.maxLocals) {argsL rest : List Value} (hlen : ∀ sig, parseMethodDescriptor y.desc = some sig → argsL.length = sig.parameters.length)
    (hstack : g.stack = argsL.reverse ++ rest) (hW : 2 * g.monitorRoom + (rest.map fun v => v.category).sum ≤ W9) (hdg : decode c.code g.pc = .ok (.invokestatic index, 3))
    (hpre : ∀ vm₁, s.WarmedH vm₁ → Pre ⟨T.setVm vm₁, locs, cells, slots⟩ argsL.toArray) :
    (∃ (v : Option Value) (vm₁ : Vm) (B : Pt), s.WarmedH vm₁ ∧ Stand p l e R s m args below meth c B.U B.locs B.cells B.slots ∧ Post ⟨T.setVm vm₁, locs, cells, slots⟩ argsL.toArray v B ∧
      ∀ target, Steps p.tables e below (B.U.setTop { g with pc := g.pc + 3, stack := v.toList ++ rest }) target → Steps p.tables e below (T.setTop g) target) ∨
    (∃ (q : Addr) (vm₁ : Vm) (B : Pt), s.WarmedH vm₁ ∧ Stand p l e R s m args below meth c B.U B.locs B.cells B.slots ∧ PostX ⟨T.setVm vm₁, locs, cells, slots⟩ argsL.toArray q B ∧
      Steps p.tables e below (T.setTop g) ((B.U.setTop { g with stack := rest }).pushFrame (.throwing q))) := by
  obtain ⟨mk, methM, cM, hnamed, hmethM, -, -, -, -, -, -, hsigM⟩ := Cond.codeWith_spec hcode
  have hstatic : methM.isStatic = true := Cond.static_spec hnamed hmethM hstat
  obtain ⟨kP, hkP, -⟩ := className_of_methodNamed hnamed
  have hinitP : kP.init = .initialized := Cond.initialized_spec (findClass_of_methodNamed hnamed) hkP hinit
  obtain ⟨vm₁, X₁, hstep₁⟩ := X.invokestatic hexec hown hlink hnamed hmethM hstatic hkP hinitP hy (g := g) hg (argsL := argsL) (rest := rest) (hlen _ hsigM) hstack hdg
  rcases hK m meth c ⟨T.setVm vm₁, locs, cells, slots⟩ { g with stack := rest } (.invokestatic index) mk argsL.toArray X₁ hg hsize hdg hW (X₁.named hnamed) (hpre vm₁ X₁.warmed) with ⟨v, B, X', hpost, hsteps⟩ | ⟨q, B, X', hpost, hsteps⟩
  · exact Or.inl ⟨v, vm₁, B, X₁.warmed, X', hpost, fun target h => hstep₁ _ fun acts => by rw [doInvoke_state]; exact hsteps.trans h⟩
  · exact Or.inr ⟨q, vm₁, B, X₁.warmed, X', hpost, hstep₁ _ fun acts => by rw [doInvoke_state]; exact hsteps⟩
theorem vx_callVW (X : Stand p l e R s m args below meth c T locs cells slots) (hexec : p.tables.exec = Jvm.exec) {own C : String} {index : Nat} {y : MethodName} {bytes : ByteArray} {maxL : Nat} {ret : Option FieldType} {hh : List (Nat × Nat × Nat × Nat)}
    (hown : s.vm.findClass own = some m.cls) (hlink : (Cond.methodLink own index y).before args s = true) (hinst : (Cond.instanceMethod y).before args s = true) (hsel : (Cond.selects C y y).before args s = true)
    (hcode : (Cond.codeWith y bytes maxL ret hh).before args s = true) (hy : y.cls ≠ "java/lang/invoke/MethodHandle" ∧ y.cls ≠ "java/lang/invoke/VarHandle")
    {W9 : Nat} {Pre : Pt → Array Value → Prop} {Post : Pt → Array Value → Option Value → Pt → Prop} (hK : Back l R p e below s args y 3 W9 Pre Post)
    {b : Addr} {cellB : Cell} (hcell : T.heap[b]? = some cellB) (hobj : cellB.vm.isStatics = false) (hcls : s.vm.findClass C = some cellB.cls)
    {g : JFrame} (hg : g.method = m) (hsize : g.locals.size = c.maxLocals) {argsL rest : List Value} (hlen : ∀ sig, parseMethodDescriptor y.desc = some sig → argsL.length = sig.parameters.length)
    (hstack : g.stack = argsL.reverse ++ .ref b :: rest) (hW : 2 * g.monitorRoom + (rest.map fun v => v.category).sum ≤ W9) (hdg : decode c.code g.pc = .ok (.invokevirtual index, 3))
    (hpre : ∀ vm₁, s.WarmedH vm₁ → Pre ⟨T.setVm vm₁, locs, cells, slots⟩ (Value.ref b :: argsL).toArray) :
    ∃ (v : Option Value) (vm₁ : Vm) (B : Pt), s.WarmedH vm₁ ∧ Stand p l e R s m args below meth c B.U B.locs B.cells B.slots ∧ Post ⟨T.setVm vm₁, locs, cells, slots⟩ (Value.ref b :: argsL).toArray v B ∧
      ∀ target, Steps p.tables e below (B.U.setTop { g with pc := g.pc + 3, stack := v.toList ++ rest }) target → Steps p.tables e below (T.setTop g) target := by
  obtain ⟨mk, methM, hnamed, hmethM, hstM, habM⟩ := Cond.instanceMethod_spec hinst
  obtain ⟨m8, methM', cM, hn8, hmethM', -, -, -, -, -, -, hsigM⟩ := Cond.codeWith_spec hcode
  cases Option.some.inj (hn8.symm.trans hnamed)
  cases hmethM.symm.trans hmethM'
  obtain ⟨c2, r2, m2, q1, q2, q3, q4, kP, hkP, hkPi⟩ := Cond.selects_spec hsel
  cases hcls.symm.trans q1
  cases (State.methodFound?_of_named hnamed hy).symm.trans q2
  cases hnamed.symm.trans q3
  have hselP : selectMethod e.platform s.vm cellB.cls mk = .method mk := by rw [Launch.admits_selectMethod X.admits]; exact q4
  obtain ⟨vm₁, X₁, hstep₁⟩ := X.invokevirtual hexec hown hlink hnamed hmethM hstM hkP hkPi hy (a := b) (cell := cellB) hcell
    (fun z h => by rw [h] at hobj; cases hobj) hselP hmethM habM hkP hkPi (g := g) hg (argsL := argsL) (rest := rest) (hlen _ hsigM) hstack hdg
  obtain ⟨v, B, X', hpost, hsteps⟩ := hK m meth c ⟨T.setVm vm₁, locs, cells, slots⟩ { g with stack := rest } (.invokevirtual index) mk (Value.ref b :: argsL).toArray X₁ hg hsize hdg hW (X₁.named hnamed) (hpre vm₁ X₁.warmed)
  exact ⟨v, vm₁, B, X₁.warmed, X', hpost, fun target h => hstep₁ _ fun acts => by rw [doInvoke_state]; exact hsteps.trans h⟩
abbrev vx_CVW (R : Room) (s : State) (args : Array Value) (own C : String) (index : Nat) (y : MethodName) (bytes : ByteArray) (maxL : Nat) (ret : Option FieldType) (hh : List (Nat × Nat × Nat × Nat)) (ws : List Cond) (rm : Room) (mc ms n : Nat) : Prop :=
  (rm.cells = mc ∧ rm.slots = ms ∧ rm.frames + 1 ≤ R.frames ∧ 8 + (maxL + 11) + rm.locals ≤ R.locals ∧ (∀ w ∈ ws, ∀ (a' : Array Value) (U : State), s.WarmedH U.vm → w.before a' U = true) ∧ Cond.codeWith y bytes maxL ret hh ∈ ws) ∧
  (Cond.codeWith y bytes maxL ret hh).before args s = true ∧ (Cond.initialized y.cls).before args s = true ∧ (y.cls ≠ "java/lang/invoke/MethodHandle" ∧ y.cls ≠ "java/lang/invoke/VarHandle") ∧
  (∀ sig, parseMethodDescriptor y.desc = some sig → n = sig.parameters.length) ∧ (Cond.methodLink own index y).before args s = true ∧ (Cond.instanceMethod y).before args s = true ∧ (Cond.selects C y y).before args s = true
theorem vx_cwVW {own C : String} {index maxL mc ms : Nat} {y : MethodName} {bytes : ByteArray} {ret : Option FieldType} {hh : List (Nat × Nat × Nat × Nat)} {Ts ws ws' : List Cond} {rm : Room} (n : Nat) (ht : ∀ w ∈ Ts, w.before args s = true) (hT : GoodIn Ts (wsV own index C y ws)) (hw : ws = Cond.codeWith y bytes maxL ret hh :: ws') (hrc : rm.cells = mc) (hrs : rm.slots = ms)
    (hd : y.cls = C ∧ y.cls ≠ "java/lang/invoke/MethodHandle" ∧ y.cls ≠ "java/lang/invoke/VarHandle" ∧ (parseMethodDescriptor y.desc).map (fun d => d.parameters.length) = some n) (hR : rm.frames + 1 ≤ R.frames ∧ 8 + (maxL + 11) + rm.locals ≤ R.locals) :
    vx_CVW R s args own C index y bytes maxL ret hh ws rm mc ms n := by
  obtain ⟨hC, hd⟩ := hd
  subst hC
  have ok : ∀ w ∈ wsV own index y.cls y ws, w.before args s = true := fun w h => ht w (hT w h).1
  have hG : GoodIn Ts ws := fun w h => hT w (by unfold wsV; exact List.mem_append_right _ h)
  have hc : Cond.codeWith y bytes maxL ret hh ∈ ws := by rw [hw]; exact List.mem_cons_self
  refine ⟨⟨hrc, hrs, hR.1, hR.2, pay_in ht hG, hc⟩, ht _ (hG _ hc).1, ok _ (by simp [wsV]), ⟨hd.1, hd.2.1⟩, fun sig h => ?_, ok _ (by simp [wsV]), ok _ (by simp [wsV]), ok _ (by simp [wsV])⟩
  have h2 := hd.2.2
  rw [h] at h2
  exact (Option.some.inj h2).symm
theorem vx_runVW {y : MethodName} {bytes cc : ByteArray} {maxL nL mc ms n index : Nat} {ret : Option FieldType} {hh : List (Nat × Nat × Nat × Nat)} {ws : List Cond} {rm : Room} {Pc : Array Value → State → Prop} {Qc : Array Value → State → Outcome → State → Prop} {free : Addr → Prop} {Ts : List Cond} {own C : String} {b : Addr} {As rest : List Value} {g : JFrame}
    (S : CallFix p m c cc nL s args Ts own) (hM : Met l y ws rm Pc Qc mc ms free) (cw : vx_CVW R s args own C index y bytes maxL ret hh ws rm mc ms n) (hp : PreV s H C b Pc As)
    (hg : g.method = m) (hn : As.length = n) (hsize : g.locals.size = nL) (hstack : g.stack = As.reverse ++ .ref b :: rest) (hW : 2 * g.monitorRoom + (rest.map fun v => v.category).sum ≤ 8) (hdg : decode cc g.pc = .ok (.invokevirtual index, 3)) (hf : cells + mc ≤ R.cells ∧ slots + ms ≤ R.slots) :
    va_Run p l e R s m args below meth c H locs cells slots mc ms g rest (Qc (Value.ref b :: As).toArray) free := by
  obtain ⟨⟨hrc, hrs, hfr, hlo, hws, hcw⟩, hcode, hini, hy, hlen, hl, hin, hse⟩ := cw
  have hK : Back l R p e below s args y 3 8 (PreOf R mc ms Pc) (PostOf Qc mc ms free) := va_backW (hh := hh) (bytes := bytes) (maxL := maxL) (ret := ret) hM hp.1 hrc hrs hfr hlo hws hcw (fun a' U hW => word_at hW (Or.inl (by first | rfl | simp [Cond.onTables, Cond.keeps, Cond.steady])) hini)
  obtain ⟨hx, hb, hml, ho, -⟩ := S
  obtain ⟨-, ⟨cellB, hcB, hoB, hclB⟩, hPc⟩ := hp
  intro T hT X
  obtain ⟨v, vm₁, ⟨U', l2, c2, s2⟩, hW₁, X', ⟨g', mk, t, L, e1, e2, hq, h1, hL, h2, h3⟩, st⟩ := vx_callVW X hx (C := C) (hh := hh) (bytes := bytes) (maxL := maxL) (ret := ret) ho hl hin hse hcode hy hK (by rw [hT]; exact hcB) hoB hclB hg (hsize.trans hml.symm) (argsL := As) (rest := rest) (fun sig h => hn.trans (hlen sig h)) hstack hW (by rw [hb]; exact hdg)
    (fun vm₁ hW₁ => ⟨hf.1, hf.2, hPc (T.setVm vm₁) hT hW₁⟩)
  dsimp only [Pt.U, Pt.locs, Pt.cells, Pt.slots] at X' e1 e2 h1 h2 h3 st
  subst h1; subst h2; subst h3
  exact ⟨v, (T.setVm vm₁).calling g' mk (Value.ref b :: As).toArray, t, U', L, hT, X', hL, e1, e2, hq, st⟩
section
variable {y : MethodName} {bytes cc : ByteArray} {maxL nL mc ms n index : Nat} {ret : Option FieldType} {ws : List Cond} {rm : Room} {Pc : Array Value → State → Prop} {Qc : Array Value → State → Outcome → State → Prop} {XC : String → State → State → Prop} {free : Addr → Prop} {Ts : List Cond} {own C : String} {b : Addr} {As rest : List Value} {g : JFrame}
theorem vx_runVX {hh : List (Nat × Nat × Nat × Nat)} (S : CallFix p m c cc nL s args Ts own) (hM : vx_Met l y ws rm Pc Qc XC mc ms free) (cw : vx_CVW R s args own C index y bytes maxL ret hh ws rm mc ms n) (hp : PreV s H C b Pc As)
    (hg : g.method = m) (hn : As.length = n) (hsize : g.locals.size = nL) (hstack : g.stack = As.reverse ++ .ref b :: rest) (hW : 2 * g.monitorRoom + (rest.map fun v => v.category).sum ≤ 8) (hdg : decode cc g.pc = .ok (.invokevirtual index, 3)) (hf : cells + mc ≤ R.cells ∧ slots + ms ≤ R.slots) :
    vx_Run p l e R s m args below meth c H locs cells slots mc ms g rest (Qc (Value.ref b :: As).toArray) XC free := by
  obtain ⟨⟨hrc, hrs, hfr, hlo, hws, hcw⟩, hcode, hini, hy, hlen, hl, hin, hse⟩ := cw
  have hK : vx_Back l R p e below s args y 3 8 (PreOf R mc ms Pc) (PostOf Qc mc ms free) (vx_Post XC mc ms free) := vx_backW (hh := hh) (bytes := bytes) (maxL := maxL) (ret := ret) hM hp.1 hrc hrs hfr hlo hws hcw (fun a' U hW => word_at hW (Or.inl (by first | rfl | simp [Cond.onTables, Cond.keeps, Cond.steady])) hini)
  obtain ⟨hx, hb, hml, ho, -⟩ := S
  obtain ⟨-, ⟨cellB, hcB, hoB, hclB⟩, hPc⟩ := hp
  intro T hT X
  rcases vx_callVX X hx (C := C) (hh := hh) (bytes := bytes) (maxL := maxL) (ret := ret) ho hl hin hse hcode hy hK (by rw [hT]; exact hcB) hoB hclB hg (hsize.trans hml.symm) (argsL := As) (rest := rest) (fun sig h => hn.trans (hlen sig h)) hstack hW (by rw [hb]; exact hdg)
    (fun vm₁ hW₁ => ⟨hf.1, hf.2, hPc (T.setVm vm₁) hT hW₁⟩) with ⟨v, vm₁, ⟨U', l2, c2, s2⟩, hW₁, X', ⟨g', mk, t, L, e1, e2, hq, h1, hL, h2, h3⟩, st⟩ | ⟨q, vm₁, ⟨U', l2, c2, s2⟩, hW₁, X', ⟨g', mk, t, L, E, ce, e1, e2, hq, hce, hcv, hcl, h1, hL, h2, h3⟩, st⟩
  · dsimp only [Pt.U, Pt.locs, Pt.cells, Pt.slots] at X' e1 e2 h1 h2 h3 st
    subst h1; subst h2; subst h3
    exact Or.inl ⟨v, (T.setVm vm₁).calling g' mk (Value.ref b :: As).toArray, t, U', L, hT, X', hL, e1, e2, hq, st⟩
  · dsimp only [Pt.U, Pt.locs, Pt.cells, Pt.slots] at X' e1 e2 h1 h2 h3 st hcl
    subst h1; subst h2; subst h3
    exact Or.inr ⟨q, (T.setVm vm₁).calling g' mk (Value.ref b :: As).toArray, t, U', L, E, ce, hT, X', hL, e1, e2, hq, hce, hcv, vx_cls hW₁ hcl, st⟩
theorem vx_runSX {hh : List (Nat × Nat × Nat × Nat)} (S : CallFix p m c cc nL s args Ts own) (hM : vx_Met l y ws rm Pc Qc XC mc ms free) (cw : vx_CSW R s args own index y bytes maxL ret hh ws rm mc ms n) (hp : PreS s H Pc As)
    (hg : g.method = m) (hn : As.length = n) (hsize : g.locals.size = nL) (hstack : g.stack = As.reverse ++ rest) (hW : 2 * g.monitorRoom + (rest.map fun v => v.category).sum ≤ 8) (hdg : decode cc g.pc = .ok (.invokestatic index, 3)) (hf : cells + mc ≤ R.cells ∧ slots + ms ≤ R.slots) :
    vx_Run p l e R s m args below meth c H locs cells slots mc ms g rest (Qc As.toArray) XC free := by
  obtain ⟨⟨hrc, hrs, hfr, hlo, hws, hcw⟩, hcode, hini, hy, hlen, hl, hstt⟩ := cw
  have hK : vx_Back l R p e below s args y 3 8 (PreOf R mc ms Pc) (PostOf Qc mc ms free) (vx_Post XC mc ms free) := vx_backW (hh := hh) (bytes := bytes) (maxL := maxL) (ret := ret) hM hp.1 hrc hrs hfr hlo hws hcw (fun a' U hW => word_at hW (Or.inl (by first | rfl | simp [Cond.onTables, Cond.keeps, Cond.steady])) hini)
  obtain ⟨hx, hb, hml, ho, -⟩ := S
  intro T hT X
  rcases vx_callSX X hx (hh := hh) (bytes := bytes) (maxL := maxL) (ret := ret) ho hl hstt hini hcode hy hK hg (hsize.trans hml.symm) (argsL := As) (rest := rest) (fun sig h => hn.trans (hlen sig h)) hstack hW (by rw [hb]; exact hdg)
    (fun vm₁ hW₁ => ⟨hf.1, hf.2, hp.2 (T.setVm vm₁) hT hW₁⟩) with ⟨v, vm₁, ⟨U', l2, c2, s2⟩, hW₁, X', ⟨g', mk, t, L, e1, e2, hq, h1, hL, h2, h3⟩, st⟩ | ⟨q, vm₁, ⟨U', l2, c2, s2⟩, hW₁, X', ⟨g', mk, t, L, E, ce, e1, e2, hq, hce, hcv, hcl, h1, hL, h2, h3⟩, st⟩
  · dsimp only [Pt.U, Pt.locs, Pt.cells, Pt.slots] at X' e1 e2 h1 h2 h3 st
    subst h1; subst h2; subst h3
    exact Or.inl ⟨v, (T.setVm vm₁).calling g' mk As.toArray, t, U', L, hT, X', hL, e1, e2, hq, st⟩
  · dsimp only [Pt.U, Pt.locs, Pt.cells, Pt.slots] at X' e1 e2 h1 h2 h3 st hcl
    subst h1; subst h2; subst h3
    exact Or.inr ⟨q, (T.setVm vm₁).calling g' mk As.toArray, t, U', L, E, ce, hT, X', hL, e1, e2, hq, hce, hcv, vx_cls hW₁ hcl, st⟩
end
end VXH
theorem vx_ofWH {l : Launch} {y : MethodName} {ws ws' : List Cond} {rm : Room} {Pc : Array Value → State → Prop} {Qc : Array Value → State → Outcome → State → Prop} {XC : String → State → State → Prop} {mc ms : Nat} {free : Addr → Prop} {cc : ByteArray} {maxL : Nat} {ret : Option FieldType} {hh : List (Nat × Nat × Nat × Nat)}
    (hy : plainName y.cls = true) (hw : ws = Cond.codeWith y cc maxL ret hh :: ws')
    (body : ∀ p e s m args below meth c s₁, BodyLoose p l y (headSpec ws rm) cc maxL ret e s m args below meth c s₁ → c.maxLocals = maxL → Pc args s →
      W p l e (headSpec ws rm).room s m args below meth c s.heap [] 0 0 (vx_MQ below Qc XC args s mc ms free) (entryFrame m args maxL)) : vx_Met l y ws rm Pc Qc XC mc ms free := by
  refine MetFree.of_bodyS (code := cc) (maxLocals := maxL) (ret := ret) hy ?_ ?_
  · intro args s m h hn
    obtain ⟨m9, meth, c, hn9, h1, h2, h3, h4, -, h5, h6, -⟩ := Cond.codeWith_spec (atoms_spec (ws := ws) h _ (by rw [hw]; exact List.mem_cons_self))
    cases hn.symm.trans hn9
    exact ⟨meth, c, h1, h2, h3, h4, h5, h6⟩
  · intro p e s m args below meth c s₁ B hml hP _
    have hh0 : s₁.heap = s.heap := by rw [B.state]; rfl
    obtain ⟨t, a1, o, b1, b2, b3⟩ := body p e s m args below meth c s₁ B hml hP s₁ hh0 (Stand.of_body B)
    exact ⟨t, o, a1, b1, b2, b3⟩
/-! ===== END ===== -/
end
section
/-! ===== BEGIN printed: names, fields, word lists, decode rows ===== -/
def RX0 : String := "CrossbarNet$Call"
def TX0 : u_T := fun k => match k with
  | 0 => ("CrossbarNet$Call", "caller", "LCrossbarNet$Line;", true)
  | 1 => ("CrossbarNet$Call", "holdings", "LCrossbarNet$Row;", true)
  | 2 => ("CrossbarNet$Call", "stage", "LCrossbarNet$Stage;", false)
  | 3 => ("CrossbarNet$Call", "called", "LCrossbarNet$Line;", false)
  | 4 => ("CrossbarNet$Call", "dialled", "LCrossbarNet$Route;", false)
  | 5 => ("CrossbarNet$Call", "held", "Z", false)
  | 6 => ("CrossbarNet$Call", "number", "I", false)
  | 7 => ("CrossbarNet$Call", "place", "I", false)
  | 8 => ("CrossbarNet$Call", "officesSoFar", "I", false)
  | 9 => ("CrossbarNet$Call", "register", "I", false)
  | 10 => ("CrossbarNet$Call", "nextRegister", "I", false)
  | 11 => ("CrossbarNet$Call", "digitsToSend", "I", false)
  | 12 => ("CrossbarNet$Call", "ticksWaited", "I", false)
  | 13 => ("CrossbarNet$Call", "ticksSinceCharge", "I", false)
  | _ => ("CrossbarNet$Call", "ticksHungUp", "I", false)
def tyX0 : Nat → FieldType := fun k => match k with
  | 0 => .object "CrossbarNet$Line"
  | 1 => .object "CrossbarNet$Row"
  | 2 => .object "CrossbarNet$Stage"
  | 3 => .object "CrossbarNet$Line"
  | 4 => .object "CrossbarNet$Route"
  | 5 => .boolean
  | 6 => .int
  | 7 => .int
  | 8 => .int
  | 9 => .int
  | 10 => .int
  | 11 => .int
  | 12 => .int
  | 13 => .int
  | _ => .int
abbrev wsX00 : List Cond := u_ws RX0 TX0 15
theorem nmX0 : ∀ a, a < 15 → ∀ b, b < 15 → a ≠ b → (TX0 a).2.1 ≠ (TX0 b).2.1 := by decide +kernel
theorem tyX0_ok : ∀ k, k < 15 → parseFieldDescriptor (TX0 k).2.2.1 = some (tyX0 k) := by decide +kernel
abbrev cX0_init : ByteArray := prog_2_method_1_code
def yX0_init : MethodName := ⟨RX0, "<init>", "(LCrossbarNet$Line;)V"⟩
abbrev cX0_startAnew : ByteArray := prog_2_method_2_code
def yX0_startAnew : MethodName := ⟨RX0, "startAnew", "(I)V"⟩
abbrev cX0_goTo : ByteArray := prog_2_method_3_code
def yX0_goTo : MethodName := ⟨RX0, "goTo", "(I)V"⟩
abbrev cX0_hasBeenAt : ByteArray := prog_2_method_4_code
def yX0_hasBeenAt : MethodName := ⟨RX0, "hasBeenAt", "(I)Z"⟩
abbrev cX0_calledIsLifted : ByteArray := prog_2_method_5_code
def yX0_calledIsLifted : MethodName := ⟨RX0, "calledIsLifted", "()Z"⟩
abbrev cX0_units : ByteArray := prog_2_method_6_code
def yX0_units : MethodName := ⟨RX0, "units", "()I"⟩
abbrev cX0_period : ByteArray := prog_2_method_7_code
def yX0_period : MethodName := ⟨RX0, "period", "()I"⟩
def RX1 : String := "CrossbarNet$Line"
def TX1 : u_T := fun k => match k with
  | 0 => ("CrossbarNet$Line", "office", "I", true)
  | 1 => ("CrossbarNet$Line", "number", "I", true)
  | 2 => ("CrossbarNet$Line", "lifted", "Z", false)
  | 3 => ("CrossbarNet$Line", "sound", "I", false)
  | 4 => ("CrossbarNet$Line", "charged", "I", false)
  | _ => ("CrossbarNet$Line", "call", "LCrossbarNet$Call;", false)
def tyX1 : Nat → FieldType := fun k => match k with
  | 0 => .int
  | 1 => .int
  | 2 => .boolean
  | 3 => .int
  | 4 => .int
  | _ => .object "CrossbarNet$Call"
abbrev wsX10 : List Cond := u_ws RX1 TX1 6
theorem nmX1 : ∀ a, a < 6 → ∀ b, b < 6 → a ≠ b → (TX1 a).2.1 ≠ (TX1 b).2.1 := by decide +kernel
theorem tyX1_ok : ∀ k, k < 6 → parseFieldDescriptor (TX1 k).2.2.1 = some (tyX1 k) := by decide +kernel
abbrev cX1_init : ByteArray := prog_3_method_1_code
def yX1_init : MethodName := ⟨RX1, "<init>", "(II)V"⟩
abbrev cX1_name : ByteArray := prog_3_method_2_code
def yX1_name : MethodName := ⟨RX1, "name", "()I"⟩
abbrev cX1_firstLink : ByteArray := prog_3_method_3_code
def yX1_firstLink : MethodName := ⟨RX1, "firstLink", "()I"⟩
abbrev cX1_isFree : ByteArray := prog_3_method_4_code
def yX1_isFree : MethodName := ⟨RX1, "isFree", "()Z"⟩
abbrev cX1_leaveCall : ByteArray := prog_3_method_5_code
def yX1_leaveCall : MethodName := ⟨RX1, "leaveCall", "(I)V"⟩
def RX2 : String := "CrossbarNet$Office"
def TX2 : u_T := fun k => match k with
  | 0 => ("CrossbarNet$Office", "number", "I", true)
  | 1 => ("CrossbarNet$Office", "lines", "[LCrossbarNet$Line;", true)
  | 2 => ("CrossbarNet$Office", "holders", "[LCrossbarNet$Call;", true)
  | 3 => ("CrossbarNet$Office", "routes", "[LCrossbarNet$Route;", true)
  | 4 => ("CrossbarNet$Office", "hunts", "[LCrossbarNet$Row;", true)
  | 5 => ("CrossbarNet$Office", "waiting", "LCrossbarNet$Row;", true)
  | 6 => ("CrossbarNet$Office", "jobs", "LCrossbarNet$Row;", true)
  | 7 => ("CrossbarNet$Office", "routeCount", "I", false)
  | _ => ("CrossbarNet$Office", "rotor", "I", false)
def tyX2 : Nat → FieldType := fun k => match k with
  | 0 => .int
  | 1 => .array (.object "CrossbarNet$Line")
  | 2 => .array (.object "CrossbarNet$Call")
  | 3 => .array (.object "CrossbarNet$Route")
  | 4 => .array (.object "CrossbarNet$Row")
  | 5 => .object "CrossbarNet$Row"
  | 6 => .object "CrossbarNet$Row"
  | 7 => .int
  | _ => .int
abbrev wsX20 : List Cond := u_ws RX2 TX2 9
theorem nmX2 : ∀ a, a < 9 → ∀ b, b < 9 → a ≠ b → (TX2 a).2.1 ≠ (TX2 b).2.1 := by decide +kernel
theorem tyX2_ok : ∀ k, k < 9 → parseFieldDescriptor (TX2 k).2.2.1 = some (tyX2 k) := by decide +kernel
abbrev cX2_init : ByteArray := prog_4_method_1_code
def yX2_init : MethodName := ⟨RX2, "<init>", "(I)V"⟩
abbrev cX2_code : ByteArray := prog_4_method_2_code
def yX2_code : MethodName := ⟨RX2, "code", "(I)I"⟩
abbrev cX2_routeNamed : ByteArray := prog_4_method_3_code
def yX2_routeNamed : MethodName := ⟨RX2, "routeNamed", "(I)LCrossbarNet$Route;"⟩
abbrev cX2_hasRoomFor : ByteArray := prog_4_method_4_code
def yX2_hasRoomFor : MethodName := ⟨RX2, "hasRoomFor", "(I)Z"⟩
abbrev cX2_addRoute : ByteArray := prog_4_method_5_code
def yX2_addRoute : MethodName := ⟨RX2, "addRoute", "(LCrossbarNet$Route;)V"⟩
abbrev cX2_routeOf : ByteArray := prog_4_method_6_code
def yX2_routeOf : MethodName := ⟨RX2, "routeOf", "(I)LCrossbarNet$Route;"⟩
abbrev cX2_canBecomePrefix : ByteArray := prog_4_method_7_code
def yX2_canBecomePrefix : MethodName := ⟨RX2, "canBecomePrefix", "(I)Z"⟩
abbrev cX2_isInAHunt : ByteArray := prog_4_method_8_code
def yX2_isInAHunt : MethodName := ⟨RX2, "isInAHunt", "(I)Z"⟩
abbrev cX2_huntFrom : ByteArray := prog_4_method_9_code
def yX2_huntFrom : MethodName := ⟨RX2, "huntFrom", "(I)I"⟩
abbrev cX2_firstFree : ByteArray := prog_4_method_10_code
def yX2_firstFree : MethodName := ⟨RX2, "firstFree", "(LCrossbarNet$Row;I)I"⟩
abbrev cX2_firstIdle : ByteArray := prog_4_method_11_code
def yX2_firstIdle : MethodName := ⟨RX2, "firstIdle", "(II)I"⟩
abbrev cX2_countIdle : ByteArray := prog_4_method_12_code
def yX2_countIdle : MethodName := ⟨RX2, "countIdle", "(II)I"⟩
abbrev cX2_idleLink : ByteArray := prog_4_method_13_code
def yX2_idleLink : MethodName := ⟨RX2, "idleLink", "(LCrossbarNet$Line;II)I"⟩
def RX3 : String := "CrossbarNet$Route"
def TX3 : u_T := fun k => match k with
  | 0 => ("CrossbarNet$Route", "prefix", "I", true)
  | 1 => ("CrossbarNet$Route", "own", "Z", true)
  | 2 => ("CrossbarNet$Route", "choices", "LCrossbarNet$Row;", true)
  | 3 => ("CrossbarNet$Route", "units", "I", false)
  | _ => ("CrossbarNet$Route", "period", "I", false)
def tyX3 : Nat → FieldType := fun k => match k with
  | 0 => .int
  | 1 => .boolean
  | 2 => .object "CrossbarNet$Row"
  | 3 => .int
  | _ => .int
abbrev wsX30 : List Cond := u_ws RX3 TX3 5
theorem nmX3 : ∀ a, a < 5 → ∀ b, b < 5 → a ≠ b → (TX3 a).2.1 ≠ (TX3 b).2.1 := by decide +kernel
theorem tyX3_ok : ∀ k, k < 5 → parseFieldDescriptor (TX3 k).2.2.1 = some (tyX3 k) := by decide +kernel
abbrev cX3_init : ByteArray := prog_5_method_1_code
def yX3_init : MethodName := ⟨RX3, "<init>", "(IZ)V"⟩
abbrev cX3_canHave : ByteArray := prog_5_method_2_code
def yX3_canHave : MethodName := ⟨RX3, "canHave", "(I)Z"⟩
abbrev cX3_digitsBehind : ByteArray := prog_5_method_3_code
def yX3_digitsBehind : MethodName := ⟨RX3, "digitsBehind", "(I)I"⟩
abbrev cX3_lineBehind : ByteArray := prog_5_method_4_code
def yX3_lineBehind : MethodName := ⟨RX3, "lineBehind", "(I)I"⟩
def RX4 : String := "CrossbarNet$Row"
def TX4 : u_T := fun k => match k with
  | 0 => ("CrossbarNet$Row", "items", "[I", true)
  | _ => ("CrossbarNet$Row", "count", "I", false)
def tyX4 : Nat → FieldType := fun k => match k with
  | 0 => .array .int
  | _ => .int
abbrev wsX40 : List Cond := u_ws RX4 TX4 2
theorem nmX4 : ∀ a, a < 2 → ∀ b, b < 2 → a ≠ b → (TX4 a).2.1 ≠ (TX4 b).2.1 := by decide +kernel
theorem tyX4_ok : ∀ k, k < 2 → parseFieldDescriptor (TX4 k).2.2.1 = some (tyX4 k) := by decide +kernel
abbrev cX4_init : ByteArray := prog_6_method_1_code
def yX4_init : MethodName := ⟨RX4, "<init>", "(I)V"⟩
abbrev cX4_size : ByteArray := prog_6_method_2_code
def yX4_size : MethodName := ⟨RX4, "size", "()I"⟩
abbrev cX4_at : ByteArray := prog_6_method_3_code
def yX4_at : MethodName := ⟨RX4, "at", "(I)I"⟩
abbrev cX4_has : ByteArray := prog_6_method_4_code
def yX4_has : MethodName := ⟨RX4, "has", "(I)Z"⟩
abbrev cX4_add : ByteArray := prog_6_method_5_code
def yX4_add : MethodName := ⟨RX4, "add", "(I)V"⟩
abbrev cX4_remove : ByteArray := prog_6_method_6_code
def yX4_remove : MethodName := ⟨RX4, "remove", "(I)V"⟩
abbrev cX4_clear : ByteArray := prog_6_method_7_code
def yX4_clear : MethodName := ⟨RX4, "clear", "()V"⟩
def RX5 : String := "CrossbarNet$Stage"
def TX5 : u_T := fun k => match k with
  | _ => ("", "", "", false)
def tyX5 : Nat → FieldType := fun k => match k with
  | _ => .int
abbrev wsX50 : List Cond := u_ws RX5 TX5 0
theorem nmX5 : ∀ a, a < 0 → ∀ b, b < 0 → a ≠ b → (TX5 a).2.1 ≠ (TX5 b).2.1 := by decide +kernel
theorem tyX5_ok : ∀ k, k < 0 → parseFieldDescriptor (TX5 k).2.2.1 = some (tyX5 k) := by decide +kernel
def RX6 : String := "CrossbarNet$Trunk"
def TX6 : u_T := fun k => match k with
  | 0 => ("CrossbarNet$Trunk", "a", "I", true)
  | 1 => ("CrossbarNet$Trunk", "b", "I", true)
  | 2 => ("CrossbarNet$Trunk", "isOut", "Z", false)
  | _ => ("CrossbarNet$Trunk", "holder", "LCrossbarNet$Call;", false)
def tyX6 : Nat → FieldType := fun k => match k with
  | 0 => .int
  | 1 => .int
  | 2 => .boolean
  | _ => .object "CrossbarNet$Call"
abbrev wsX60 : List Cond := u_ws RX6 TX6 4
theorem nmX6 : ∀ a, a < 4 → ∀ b, b < 4 → a ≠ b → (TX6 a).2.1 ≠ (TX6 b).2.1 := by decide +kernel
theorem tyX6_ok : ∀ k, k < 4 → parseFieldDescriptor (TX6 k).2.2.1 = some (tyX6 k) := by decide +kernel
abbrev cX6_init : ByteArray := prog_8_method_1_code
def yX6_init : MethodName := ⟨RX6, "<init>", "(II)V"⟩
abbrev cX6_isReady : ByteArray := prog_8_method_2_code
def yX6_isReady : MethodName := ⟨RX6, "isReady", "()Z"⟩
abbrev cX6_endsAt : ByteArray := prog_8_method_3_code
def yX6_endsAt : MethodName := ⟨RX6, "endsAt", "(I)Z"⟩
def RX7 : String := "CrossbarNet"
def TX7 : u_T := fun k => match k with
  | 0 => ("CrossbarNet", "offices", "[LCrossbarNet$Office;", true)
  | 1 => ("CrossbarNet", "calls", "[LCrossbarNet$Call;", true)
  | 2 => ("CrossbarNet", "trunks", "[LCrossbarNet$Trunk;", true)
  | 3 => ("CrossbarNet", "overflows", "[[I", true)
  | _ => ("CrossbarNet", "trunkCount", "I", false)
def tyX7 : Nat → FieldType := fun k => match k with
  | 0 => .array (.object "CrossbarNet$Office")
  | 1 => .array (.object "CrossbarNet$Call")
  | 2 => .array (.object "CrossbarNet$Trunk")
  | 3 => .array (.array .int)
  | _ => .int
abbrev wsX70 : List Cond := u_ws RX7 TX7 5
theorem nmX7 : ∀ a, a < 5 → ∀ b, b < 5 → a ≠ b → (TX7 a).2.1 ≠ (TX7 b).2.1 := by decide +kernel
theorem tyX7_ok : ∀ k, k < 5 → parseFieldDescriptor (TX7 k).2.2.1 = some (tyX7 k) := by decide +kernel
abbrev cX7_init : ByteArray := prog_1_method_1_code
def yX7_init : MethodName := ⟨RX7, "<init>", "()V"⟩
abbrev cX7_trunk : ByteArray := prog_1_method_2_code
def yX7_trunk : MethodName := ⟨RX7, "trunk", "(II)I"⟩
abbrev cX7_route : ByteArray := prog_1_method_3_code
def yX7_route : MethodName := ⟨RX7, "route", "(IIIII)I"⟩
abbrev cX7_hunt : ByteArray := prog_1_method_4_code
def yX7_hunt : MethodName := ⟨RX7, "hunt", "(III)I"⟩
abbrev cX7_lift : ByteArray := prog_1_method_5_code
def yX7_lift : MethodName := ⟨RX7, "lift", "(II)V"⟩
abbrev cX7_hang : ByteArray := prog_1_method_6_code
def yX7_hang : MethodName := ⟨RX7, "hang", "(II)V"⟩
abbrev cX7_dial : ByteArray := prog_1_method_7_code
def yX7_dial : MethodName := ⟨RX7, "dial", "(III)Z"⟩
abbrev cX7_tick : ByteArray := prog_1_method_8_code
def yX7_tick : MethodName := ⟨RX7, "tick", "(I)V"⟩
abbrev cX7_out : ByteArray := prog_1_method_9_code
def yX7_out : MethodName := ⟨RX7, "out", "(IZ)Z"⟩
abbrev cX7_hold : ByteArray := prog_1_method_10_code
def yX7_hold : MethodName := ⟨RX7, "hold", "(IIZ)Z"⟩
abbrev cX7_tone : ByteArray := prog_1_method_11_code
def yX7_tone : MethodName := ⟨RX7, "tone", "(II)I"⟩
abbrev cX7_rings : ByteArray := prog_1_method_12_code
def yX7_rings : MethodName := ⟨RX7, "rings", "(II)Z"⟩
abbrev cX7_talks : ByteArray := prog_1_method_13_code
def yX7_talks : MethodName := ⟨RX7, "talks", "(II)I"⟩
abbrev cX7_meter : ByteArray := prog_1_method_14_code
def yX7_meter : MethodName := ⟨RX7, "meter", "(II)I"⟩
abbrev cX7_seized : ByteArray := prog_1_method_15_code
def yX7_seized : MethodName := ⟨RX7, "seized", "(III)I"⟩
abbrev cX7_idle : ByteArray := prog_1_method_16_code
def yX7_idle : MethodName := ⟨RX7, "idle", "(II)I"⟩
abbrev cX7_overflow : ByteArray := prog_1_method_17_code
def yX7_overflow : MethodName := ⟨RX7, "overflow", "(II)I"⟩
abbrev cX7_need : ByteArray := prog_1_method_18_code
def yX7_need : MethodName := ⟨RX7, "need", "(Z)V"⟩
abbrev cX7_allow : ByteArray := prog_1_method_19_code
def yX7_allow : MethodName := ⟨RX7, "allow", "(Z)V"⟩
abbrev cX7_isWithin : ByteArray := prog_1_method_20_code
def yX7_isWithin : MethodName := ⟨RX7, "isWithin", "(III)Z"⟩
abbrev cX7_isOffice : ByteArray := prog_1_method_21_code
def yX7_isOffice : MethodName := ⟨RX7, "isOffice", "(I)Z"⟩
abbrev cX7_isLine : ByteArray := prog_1_method_22_code
def yX7_isLine : MethodName := ⟨RX7, "isLine", "(I)Z"⟩
abbrev cX7_isPrefix : ByteArray := prog_1_method_23_code
def yX7_isPrefix : MethodName := ⟨RX7, "isPrefix", "(I)Z"⟩
abbrev cX7_beginsWith : ByteArray := prog_1_method_24_code
def yX7_beginsWith : MethodName := ⟨RX7, "beginsWith", "(II)Z"⟩
abbrev cX7_countDigits : ByteArray := prog_1_method_25_code
def yX7_countDigits : MethodName := ⟨RX7, "countDigits", "(I)I"⟩
abbrev cX7_lineOf : ByteArray := prog_1_method_26_code
def yX7_lineOf : MethodName := ⟨RX7, "lineOf", "(II)LCrossbarNet$Line;"⟩
abbrev cX7_askForRegister : ByteArray := prog_1_method_27_code
def yX7_askForRegister : MethodName := ⟨RX7, "askForRegister", "(LCrossbarNet$Office;LCrossbarNet$Line;)V"⟩
abbrev cX7_beginCall : ByteArray := prog_1_method_28_code
def yX7_beginCall : MethodName := ⟨RX7, "beginCall", "(LCrossbarNet$Office;LCrossbarNet$Line;I)V"⟩
abbrev cX7_takeDigit : ByteArray := prog_1_method_29_code
def yX7_takeDigit : MethodName := ⟨RX7, "takeDigit", "(LCrossbarNet$Office;LCrossbarNet$Call;I)V"⟩
abbrev cX7_makeJob : ByteArray := prog_1_method_30_code
def yX7_makeJob : MethodName := ⟨RX7, "makeJob", "(LCrossbarNet$Office;LCrossbarNet$Call;)V"⟩
abbrev cX7_doOldestJob : ByteArray := prog_1_method_31_code
def yX7_doOldestJob : MethodName := ⟨RX7, "doOldestJob", "(LCrossbarNet$Office;)V"⟩
abbrev cX7_callLine : ByteArray := prog_1_method_32_code
def yX7_callLine : MethodName := ⟨RX7, "callLine", "(LCrossbarNet$Office;LCrossbarNet$Call;I)V"⟩
abbrev cX7_seizeWayWithin : ByteArray := prog_1_method_33_code
def yX7_seizeWayWithin : MethodName := ⟨RX7, "seizeWayWithin", "(LCrossbarNet$Office;LCrossbarNet$Call;LCrossbarNet$Line;)Z"⟩
abbrev cX7_seizeLink : ByteArray := prog_1_method_34_code
def yX7_seizeLink : MethodName := ⟨RX7, "seizeLink", "(LCrossbarNet$Office;LCrossbarNet$Call;I)Z"⟩
abbrev cX7_sendOnward : ByteArray := prog_1_method_35_code
def yX7_sendOnward : MethodName := ⟨RX7, "sendOnward", "(LCrossbarNet$Office;LCrossbarNet$Call;LCrossbarNet$Route;)V"⟩
abbrev cX7_seizeOnward : ByteArray := prog_1_method_36_code
def yX7_seizeOnward : MethodName := ⟨RX7, "seizeOnward", "(LCrossbarNet$Office;LCrossbarNet$Call;LCrossbarNet$Office;)Z"⟩
abbrev cX7_sendDigits : ByteArray := prog_1_method_37_code
def yX7_sendDigits : MethodName := ⟨RX7, "sendDigits", "()V"⟩
abbrev cX7_sendDigit : ByteArray := prog_1_method_38_code
def yX7_sendDigit : MethodName := ⟨RX7, "sendDigit", "(LCrossbarNet$Call;)V"⟩
abbrev cX7_letTimePass : ByteArray := prog_1_method_39_code
def yX7_letTimePass : MethodName := ⟨RX7, "letTimePass", "()V"⟩
abbrev cX7_waitForDigit : ByteArray := prog_1_method_40_code
def yX7_waitForDigit : MethodName := ⟨RX7, "waitForDigit", "(LCrossbarNet$Call;)V"⟩
abbrev cX7_spendTalkTick : ByteArray := prog_1_method_41_code
def yX7_spendTalkTick : MethodName := ⟨RX7, "spendTalkTick", "(LCrossbarNet$Call;)V"⟩
abbrev cX7_giveRegisters : ByteArray := prog_1_method_42_code
def yX7_giveRegisters : MethodName := ⟨RX7, "giveRegisters", "()V"⟩
abbrev cX7_answer : ByteArray := prog_1_method_43_code
def yX7_answer : MethodName := ⟨RX7, "answer", "(LCrossbarNet$Call;)V"⟩
abbrev cX7_charge : ByteArray := prog_1_method_44_code
def yX7_charge : MethodName := ⟨RX7, "charge", "(LCrossbarNet$Call;)V"⟩
abbrev cX7_end : ByteArray := prog_1_method_45_code
def yX7_end : MethodName := ⟨RX7, "end", "(LCrossbarNet$Call;I)V"⟩
abbrev cX7_seize : ByteArray := prog_1_method_46_code
def yX7_seize : MethodName := ⟨RX7, "seize", "(LCrossbarNet$Call;I)V"⟩
abbrev cX7_release : ByteArray := prog_1_method_47_code
def yX7_release : MethodName := ⟨RX7, "release", "(LCrossbarNet$Call;I)V"⟩
abbrev cX7_setHolder : ByteArray := prog_1_method_48_code
def yX7_setHolder : MethodName := ⟨RX7, "setHolder", "(ILCrossbarNet$Call;)V"⟩
abbrev cX7_firstIdleTrunk : ByteArray := prog_1_method_49_code
def yX7_firstIdleTrunk : MethodName := ⟨RX7, "firstIdleTrunk", "(II)I"⟩
abbrev cX7_countIdleTrunks : ByteArray := prog_1_method_50_code
def yX7_countIdleTrunks : MethodName := ⟨RX7, "countIdleTrunks", "(I)I"⟩
def RX8 : String := "CrossbarNetModel"
def TX8 : u_T := fun k => match k with
  | 0 => ("CrossbarNetModel", "refusal", "I", false)
  | 1 => ("CrossbarNetModel", "now", "I", false)
  | 2 => ("CrossbarNetModel", "stamps", "I", false)
  | 3 => ("CrossbarNetModel", "isLifted", "[Z", true)
  | 4 => ("CrossbarNetModel", "tones", "[I", true)
  | 5 => ("CrossbarNetModel", "waits", "[I", true)
  | 6 => ("CrossbarNetModel", "meters", "[I", true)
  | 7 => ("CrossbarNetModel", "huntSizes", "[I", true)
  | 8 => ("CrossbarNetModel", "huntLines", "[I", true)
  | 9 => ("CrossbarNetModel", "calledBy", "[I", true)
  | 10 => ("CrossbarNetModel", "prefixes", "[I", true)
  | 11 => ("CrossbarNetModel", "prefixOf", "[I", true)
  | 12 => ("CrossbarNetModel", "units", "[I", true)
  | 13 => ("CrossbarNetModel", "periods", "[I", true)
  | 14 => ("CrossbarNetModel", "choices", "[I", true)
  | 15 => ("CrossbarNetModel", "isOwn", "[Z", true)
  | 16 => ("CrossbarNetModel", "choiceOf", "[I", true)
  | 17 => ("CrossbarNetModel", "links", "[I", true)
  | 18 => ("CrossbarNetModel", "junctors", "[I", true)
  | 19 => ("CrossbarNetModel", "registers", "[I", true)
  | 20 => ("CrossbarNetModel", "trunks", "I", false)
  | 21 => ("CrossbarNetModel", "trunkFrom", "[I", true)
  | 22 => ("CrossbarNetModel", "trunkTo", "[I", true)
  | 23 => ("CrossbarNetModel", "trunkOf", "[I", true)
  | 24 => ("CrossbarNetModel", "isOut", "[Z", true)
  | 25 => ("CrossbarNetModel", "rotors", "[I", true)
  | 26 => ("CrossbarNetModel", "overflows", "[I", true)
  | 27 => ("CrossbarNetModel", "jobs", "[I", true)
  | 28 => ("CrossbarNetModel", "jobOf", "[I", true)
  | 29 => ("CrossbarNetModel", "state", "[I", true)
  | 30 => ("CrossbarNetModel", "digits", "[I", true)
  | 31 => ("CrossbarNetModel", "digitOf", "[I", true)
  | 32 => ("CrossbarNetModel", "office", "[I", true)
  | 33 => ("CrossbarNetModel", "register", "[I", true)
  | 34 => ("CrossbarNetModel", "left", "[I", true)
  | 35 => ("CrossbarNetModel", "next", "[I", true)
  | 36 => ("CrossbarNetModel", "nextRegister", "[I", true)
  | 37 => ("CrossbarNetModel", "visited", "[I", true)
  | 38 => ("CrossbarNetModel", "waited", "[I", true)
  | 39 => ("CrossbarNetModel", "called", "[I", true)
  | 40 => ("CrossbarNetModel", "dialled", "[I", true)
  | 41 => ("CrossbarNetModel", "jobAt", "[I", true)
  | 42 => ("CrossbarNetModel", "isHeld", "[Z", true)
  | 43 => ("CrossbarNetModel", "talked", "[I", true)
  | 44 => ("CrossbarNetModel", "hung", "[I", true)
  | 45 => ("CrossbarNetModel", "things", "[I", true)
  | 46 => ("CrossbarNetModel", "thingOf", "[I", true)
  | 47 => ("CrossbarNetModel", "wayFirst", "I", false)
  | _ => ("CrossbarNetModel", "waySecond", "I", false)
def tyX8 : Nat → FieldType := fun k => match k with
  | 0 => .int
  | 1 => .int
  | 2 => .int
  | 3 => .array .boolean
  | 4 => .array .int
  | 5 => .array .int
  | 6 => .array .int
  | 7 => .array .int
  | 8 => .array .int
  | 9 => .array .int
  | 10 => .array .int
  | 11 => .array .int
  | 12 => .array .int
  | 13 => .array .int
  | 14 => .array .int
  | 15 => .array .boolean
  | 16 => .array .int
  | 17 => .array .int
  | 18 => .array .int
  | 19 => .array .int
  | 20 => .int
  | 21 => .array .int
  | 22 => .array .int
  | 23 => .array .int
  | 24 => .array .boolean
  | 25 => .array .int
  | 26 => .array .int
  | 27 => .array .int
  | 28 => .array .int
  | 29 => .array .int
  | 30 => .array .int
  | 31 => .array .int
  | 32 => .array .int
  | 33 => .array .int
  | 34 => .array .int
  | 35 => .array .int
  | 36 => .array .int
  | 37 => .array .int
  | 38 => .array .int
  | 39 => .array .int
  | 40 => .array .int
  | 41 => .array .int
  | 42 => .array .boolean
  | 43 => .array .int
  | 44 => .array .int
  | 45 => .array .int
  | 46 => .array .int
  | 47 => .int
  | _ => .int
abbrev wsX80 : List Cond := u_ws RX8 TX8 49
theorem nmX8 : ∀ a, a < 49 → ∀ b, b < 49 → a ≠ b → (TX8 a).2.1 ≠ (TX8 b).2.1 := by decide +kernel
theorem tyX8_ok : ∀ k, k < 49 → parseFieldDescriptor (TX8 k).2.2.1 = some (tyX8 k) := by decide +kernel
abbrev cX8_init : ByteArray := prog_10_method_1_code
def yX8_init : MethodName := ⟨RX8, "<init>", "()V"⟩
abbrev cX8_thrown : ByteArray := prog_10_method_2_code
def yX8_thrown : MethodName := ⟨RX8, "thrown", "()I"⟩
abbrev cX8_refused : ByteArray := prog_10_method_3_code
def yX8_refused : MethodName := ⟨RX8, "refused", "(I)Z"⟩
abbrev cX8_isIn : ByteArray := prog_10_method_4_code
def yX8_isIn : MethodName := ⟨RX8, "isIn", "(III)Z"⟩
abbrev cX8_isLine : ByteArray := prog_10_method_5_code
def yX8_isLine : MethodName := ⟨RX8, "isLine", "(II)Z"⟩
abbrev cX8_trunk : ByteArray := prog_10_method_6_code
def yX8_trunk : MethodName := ⟨RX8, "trunk", "(II)I"⟩
abbrev cX8_sizeOf : ByteArray := prog_10_method_7_code
def yX8_sizeOf : MethodName := ⟨RX8, "sizeOf", "(I)I"⟩
abbrev cX8_overlap : ByteArray := prog_10_method_8_code
def yX8_overlap : MethodName := ⟨RX8, "overlap", "(II)Z"⟩
abbrev cX8_route : ByteArray := prog_10_method_9_code
def yX8_route : MethodName := ⟨RX8, "route", "(IIIII)I"⟩
abbrev cX8_hunt : ByteArray := prog_10_method_10_code
def yX8_hunt : MethodName := ⟨RX8, "hunt", "(III)I"⟩
abbrev cX8_seize : ByteArray := prog_10_method_11_code
def yX8_seize : MethodName := ⟨RX8, "seize", "(II)V"⟩
abbrev cX8_give : ByteArray := prog_10_method_12_code
def yX8_give : MethodName := ⟨RX8, "give", "(II)V"⟩
abbrev cX8_release : ByteArray := prog_10_method_13_code
def yX8_release : MethodName := ⟨RX8, "release", "(II)V"⟩
abbrev cX8_dropJob : ByteArray := prog_10_method_14_code
def yX8_dropJob : MethodName := ⟨RX8, "dropJob", "(I)V"⟩
abbrev cX8_addJob : ByteArray := prog_10_method_15_code
def yX8_addJob : MethodName := ⟨RX8, "addJob", "(II)V"⟩
abbrev cX8_end : ByteArray := prog_10_method_16_code
def yX8_end : MethodName := ⟨RX8, "end", "(I)V"⟩
abbrev cX8_fail : ByteArray := prog_10_method_17_code
def yX8_fail : MethodName := ⟨RX8, "fail", "(II)V"⟩
abbrev cX8_over : ByteArray := prog_10_method_18_code
def yX8_over : MethodName := ⟨RX8, "over", "(II)V"⟩
abbrev cX8_idleRegister : ByteArray := prog_10_method_19_code
def yX8_idleRegister : MethodName := ⟨RX8, "idleRegister", "(I)I"⟩
abbrev cX8_doesWait : ByteArray := prog_10_method_20_code
def yX8_doesWait : MethodName := ⟨RX8, "doesWait", "(I)Z"⟩
abbrev cX8_begin : ByteArray := prog_10_method_21_code
def yX8_begin : MethodName := ⟨RX8, "begin", "(I)V"⟩
abbrev cX8_lift : ByteArray := prog_10_method_22_code
def yX8_lift : MethodName := ⟨RX8, "lift", "(II)V"⟩
abbrev cX8_hang : ByteArray := prog_10_method_23_code
def yX8_hang : MethodName := ⟨RX8, "hang", "(II)V"⟩
abbrev cX8_fits : ByteArray := prog_10_method_24_code
def yX8_fits : MethodName := ⟨RX8, "fits", "(II)Z"⟩
abbrev cX8_mayBecome : ByteArray := prog_10_method_25_code
def yX8_mayBecome : MethodName := ⟨RX8, "mayBecome", "(II)Z"⟩
abbrev cX8_prefixFor : ByteArray := prog_10_method_26_code
def yX8_prefixFor : MethodName := ⟨RX8, "prefixFor", "(II)I"⟩
abbrev cX8_dial : ByteArray := prog_10_method_27_code
def yX8_dial : MethodName := ⟨RX8, "dial", "(III)Z"⟩
abbrev cX8_isFree : ByteArray := prog_10_method_28_code
def yX8_isFree : MethodName := ⟨RX8, "isFree", "(I)Z"⟩
abbrev cX8_hunted : ByteArray := prog_10_method_29_code
def yX8_hunted : MethodName := ⟨RX8, "hunted", "(II)I"⟩
abbrev cX8_link : ByteArray := prog_10_method_30_code
def yX8_link : MethodName := ⟨RX8, "link", "(III)I"⟩
abbrev cX8_findWay : ByteArray := prog_10_method_31_code
def yX8_findWay : MethodName := ⟨RX8, "findWay", "(III)Z"⟩
abbrev cX8_idleJunctor : ByteArray := prog_10_method_32_code
def yX8_idleJunctor : MethodName := ⟨RX8, "idleJunctor", "(I)I"⟩
abbrev cX8_complete : ByteArray := prog_10_method_33_code
def yX8_complete : MethodName := ⟨RX8, "complete", "(III)V"⟩
abbrev cX8_idleTrunk : ByteArray := prog_10_method_34_code
def yX8_idleTrunk : MethodName := ⟨RX8, "idleTrunk", "(II)I"⟩
abbrev cX8_forward : ByteArray := prog_10_method_35_code
def yX8_forward : MethodName := ⟨RX8, "forward", "(III)V"⟩
abbrev cX8_doJob : ByteArray := prog_10_method_36_code
def yX8_doJob : MethodName := ⟨RX8, "doJob", "(I)V"⟩
abbrev cX8_send : ByteArray := prog_10_method_37_code
def yX8_send : MethodName := ⟨RX8, "send", "(II)V"⟩
abbrev cX8_pass : ByteArray := prog_10_method_38_code
def yX8_pass : MethodName := ⟨RX8, "pass", "(I)V"⟩
abbrev cX8_hand : ByteArray := prog_10_method_39_code
def yX8_hand : MethodName := ⟨RX8, "hand", "(I)V"⟩
abbrev cX8_one : ByteArray := prog_10_method_40_code
def yX8_one : MethodName := ⟨RX8, "one", "()V"⟩
abbrev cX8_tick : ByteArray := prog_10_method_41_code
def yX8_tick : MethodName := ⟨RX8, "tick", "(I)V"⟩
abbrev cX8_out : ByteArray := prog_10_method_42_code
def yX8_out : MethodName := ⟨RX8, "out", "(IZ)Z"⟩
abbrev cX8_hold : ByteArray := prog_10_method_43_code
def yX8_hold : MethodName := ⟨RX8, "hold", "(IIZ)Z"⟩
abbrev cX8_tone : ByteArray := prog_10_method_44_code
def yX8_tone : MethodName := ⟨RX8, "tone", "(II)I"⟩
abbrev cX8_rings : ByteArray := prog_10_method_45_code
def yX8_rings : MethodName := ⟨RX8, "rings", "(II)Z"⟩
abbrev cX8_talks : ByteArray := prog_10_method_46_code
def yX8_talks : MethodName := ⟨RX8, "talks", "(II)I"⟩
abbrev cX8_meter : ByteArray := prog_10_method_47_code
def yX8_meter : MethodName := ⟨RX8, "meter", "(II)I"⟩
abbrev cX8_seized : ByteArray := prog_10_method_48_code
def yX8_seized : MethodName := ⟨RX8, "seized", "(III)I"⟩
abbrev cX8_idle : ByteArray := prog_10_method_49_code
def yX8_idle : MethodName := ⟨RX8, "idle", "(II)I"⟩
abbrev cX8_overflow : ByteArray := prog_10_method_50_code
def yX8_overflow : MethodName := ⟨RX8, "overflow", "(II)I"⟩
def RJx29ce0 : String := "java/lang/Enum"
def TJx29ce0 : u_T := fun k => match k with
  | _ => ("", "", "", false)
def tyJx29ce0 : Nat → FieldType := fun k => match k with
  | _ => .int
abbrev wsJx29ce00 : List Cond := u_ws RJx29ce0 TJx29ce0 0
theorem nmJx29ce0 : ∀ a, a < 0 → ∀ b, b < 0 → a ≠ b → (TJx29ce0 a).2.1 ≠ (TJx29ce0 b).2.1 := by decide +kernel
theorem tyJx29ce0_ok : ∀ k, k < 0 → parseFieldDescriptor (TJx29ce0 k).2.2.1 = some (tyJx29ce0 k) := by decide +kernel
def RL : String := "CrossbarNetLaw"
abbrev cL_trunk : ByteArray := method_3_code
def yL_trunk : MethodName := ⟨RL, "trunk", "(LCrossbarNet;II[J)I"⟩
abbrev cL_route : ByteArray := method_4_code
def yL_route : MethodName := ⟨RL, "route", "(LCrossbarNet;IIIII[J)I"⟩
abbrev cL_hunt : ByteArray := method_5_code
def yL_hunt : MethodName := ⟨RL, "hunt", "(LCrossbarNet;III[J)I"⟩
abbrev cL_lift : ByteArray := method_6_code
def yL_lift : MethodName := ⟨RL, "lift", "(LCrossbarNet;II)I"⟩
abbrev cL_hang : ByteArray := method_7_code
def yL_hang : MethodName := ⟨RL, "hang", "(LCrossbarNet;II)I"⟩
abbrev cL_dial : ByteArray := method_8_code
def yL_dial : MethodName := ⟨RL, "dial", "(LCrossbarNet;III[J)I"⟩
abbrev cL_tick : ByteArray := method_9_code
def yL_tick : MethodName := ⟨RL, "tick", "(LCrossbarNet;I)I"⟩
abbrev cL_out : ByteArray := method_10_code
def yL_out : MethodName := ⟨RL, "out", "(LCrossbarNet;IZ[J)I"⟩
abbrev cL_hold : ByteArray := method_11_code
def yL_hold : MethodName := ⟨RL, "hold", "(LCrossbarNet;IIZ[J)I"⟩
abbrev cL_tone : ByteArray := method_12_code
def yL_tone : MethodName := ⟨RL, "tone", "(LCrossbarNet;II[J)I"⟩
abbrev cL_rings : ByteArray := method_13_code
def yL_rings : MethodName := ⟨RL, "rings", "(LCrossbarNet;II[J)I"⟩
abbrev cL_talks : ByteArray := method_14_code
def yL_talks : MethodName := ⟨RL, "talks", "(LCrossbarNet;II[J)I"⟩
abbrev cL_meter : ByteArray := method_15_code
def yL_meter : MethodName := ⟨RL, "meter", "(LCrossbarNet;II[J)I"⟩
abbrev cL_seized : ByteArray := method_16_code
def yL_seized : MethodName := ⟨RL, "seized", "(LCrossbarNet;III[J)I"⟩
abbrev cL_idle : ByteArray := method_17_code
def yL_idle : MethodName := ⟨RL, "idle", "(LCrossbarNet;II[J)I"⟩
abbrev cL_overflow : ByteArray := method_18_code
def yL_overflow : MethodName := ⟨RL, "overflow", "(LCrossbarNet;II[J)I"⟩
abbrev cL_law : ByteArray := code
def yL_law : MethodName := ⟨RL, "law", "([I)Z"⟩
end
section
/-! THE ABSTRACT MACHINE: values, heaps by components, instructions as transformers of predicates. -/
/-- an int, a long, or a reference (kind, place); place 0 is null; kind 0 is a local that is not set -/
abbrev xV : Type := Int32 ⊕ (Int64 ⊕ (Nat × Nat))
/-- how many there are of a kind; lengths of arrays; ints; references; addresses; cells made since the law's start; the method's own cells and slots; the long -/
abbrev xH : Type := (Nat → Nat) × (Nat → Nat → Nat) × (Nat → Nat → Nat → Int32) × (Nat → Nat → Nat → Nat) × (Nat → Nat → Nat) × Nat × Nat × Nat × Int64
abbrev xS : Type := List xV × List xV × xH
abbrev xO : Type := Option xV ⊕ Nat
abbrev xG : Type := Nat → List xV → xH → (xO → xH → Prop) → Prop
abbrev xI : Type := xG → (xO → xH → Prop) → (Nat → xS → Prop) → (xS → Prop) → xS → Prop
def x_cn (h : xH) : Nat → Nat := h.1
def x_ln (h : xH) : Nat → Nat → Nat := h.2.1
def x_vi (h : xH) : Nat → Nat → Nat → Int32 := h.2.2.1
def x_vr (h : xH) : Nat → Nat → Nat → Nat := h.2.2.2.1
def x_ad (h : xH) : Nat → Nat → Nat := h.2.2.2.2.1
def x_sz (h : xH) : Nat := h.2.2.2.2.2.1
def x_ce (h : xH) : Nat := h.2.2.2.2.2.2.1
def x_so (h : xH) : Nat := h.2.2.2.2.2.2.2.1
def x_lg (h : xH) : Int64 := h.2.2.2.2.2.2.2.2
def x_u1 {α : Type} (f : Nat → α) (k : Nat) (v : α) : Nat → α := fun k' => if k' = k then v else f k'
def x_u2 {α : Type} (f : Nat → Nat → α) (K k : Nat) (v : α) : Nat → Nat → α := fun K' k' => if K' = K ∧ k' = k then v else f K' k'
def x_u3 {α : Type} (f : Nat → Nat → Nat → α) (K k i : Nat) (v : α) : Nat → Nat → Nat → α := fun K' k' i' => if K' = K ∧ k' = k ∧ i' = i then v else f K' k' i'
def x_puti (h : xH) (K k i : Nat) (v : Int32) : xH := (h.1, h.2.1, x_u3 h.2.2.1 K k i v, h.2.2.2)
def x_putr (h : xH) (K k i : Nat) (v : Nat) : xH := (h.1, h.2.1, h.2.2.1, x_u3 h.2.2.2.1 K k i v, h.2.2.2.2)
def x_putl (h : xH) (v : Int64) : xH := (h.1, h.2.1, h.2.2.1, h.2.2.2.1, h.2.2.2.2.1, h.2.2.2.2.2.1, h.2.2.2.2.2.2.1, h.2.2.2.2.2.2.2.1, v)
def x_setc (h : xH) (a b : Nat) : xH := (h.1, h.2.1, h.2.2.1, h.2.2.2.1, h.2.2.2.2.1, h.2.2.2.2.2.1, a, b, h.2.2.2.2.2.2.2.2)
/-- a new object of kind K with N fields, all 0 or null -/
def x_new (h : xH) (K N : Nat) : xH := (x_u1 h.1 K (h.1 K + 1), h.2.1, fun K' k i => if K' = K ∧ i = h.1 K + 1 then 0 else h.2.2.1 K' k i, fun K' k i => if K' = K ∧ i = h.1 K + 1 then 0 else h.2.2.2.1 K' k i, x_u2 h.2.2.2.2.1 K (h.1 K + 1) h.2.2.2.2.2.1, h.2.2.2.2.2.1 + 1, h.2.2.2.2.2.2.1 + 1, h.2.2.2.2.2.2.2.1 + N, h.2.2.2.2.2.2.2.2)
/-- a new array of kind K with n places, all 0 or null -/
def x_newa (h : xH) (K n : Nat) : xH := (x_u1 h.1 K (h.1 K + 1), x_u2 h.2.1 K (h.1 K + 1) n, fun K' j i => if K' = K ∧ j = h.1 K + 1 then 0 else h.2.2.1 K' j i, fun K' j i => if K' = K ∧ j = h.1 K + 1 then 0 else h.2.2.2.1 K' j i, x_u2 h.2.2.2.2.1 K (h.1 K + 1) h.2.2.2.2.2.1, h.2.2.2.2.2.1 + 1, h.2.2.2.2.2.2.1 + 1, h.2.2.2.2.2.2.2.1 + n, if K = 21 then 0 else h.2.2.2.2.2.2.2.2)
/-- an exception is made: d cells more -/
def x_exc (h : xH) (d : Nat) : xH := (h.1, h.2.1, h.2.2.1, h.2.2.2.1, h.2.2.2.2.1, h.2.2.2.2.2.1 + d, h.2.2.2.2.2.2.1 + 1, h.2.2.2.2.2.2.2.1 + 6, h.2.2.2.2.2.2.2.2)
-- values
abbrev x_int (n : Int32) : xV := .inl n
abbrev x_ref (t j : Nat) : xV := .inr (.inr (t, j))
/-- the words that a value takes on the stack -/
def x_cat (v : xV) : Nat := match v with
  | .inl _ => 1
  | .inr (.inl _) => 2
  | .inr (.inr _) => 1
def x_cats (l : List xV) : Nat := match l with
  | [] => 0
  | v :: r => x_cat v + x_cats r
-- instructions
def x_iload (a : Nat) : xI := fun _ _ _ q S => match S.1[a]? with
  | some (.inl n) => q (S.1, .inl n :: S.2.1, S.2.2)
  | _ => False
def x_aload (a : Nat) : xI := fun _ _ _ q S => match S.1[a]? with
  | some (.inr (.inr (t, j))) => t ≠ 0 ∧ q (S.1, .inr (.inr (t, j)) :: S.2.1, S.2.2)
  | _ => False
def x_istore (a : Nat) : xI := fun _ _ _ q S => match S.2.1 with
  | .inl n :: st => a < S.1.length ∧ q (S.1.set a (.inl n), st, S.2.2)
  | _ => False
def x_astore (a : Nat) : xI := fun _ _ _ q S => match S.2.1 with
  | .inr (.inr r) :: st => a < S.1.length ∧ q (S.1.set a (.inr (.inr r)), st, S.2.2)
  | _ => False
def x_iinc (a : Nat) (v : Int32) : xI := fun _ _ _ q S => match S.1[a]? with
  | some (.inl n) => q (S.1.set a (.inl (n + v)), S.2.1, S.2.2)
  | _ => False
def x_iconst (v : Int32) : xI := fun _ _ _ q S => q (S.1, .inl v :: S.2.1, S.2.2)
def x_null (t : Nat) : xI := fun _ _ _ q S => q (S.1, .inr (.inr (t, 0)) :: S.2.1, S.2.2)
/-- an operation on two ints -/
def x_bin (f : Int32 → Int32 → Int32) : xI := fun _ _ _ q S => match S.2.1 with
  | .inl y :: .inl x :: st => q (S.1, .inl (f x y) :: st, S.2.2)
  | _ => False
def x_idiv : xI := fun _ _ _ q S => match S.2.1 with
  | .inl y :: .inl x :: st => ¬ y = 0 ∧ q (S.1, .inl (x / y) :: st, S.2.2)
  | _ => False
def x_irem : xI := fun _ _ _ q S => match S.2.1 with
  | .inl y :: .inl x :: st => ¬ y = 0 ∧ q (S.1, .inl (x - x / y * y) :: st, S.2.2)
  | _ => False
def x_dup : xI := fun _ _ _ q S => match S.2.1 with
  | v :: st => x_cat v = 1 ∧ q (S.1, v :: v :: st, S.2.2)
  | _ => False
def x_dup2 : xI := fun _ _ _ q S => match S.2.1 with
  | v :: w :: st => x_cat v = 1 ∧ x_cat w = 1 ∧ q (S.1, v :: w :: v :: w :: st, S.2.2)
  | _ => False
def x_pop : xI := fun _ _ _ q S => match S.2.1 with
  | v :: st => x_cat v = 1 ∧ q (S.1, st, S.2.2)
  | _ => False
def x_goto (a : Nat) : xI := fun _ _ J _ S => J a S
/-- a comparison with 0: where it holds, to a -/
def x_if (c : Int32 → Prop) (a : Nat) : xI := fun _ _ J q S => match S.2.1 with
  | .inl x :: st => (c x → J a (S.1, st, S.2.2)) ∧ (¬ c x → q (S.1, st, S.2.2))
  | _ => False
def x_icmp (c : Int32 → Int32 → Prop) (a : Nat) : xI := fun _ _ J q S => match S.2.1 with
  | .inl y :: .inl x :: st => (c x y → J a (S.1, st, S.2.2)) ∧ (¬ c x y → q (S.1, st, S.2.2))
  | _ => False
/-- two references of one kind: where they are one, to a -/
def x_aeq (T a : Nat) : xI := fun _ _ J q S => match S.2.1 with
  | .inr (.inr (t, j)) :: .inr (.inr (t', j')) :: st => t = T ∧ t' = T ∧ (j' = j → J a (S.1, st, S.2.2)) ∧ (¬ j' = j → q (S.1, st, S.2.2))
  | _ => False
def x_ane (T a : Nat) : xI := fun _ _ J q S => match S.2.1 with
  | .inr (.inr (t, j)) :: .inr (.inr (t', j')) :: st => t = T ∧ t' = T ∧ (¬ j' = j → J a (S.1, st, S.2.2)) ∧ (j' = j → q (S.1, st, S.2.2))
  | _ => False
def x_ifnull (a : Nat) : xI := fun _ _ J q S => match S.2.1 with
  | .inr (.inr (_, j)) :: st => (j = 0 → J a (S.1, st, S.2.2)) ∧ (¬ j = 0 → q (S.1, st, S.2.2))
  | _ => False
def x_ifnonnull (a : Nat) : xI := fun _ _ J q S => match S.2.1 with
  | .inr (.inr (_, j)) :: st => (¬ j = 0 → J a (S.1, st, S.2.2)) ∧ (j = 0 → q (S.1, st, S.2.2))
  | _ => False
/-- a switch: the targets from lo on, and the default's -/
def x_switch (lo : Int) (tg : List Nat) (d : Nat) : xI := fun _ _ J _ S => match S.2.1 with
  | .inl x :: st => (∀ k a : Nat, tg[k]? = some a → x.toInt = lo + k → J a (S.1, st, S.2.2)) ∧ (x.toInt < lo ∨ lo + tg.length ≤ x.toInt → J d (S.1, st, S.2.2))
  | _ => False
def x_live (h : xH) (K j : Nat) : Prop := 1 ≤ j ∧ j ≤ x_cn h K
def x_gfi (K k : Nat) : xI := fun _ _ _ q S => match S.2.1 with
  | .inr (.inr (t, j)) :: st => t = K ∧ x_live S.2.2 K j ∧ q (S.1, .inl (x_vi S.2.2 K k j) :: st, S.2.2)
  | _ => False
def x_gfr (K k T : Nat) : xI := fun _ _ _ q S => match S.2.1 with
  | .inr (.inr (t, j)) :: st => t = K ∧ x_live S.2.2 K j ∧ q (S.1, .inr (.inr (T, x_vr S.2.2 K k j)) :: st, S.2.2)
  | _ => False
def x_pfi (K k : Nat) : xI := fun _ _ _ q S => match S.2.1 with
  | .inl n :: .inr (.inr (t, j)) :: st => t = K ∧ x_live S.2.2 K j ∧ q (S.1, st, x_puti S.2.2 K k j n)
  | _ => False
/-- a field that holds a boolean -/
def x_pfz (K k : Nat) : xI := fun _ _ _ q S => match S.2.1 with
  | .inl n :: .inr (.inr (t, j)) :: st => t = K ∧ x_live S.2.2 K j ∧ (n = 0 ∨ n = 1) ∧ q (S.1, st, x_puti S.2.2 K k j n)
  | _ => False
def x_pfr (K k T : Nat) : xI := fun _ _ _ q S => match S.2.1 with
  | .inr (.inr (t', j')) :: .inr (.inr (t, j)) :: st => t = K ∧ t' = T ∧ x_live S.2.2 K j ∧ q (S.1, st, x_putr S.2.2 K k j j')
  | _ => False
def x_stage (j : Nat) : xI := fun _ _ _ q S => q (S.1, .inr (.inr (9, j)) :: S.2.1, S.2.2)
/-- a place of an array -/
def x_in (h : xH) (K j : Nat) (i : Int32) : Prop := 0 ≤ i.toInt ∧ i.toInt < x_ln h K j
def x_ald (K : Nat) : xI := fun _ _ _ q S => match S.2.1 with
  | .inl i :: .inr (.inr (t, j)) :: st => t = K ∧ x_live S.2.2 K j ∧ x_in S.2.2 K j i ∧ q (S.1, .inl (x_vi S.2.2 K j i.toNatClampNeg) :: st, S.2.2)
  | _ => False
def x_ast (K : Nat) : xI := fun _ _ _ q S => match S.2.1 with
  | .inl n :: .inl i :: .inr (.inr (t, j)) :: st => t = K ∧ x_live S.2.2 K j ∧ x_in S.2.2 K j i ∧ q (S.1, st, x_puti S.2.2 K j i.toNatClampNeg n)
  | _ => False
def x_zst (K : Nat) : xI := fun _ _ _ q S => match S.2.1 with
  | .inl n :: .inl i :: .inr (.inr (t, j)) :: st => t = K ∧ x_live S.2.2 K j ∧ x_in S.2.2 K j i ∧ (n = 0 ∨ n = 1) ∧ q (S.1, st, x_puti S.2.2 K j i.toNatClampNeg n)
  | _ => False
def x_aald (K T : Nat) : xI := fun _ _ _ q S => match S.2.1 with
  | .inl i :: .inr (.inr (t, j)) :: st => t = K ∧ x_live S.2.2 K j ∧ x_in S.2.2 K j i ∧ q (S.1, .inr (.inr (T, x_vr S.2.2 K j i.toNatClampNeg)) :: st, S.2.2)
  | _ => False
def x_aast (K T : Nat) : xI := fun _ _ _ q S => match S.2.1 with
  | .inr (.inr (t', j')) :: .inl i :: .inr (.inr (t, j)) :: st => t = K ∧ t' = T ∧ x_live S.2.2 K j ∧ x_in S.2.2 K j i ∧ q (S.1, st, x_putr S.2.2 K j i.toNatClampNeg j')
  | _ => False
def x_alen (K : Nat) : xI := fun _ _ _ q S => match S.2.1 with
  | .inr (.inr (t, j)) :: st => t = K ∧ x_live S.2.2 K j ∧ q (S.1, .inl (Int32.ofNat (x_ln S.2.2 K j)) :: st, S.2.2)
  | _ => False
/-- new; bc and bs: what the method may make -/
def x_newo (K N bc bs : Nat) : xI := fun _ _ _ q S => x_ce S.2.2 + 1 ≤ bc ∧ x_so S.2.2 + N ≤ bs ∧ q (S.1, .inr (.inr (K, x_cn S.2.2 K + 1)) :: S.2.1, x_new S.2.2 K N)
def x_newr (K bc bs : Nat) : xI := fun _ _ _ q S => match S.2.1 with
  | .inl n :: st => 0 ≤ n.toInt ∧ n.toInt ≤ 100000 ∧ x_ce S.2.2 + 1 ≤ bc ∧ x_so S.2.2 + n.toNatClampNeg ≤ bs ∧ q (S.1, .inr (.inr (K, x_cn S.2.2 K + 1)) :: st, x_newa S.2.2 K n.toNatClampNeg)
  | _ => False
/-- new int[n][k], the outer array of kind K, the inner ones of kind K' -/
def x_fill (h : xH) (K K' j c : Nat) (k : Nat) : Nat → xH
  | 0 => h
  | n + 1 => x_putr (x_newa (x_fill h K K' j c k n) K' k) K j n (c + n + 1)
def x_newm (K K' bc bs : Nat) : xI := fun _ _ _ q S => match S.2.1 with
  | .inl k :: .inl n :: st => 0 ≤ n.toInt ∧ n.toInt ≤ 1000 ∧ 0 ≤ k.toInt ∧ k.toInt ≤ 1000 ∧ x_ce S.2.2 + 1 + n.toNatClampNeg ≤ bc ∧ x_so S.2.2 + n.toNatClampNeg + n.toNatClampNeg * k.toNatClampNeg ≤ bs ∧
      q (S.1, .inr (.inr (K, x_cn S.2.2 K + 1)) :: st, x_fill (x_newa S.2.2 K n.toNatClampNeg) K K' (x_cn S.2.2 K + 1) (x_cn S.2.2 K') k.toNatClampNeg n.toNatClampNeg)
  | _ => False
/-- Object's constructor -/
def x_objinit : xI := fun _ _ _ q S => match S.2.1 with
  | .inr (.inr (t, j)) :: st => t ≠ 0 ∧ 1 ≤ j ∧ x_cats st ≤ 8 ∧ q (S.1, st, S.2.2)
  | _ => False
/-- a call of method y with n arguments, the receiver among them; mc, ms: what it may make -/
def x_call (y n mc ms bc bs : Nat) : xI := fun Γ Z _ q S => n ≤ S.2.1.length ∧ x_cats (S.2.1.drop n) ≤ 8 ∧ x_ce S.2.2 + mc ≤ bc ∧ x_so S.2.2 + ms ≤ bs ∧
  Γ y (S.2.1.take n).reverse (x_setc S.2.2 0 0) (fun o h => match o with
    | .inl v => q (S.1, v.toList ++ S.2.1.drop n, x_setc h (x_ce S.2.2 + mc) (x_so S.2.2 + ms))
    | .inr k => Z (.inr k) (x_setc h (x_ce S.2.2 + mc) (x_so S.2.2 + ms)))
/-- .. of a method of an object: the receiver is one of kind K -/
def x_callv (K y n mc ms bc bs : Nat) : xI := fun Γ Z J q S => (match (S.2.1.drop (n - 1)).head? with
    | some (.inr (.inr (t, j))) => 1 ≤ n ∧ t = K ∧ x_live S.2.2 K j
    | _ => False) ∧ x_call y n mc ms bc bs Γ Z J q S
/-- a constructor's call: it doesn't throw -/
def x_calli (y n mc ms bc bs : Nat) : xI := fun Γ _ _ q S => n ≤ S.2.1.length ∧ 1 ≤ n ∧ x_cats (S.2.1.drop n) ≤ 8 ∧ x_ce S.2.2 + mc ≤ bc ∧ x_so S.2.2 + ms ≤ bs ∧ (match (S.2.1.drop (n - 1)).head? with
    | some (.inr (.inr (t, j))) => t ≠ 0 ∧ 1 ≤ j
    | _ => False) ∧
  Γ y (S.2.1.take n).reverse (x_setc S.2.2 0 0) (fun o h => match o with
    | .inl v => q (S.1, v.toList ++ S.2.1.drop n, x_setc h (x_ce S.2.2 + mc) (x_so S.2.2 + ms))
    | .inr _ => False)
def x_ret : xI := fun _ Z _ _ S => match S.2.1 with
  | [] => Z (.inl none) S.2.2
  | _ => False
def x_iret : xI := fun _ Z _ _ S => match S.2.1 with
  | [.inl n] => Z (.inl (some (.inl n))) S.2.2
  | _ => False
def x_zret : xI := fun _ Z _ _ S => match S.2.1 with
  | [.inl n] => (n = 0 ∨ n = 1) ∧ Z (.inl (some (.inl n))) S.2.2
  | _ => False
def x_aret (T : Nat) : xI := fun _ Z _ _ S => match S.2.1 with
  | [.inr (.inr (t, j))] => t = T ∧ Z (.inl (some (.inr (.inr (t, j))))) S.2.2
  | _ => False
/-- throw new E() -/
def x_throw (E bc bs : Nat) : xI := fun _ Z _ _ S => x_cats S.2.1 ≤ 8 ∧ x_ce S.2.2 + 1 ≤ bc ∧ x_so S.2.2 + 6 ≤ bs ∧ ∀ d, Z (.inr E) (x_exc S.2.2 d)
-- a block
def x_seq (L : List (Nat × xI)) (Γ : xG) (Z : xO → xH → Prop) (J : Nat → xS → Prop) (S : xS) : Prop := match L with
  | [] => False
  | f :: r => f.2 Γ Z J (fun S' => x_seq r Γ Z J S') S
end
section
/-! THE KINDS: 1 Call, 2 Line, 3 Office, 4 Route, 5 Row, 6 Trunk, 7 the net, 8 the reference; 9 a stage, 10 the script (both from outside); 11 .. arrays, by the field that holds them -/
def xk_C : Nat → String := fun K => match K with
  | 1 => RX0
  | 2 => RX1
  | 3 => RX2
  | 4 => RX3
  | 5 => RX4
  | 6 => RX6
  | 7 => RX7
  | _ => RX8
def xk_T : Nat → u_T := fun K => match K with
  | 1 => TX0
  | 2 => TX1
  | 3 => TX2
  | 4 => TX3
  | 5 => TX4
  | 6 => TX6
  | 7 => TX7
  | _ => TX8
def xk_N : Nat → Nat := fun K => match K with
  | 1 => 15
  | 2 => 6
  | 3 => 9
  | 4 => 5
  | 5 => 2
  | 6 => 4
  | 7 => 5
  | _ => 49
def xk_ty : Nat → Nat → FieldType := fun K => match K with
  | 1 => tyX0
  | 2 => tyX1
  | 3 => tyX2
  | 4 => tyX3
  | 5 => tyX4
  | 6 => tyX6
  | 7 => tyX7
  | _ => tyX8
def xk_o (K : Nat) : Prop := 1 ≤ K ∧ K ≤ 8
def xk_a (K : Nat) : Prop := 11 ≤ K ∧ K ≤ 64
/-- the kind of what a field refers to; 0: an int or a boolean -/
def x_ftl : List (List Nat) := [[2, 5, 9, 2, 4, 0, 0, 0, 0, 0, 0, 0, 0, 0, 0], [0, 0, 0, 0, 0, 1], [0, 16, 17, 18, 19, 5, 5, 0, 0], [0, 0, 5, 0, 0], [20, 0], [0, 0, 0, 1], [11, 12, 13, 14, 0], [0, 0, 0, 22, 23, 24, 25, 26, 27, 28, 29, 30, 31, 32, 33, 34, 35, 36, 37, 38, 0, 39, 40, 41, 42, 43, 44, 45, 46, 47, 48, 49, 50, 51, 52, 53, 54, 55, 56, 57, 58, 59, 60, 61, 62, 63, 64, 0, 0]]
def x_ft (K k : Nat) : Nat := ((x_ftl[K - 1]?.getD [])[k]?).getD 0
/-- the kind of what an array refers to -/
def x_et (K : Nat) : Nat := match K with
  | 11 => 3
  | 12 => 1
  | 13 => 6
  | 14 => 15
  | 16 => 2
  | 17 => 1
  | 18 => 4
  | 19 => 5
  | _ => 0
def xk_ety (K : Nat) : FieldType := match K with
  | 11 => .object RX2
  | 12 => .object RX0
  | 13 => .object RX6
  | 14 => .array .int
  | 16 => .object RX1
  | 17 => .object RX0
  | 18 => .object RX3
  | 19 => .object RX4
  | 21 => .long
  | 22 => .boolean
  | 34 => .boolean
  | 42 => .boolean
  | 60 => .boolean
  | _ => .int
/-! WHAT A HEAP OF THE MACHINE SAYS OF THE HEAP -/
section XR
variable (n0 : Nat) (oa : Nat → Nat → Nat)
def x_addr (h : xH) (t j : Nat) : Nat := if t = 9 ∨ t = 10 then oa t j else n0 + x_ad h t j
def x_cr (h : xH) (t j : Nat) : Value := if j = 0 then .null else .ref (x_addr n0 oa h t j)
def x_cv (h : xH) (v : xV) : Value := match v with
  | .inl n => .int n
  | .inr (.inl n) => .long n
  | .inr (.inr r) => x_cr n0 oa h r.1 r.2
/-- what field k of the object j of kind K holds -/
def x_cf (h : xH) (K k j : Nat) : Value := if x_ft K k = 0 then .int (x_vi h K k j) else x_cr n0 oa h (x_ft K k) (x_vr h K k j)
/-- what place i of the array j of kind K holds -/
def x_ae (h : xH) (K j i : Nat) : Value := if K = 21 then .long (x_lg h) else if x_et K = 0 then .int (x_vi h K j i) else x_cr n0 oa h (x_et K) (x_vr h K j i)
def x_Rep (D : (Nat → ClassId) × (Nat → Nat → Nat) × (Nat → ClassId)) (h : xH) (H : Heap) : Prop :=
  H.size = n0 + x_sz h ∧
  (∀ K j, xk_o K → x_live h K j → x_ad h K j < x_sz h ∧ t_OB (n0 + x_ad h K j) (D.1 K) (xk_N K) (D.2.1 K) H (fun k => x_cf n0 oa h K k j)) ∧
  (∀ K j, xk_a K → x_live h K j → x_ad h K j < x_sz h ∧ H[n0 + x_ad h K j]? = some (arrV (D.2.2 K) (x_ln h K j) (fun i => x_ae n0 oa h K j i))) ∧
  (∀ K j K' j', (xk_o K ∨ xk_a K) → (xk_o K' ∨ xk_a K') → x_live h K j → x_live h K' j' → x_ad h K j = x_ad h K' j' → K = K' ∧ j = j') ∧
  (∀ K j k, xk_o K → x_live h K j → x_vr h K k j ≤ x_cn h (x_ft K k)) ∧
  (∀ K j i, xk_a K → x_live h K j → x_vr h K j i ≤ x_cn h (x_et K)) ∧ x_cn h 9 = 6
/-- a value's reference is null or there -/
def x_lv (h : xH) (v : xV) : Prop := match v with
  | .inr (.inr r) => r.2 ≤ x_cn h r.1
  | _ => True
/-- a later heap: what was there is where it was -/
def x_le (h h' : xH) : Prop := (∀ K, x_cn h K ≤ x_cn h' K) ∧ (∀ K j, j ≤ x_cn h K → x_ad h' K j = x_ad h K j) ∧ x_vi h' 10 = x_vi h 10 ∧ x_ln h' 10 = x_ln h 10
end XR
theorem x_le.rf {h : xH} : x_le h h := ⟨fun _ => Nat.le_refl _, fun _ _ _ => rfl, rfl, rfl⟩
theorem x_le.tr {a b c : xH} (h1 : x_le a b) (h2 : x_le b c) : x_le a c :=
  ⟨fun K => Nat.le_trans (h1.1 K) (h2.1 K), fun K j hj => (h2.2.1 K j (Nat.le_trans hj (h1.1 K))).trans (h1.2.1 K j hj), h2.2.2.1.trans h1.2.2.1, h2.2.2.2.trans h1.2.2.2⟩
theorem x_cr_le {n0 : Nat} {oa : Nat → Nat → Nat} {h h' : xH} (hl : x_le h h') {t j : Nat} (hj : j ≤ x_cn h t) : x_cr n0 oa h' t j = x_cr n0 oa h t j := by
  unfold x_cr x_addr
  rw [hl.2.1 t j hj]
theorem x_cv_le {n0 : Nat} {oa : Nat → Nat → Nat} {h h' : xH} (hl : x_le h h') {v : xV} (hv : x_lv h v) : x_cv n0 oa h' v = x_cv n0 oa h v := by
  match v, hv with
  | .inl n, _ => rfl
  | .inr (.inl n), _ => rfl
  | .inr (.inr r), hv => exact x_cr_le hl hv
theorem x_lv_le {h h' : xH} (hl : x_le h h') {v : xV} (hv : x_lv h v) : x_lv h' v := by
  match v, hv with
  | .inl n, _ => trivial
  | .inr (.inl n), _ => trivial
  | .inr (.inr r), hv => exact Nat.le_trans hv (hl.1 r.1)
theorem x_cvs_le {n0 : Nat} {oa : Nat → Nat → Nat} {h h' : xH} (hl : x_le h h') : ∀ {l : List xV}, (∀ v ∈ l, x_lv h v) → l.map (x_cv n0 oa h') = l.map (x_cv n0 oa h)
  | [], _ => rfl
  | v :: r, hv => by
    rw [List.map_cons, List.map_cons, x_cv_le hl (hv v List.mem_cons_self), x_cvs_le hl (fun w hw => hv w (List.mem_cons_of_mem _ hw))]
theorem x_lvs_le {h h' : xH} (hl : x_le h h') {l : List xV} (hv : ∀ v ∈ l, x_lv h v) : ∀ v ∈ l, x_lv h' v := fun v h => x_lv_le hl (hv v h)
theorem x_live_le {h h' : xH} (hl : x_le h h') {K j : Nat} (hv : x_live h K j) : x_live h' K j := ⟨hv.1, Nat.le_trans hv.2 (hl.1 K)⟩
theorem x_addr_in {n0 : Nat} {oa : Nat → Nat → Nat} {h : xH} {K j : Nat} (hK : xk_o K ∨ xk_a K) : x_addr n0 oa h K j = n0 + x_ad h K j := by
  unfold x_addr
  rw [if_neg]
  rcases hK with h | h <;> (simp only [xk_o, xk_a] at h; omega)
theorem x_cr_in {n0 : Nat} {oa : Nat → Nat → Nat} {h : xH} {K j : Nat} (hK : xk_o K ∨ xk_a K) (hj : x_live h K j) : x_cr n0 oa h K j = .ref (n0 + x_ad h K j) := by
  unfold x_cr
  rw [if_neg (by have := hj.1; omega), x_addr_in hK]
-- puts leave all but the contents
theorem x_le.puti {h : xH} {K k i : Nat} {v : Int32} (hK : K ≠ 10) : x_le h (x_puti h K k i v) :=
  ⟨fun _ => Nat.le_refl _, fun _ _ _ => rfl, by funext a b; show x_u3 (x_vi h) K k i v 10 a b = x_vi h 10 a b; unfold x_u3; rw [if_neg (fun q => hK q.1.symm)], rfl⟩
theorem x_le.putr {h : xH} {K k i v : Nat} : x_le h (x_putr h K k i v) := ⟨fun _ => Nat.le_refl _, fun _ _ _ => rfl, rfl, rfl⟩
theorem x_le.putl {h : xH} {v : Int64} : x_le h (x_putl h v) := ⟨fun _ => Nat.le_refl _, fun _ _ _ => rfl, rfl, rfl⟩
theorem x_le.setc {h : xH} {a b : Nat} : x_le h (x_setc h a b) := ⟨fun _ => Nat.le_refl _, fun _ _ _ => rfl, rfl, rfl⟩
theorem x_le.exc {h : xH} {d : Nat} : x_le h (x_exc h d) := ⟨fun _ => Nat.le_refl _, fun _ _ _ => rfl, rfl, rfl⟩
theorem x_le.new {h : xH} {K N : Nat} (hK : K ≠ 10) : x_le h (x_new h K N) := by
  refine ⟨fun K' => ?_, fun K' j hj => ?_, ?_, rfl⟩
  · show x_cn h K' ≤ x_u1 (x_cn h) K (x_cn h K + 1) K'
    unfold x_u1
    by_cases e : K' = K
    · rw [if_pos e, e]; omega
    · rw [if_neg e]; exact Nat.le_refl _
  · show x_u2 (x_ad h) K (x_cn h K + 1) _ K' j = x_ad h K' j
    unfold x_u2
    rw [if_neg]
    rintro ⟨rfl, rfl⟩
    omega
  · funext a b
    show (if 10 = K ∧ b = x_cn h K + 1 then 0 else x_vi h 10 a b) = x_vi h 10 a b
    rw [if_neg (fun q => hK q.1.symm)]
theorem x_le.newa {h : xH} {K n : Nat} (hK : K ≠ 10) : x_le h (x_newa h K n) := by
  refine ⟨fun K' => ?_, fun K' j hj => ?_, ?_, ?_⟩
  · show x_cn h K' ≤ x_u1 (x_cn h) K (x_cn h K + 1) K'
    unfold x_u1
    by_cases e : K' = K
    · rw [if_pos e, e]; omega
    · rw [if_neg e]; exact Nat.le_refl _
  · show x_u2 (x_ad h) K (x_cn h K + 1) _ K' j = x_ad h K' j
    unfold x_u2
    rw [if_neg]
    rintro ⟨rfl, rfl⟩
    omega
  · funext a b
    show (if 10 = K ∧ a = x_cn h K + 1 then 0 else x_vi h 10 a b) = x_vi h 10 a b
    rw [if_neg (fun q => hK q.1.symm)]
  · funext a
    show x_u2 (x_ln h) K (x_cn h K + 1) n 10 a = x_ln h 10 a
    unfold x_u2
    rw [if_neg (fun q => hK q.1.symm)]
/-- one cell's contents change -/
theorem x_Rep.put {n0 : Nat} {oa : Nat → Nat → Nat} {D : (Nat → ClassId) × (Nat → Nat → Nat) × (Nat → ClassId)} {h h' : xH} {H H' : Heap} (hR : x_Rep n0 oa D h H) {K j : Nat}
    (e1 : x_cn h' = x_cn h) (e2 : x_ln h' = x_ln h) (e3 : x_ad h' = x_ad h) (e4 : x_sz h' = x_sz h) (hK : xk_o K ∨ xk_a K) (hj : x_live h K j)
    (hz : H'.size = H.size) (ho : ∀ q, q ≠ n0 + x_ad h K j → H'[q]? = H[q]?)
    (f1 : ∀ K' k j', xk_o K' → x_live h K' j' → ¬ (K' = K ∧ j' = j) → x_cf n0 oa h' K' k j' = x_cf n0 oa h K' k j')
    (f2 : ∀ K' j' i, xk_a K' → x_live h K' j' → ¬ (K' = K ∧ j' = j) → x_ae n0 oa h' K' j' i = x_ae n0 oa h K' j' i)
    (g1 : xk_o K → t_OB (n0 + x_ad h K j) (D.1 K) (xk_N K) (D.2.1 K) H' (fun k => x_cf n0 oa h' K k j))
    (g2 : xk_a K → H'[n0 + x_ad h K j]? = some (arrV (D.2.2 K) (x_ln h K j) (fun i => x_ae n0 oa h' K j i)))
    (l1 : ∀ K j k, xk_o K → x_live h K j → x_vr h' K k j ≤ x_cn h (x_ft K k)) (l2 : ∀ K j i, xk_a K → x_live h K j → x_vr h' K j i ≤ x_cn h (x_et K)) : x_Rep n0 oa D h' H' := by
  obtain ⟨a1, a2, a3, a4, -, -, a7⟩ := hR
  have lv : ∀ K j, x_live h' K j → x_live h K j := fun K j q => by unfold x_live at *; rw [e1] at q; exact q
  refine ⟨by rw [hz, a1, e4], fun K' j' hK' hj' => ?_, fun K' j' hK' hj' => ?_, fun K1 j1 K2 j2 b1 b2 b3 b4 b5 => ?_, fun K' j' k b1 b2 => ?_, fun K' j' k b1 b2 => ?_, by rw [e1]; exact a7⟩
  · have hl := lv _ _ hj'
    rw [e3, e4]
    refine ⟨(a2 K' j' hK' hl).1, ?_⟩
    by_cases e : K' = K ∧ j' = j
    · obtain ⟨rfl, rfl⟩ := e
      exact g1 hK'
    · have hne : n0 + x_ad h K' j' ≠ n0 + x_ad h K j := fun q => e (a4 K' j' K j (Or.inl hK') hK hl hj (by omega))
      exact t_OB.to ((a2 K' j' hK' hl).2.kept (ho _ hne)) (fun k _ => (f1 K' k j' hK' hl e).symm)
  · have hl := lv _ _ hj'
    rw [e3, e4, e2]
    refine ⟨(a3 K' j' hK' hl).1, ?_⟩
    by_cases e : K' = K ∧ j' = j
    · obtain ⟨rfl, rfl⟩ := e
      exact g2 hK'
    · have hne : n0 + x_ad h K' j' ≠ n0 + x_ad h K j := fun q => e (a4 K' j' K j (Or.inr hK') hK hl hj (by omega))
      rw [ho _ hne, (a3 K' j' hK' hl).2]
      exact congrArg some (congrArg (arrV _ _) (funext fun i => (f2 K' j' i hK' hl e).symm))
  · rw [e3] at b5
    exact a4 K1 j1 K2 j2 b1 b2 (lv _ _ b3) (lv _ _ b4) b5
  · rw [e1]; exact l1 K' j' k b1 (lv _ _ b2)
  · rw [e1]; exact l2 K' j' k b1 (lv _ _ b2)
end
section
/-! METHODS, LOCALS, AND WHAT A SOUND INSTRUCTION IS -/
/-- a method: its name, code, locals, answer, class; frames, words of locals, cells, slots that it may take; whether it is a constructor -/
abbrev xM : Type := MethodName × ByteArray × Nat × Option FieldType × String × Nat × Nat × Nat × Nat × Bool
abbrev xM.y (M : xM) : MethodName := M.1
abbrev xM.cd (M : xM) : ByteArray := M.2.1
abbrev xM.mL (M : xM) : Nat := M.2.2.1
abbrev xM.rt (M : xM) : Option FieldType := M.2.2.2.1
abbrev xM.own (M : xM) : String := M.2.2.2.2.1
abbrev xM.fr (M : xM) : Nat := M.2.2.2.2.2.1
abbrev xM.lo (M : xM) : Nat := M.2.2.2.2.2.2.1
abbrev xM.mc (M : xM) : Nat := M.2.2.2.2.2.2.2.1
abbrev xM.ms (M : xM) : Nat := M.2.2.2.2.2.2.2.2.1
abbrev xM.ini (M : xM) : Bool := M.2.2.2.2.2.2.2.2.2
/-- the good words of the tables -/
def x_big : List Cond := lw_tbl.filter goodWord
theorem x_big_in {w : Cond} (h : w ∈ lw_tbl) (hg : goodWord w = true) : w ∈ x_big := List.mem_filter.mpr ⟨h, hg⟩
def x_ws (M : xM) : List Cond := Cond.code M.y M.cd M.mL M.rt :: x_big
def x_rm (M : xM) : Room := { frames := M.fr, cells := M.mc, slots := M.ms, locals := M.lo }
/-- set locals -/
def x_svb (v : xV) : Bool := match v with
  | .inl _ => true
  | .inr (.inl _) => false
  | .inr (.inr r) => !(r.1 == 0)
def x_prs (cv : xV → Value) (ls : List xV) : List (Nat × Value) := (List.range ls.length).filterMap (fun i => (ls[i]?).bind (fun v => if x_svb v = true then some (i, cv v) else none))
theorem x_prs_mem {cv : xV → Value} {ls : List xV} {i : Nat} {w : Value} : (i, w) ∈ x_prs cv ls ↔ ∃ v, ls[i]? = some v ∧ x_svb v = true ∧ cv v = w := by
  unfold x_prs
  rw [List.mem_filterMap]
  constructor
  · rintro ⟨k, -, hk⟩
    obtain ⟨v, hv, h2⟩ := Option.bind_eq_some_iff.mp hk
    by_cases hs : x_svb v = true
    · rw [if_pos hs] at h2
      cases h2
      exact ⟨v, hv, hs, rfl⟩
    · rw [if_neg hs] at h2
      cases h2
  · rintro ⟨v, hv, hs, rfl⟩
    refine ⟨i, List.mem_range.mpr (List.getElem?_eq_some_iff.mp hv).1, ?_⟩
    rw [hv]
    show (if x_svb v = true then some (i, cv v) else none) = _
    rw [if_pos hs]
theorem x_cr_or (n0 : Nat) (oa : Nat → Nat → Nat) (h : xH) (t j : Nat) : x_cr n0 oa h t j = .null ∨ ∃ a, x_cr n0 oa h t j = .ref a := by
  unfold x_cr
  by_cases e : j = 0
  · rw [if_pos e]; exact Or.inl rfl
  · rw [if_neg e]; exact Or.inr ⟨_, rfl⟩
theorem x_cv_cat {n0 : Nat} {oa : Nat → Nat → Nat} {h : xH} {v : xV} : (x_cv n0 oa h v).category = x_cat v := by
  match v with
  | .inl n => rfl
  | .inr (.inl n) => rfl
  | .inr (.inr r) =>
    show (x_cr n0 oa h r.1 r.2).category = 1
    rcases x_cr_or n0 oa h r.1 r.2 with e | ⟨a, e⟩ <;> rw [e] <;> rfl
theorem x_cats_eq {n0 : Nat} {oa : Nat → Nat → Nat} {h : xH} : ∀ l : List xV, ((l.map (x_cv n0 oa h)).map fun v => v.category).sum = x_cats l
  | [] => rfl
  | v :: r => by
    rw [List.map_cons, List.map_cons, List.sum_cons, x_cats_eq r, x_cv_cat]
    rfl
theorem x_svb_cat {v : xV} (h : x_svb v = true) : x_cat v = 1 := by
  match v, h with
  | .inl n, _ => rfl
  | .inr (.inr r), _ => rfl
def x_Loc (cv : xV → Value) (fl : Array Slot) (n : Nat) (ls : List xV) : Prop := ls.length = n ∧ lv_has fl n (x_prs cv ls)
theorem x_Loc.at {cv : xV → Value} {fl : Array Slot} {n : Nat} {ls : List xV} (h : x_Loc cv fl n ls) {i : Nat} {v : xV} (hv : ls[i]? = some v) (hs : x_svb v = true) : fl[i]? = some (.val (cv v)) := h.2.2.2 (i, cv v) (x_prs_mem.mpr ⟨v, hv, hs, rfl⟩)
theorem x_Loc.set {n0 : Nat} {oa : Nat → Nat → Nat} {hh : xH} {fl fl' : Array Slot} {n : Nat} {ls : List xV} (h : x_Loc (x_cv n0 oa hh) fl n ls) {a : Nat} {v : xV} (ha : a < ls.length)
    (h' : lv_has fl' n ((a, x_cv n0 oa hh v) :: (x_prs (x_cv n0 oa hh) ls).filter (fun q => !(q.1 == a) && !(q.1 + 1 == a && q.2.category == 2)))) : x_Loc (x_cv n0 oa hh) fl' n (ls.set a v) := by
  refine ⟨by rw [List.length_set]; exact h.1, h'.1, h'.2.1, ?_⟩
  rintro ⟨i, w⟩ hq
  obtain ⟨u, hu, hs, rfl⟩ := x_prs_mem.mp hq
  by_cases e : i = a
  · subst e
    rw [List.getElem?_set_self ha] at hu
    cases hu
    exact h'.2.2 _ List.mem_cons_self
  · rw [List.getElem?_set_ne (fun q => e q.symm)] at hu
    refine h'.2.2 (i, x_cv n0 oa hh u) (List.mem_cons_of_mem _ (List.mem_filter.mpr ⟨x_prs_mem.mpr ⟨u, hu, hs, rfl⟩, ?_⟩))
    have hc : (x_cv n0 oa hh u).category = 1 := by rw [x_cv_cat, x_svb_cat hs]
    simp [e, hc]
theorem x_Loc.le {n0 : Nat} {oa : Nat → Nat → Nat} {h h' : xH} (hl : x_le h h') {fl : Array Slot} {n : Nat} {ls : List xV} (hv : ∀ v ∈ ls, x_lv h v) (L : x_Loc (x_cv n0 oa h) fl n ls) : x_Loc (x_cv n0 oa h') fl n ls := by
  refine ⟨L.1, L.2.1, L.2.2.1, ?_⟩
  rintro ⟨i, w⟩ hq
  obtain ⟨u, hu, hs, rfl⟩ := x_prs_mem.mp hq
  rw [x_cv_le hl (hv u (List.mem_of_getElem? hu))]
  exact L.at hu hs
-- what the tables say of the classes and of the arrays' classes
def x_K (D : (Nat → ClassId) × (Nat → Nat → Nat) × (Nat → ClassId)) (s : State) : Prop :=
  (∀ K, xk_o K → u_Kn s (xk_C K) (xk_T K) (xk_N K) (D.1 K) (D.2.1 K)) ∧ (∀ K, xk_a K → ArrOfT s (D.2.2 K) (xk_ety K) ∧ va_RA s (D.2.2 K) (xk_ety K))
theorem x_K.moved {D : (Nat → ClassId) × (Nat → Nat → Nat) × (Nat → ClassId)} {u U : State} (hvm : u.vm.Alike U.vm) (h : x_K D u) : x_K D U := ⟨fun K hK => u_Kn_moved hvm (h.1 K hK), fun K hK => ⟨arrOfT_moved hvm (h.2 K hK).1, (h.2 K hK).2.moved hvm⟩⟩
/-- the stages by their places -/
def x_sn (j : Nat) : String := match j with
  | 1 => "NO_CALL"
  | 2 => "DIALLING"
  | 3 => "JOB"
  | 4 => "SENDING"
  | 5 => "RINGING"
  | _ => "TALKING"
/-- the exceptions by their numbers -/
def x_en (E : Nat) : String := if E = 1 then "java/lang/IllegalArgumentException" else "java/lang/IllegalStateException"
def x_chain : List String := ["java/lang/RuntimeException", "java/lang/Exception"]
/-- words that are not good ones: what a throw needs -/
def x_nw : List Cond := [.declares (Bundle.init0 "java/lang/RuntimeException"), .declares (Bundle.init0 "java/lang/Exception"), .declares (Bundle.init0 Bundle.tN)]
def x_St (n0 : Nat) (oa : Nat → Nat → Nat) (L : Nat) (xs : Nat → Int32) (U : State) (H : Heap) : Prop :=
  (∀ j, 1 ≤ j → j ≤ 6 → va_Z "CrossbarNet$Stage" (x_sn j) "LCrossbarNet$Stage;" (.ref (oa 9 j)) (fun q => n0 ≤ q) U H) ∧
  (∀ i j, 1 ≤ i → i ≤ 6 → 1 ≤ j → j ≤ 6 → oa 9 i = oa 9 j → i = j) ∧
  vx_Zq Bundle.tN "UNASSIGNED_STACK" Bundle.steD (fun q => n0 ≤ q) U H ∧ vx_Zq Bundle.tN "SUPPRESSED_SENTINEL" Bundle.listD (fun q => n0 ≤ q) U H ∧
  va_X (oa 10 1) L xs U H ∧ oa 10 1 < n0 ∧ (∀ w ∈ x_nw, va_Nw w U) ∧ (∀ E, va_Nw (.castable (x_en E) (x_en E)) U)
theorem x_St.moved {n0 : Nat} {oa : Nat → Nat → Nat} {L : Nat} {xs : Nat → Int32} {u U : State} {H : Heap} (hW : u.WarmedH U.vm) (h : x_St n0 oa L xs u H) : x_St n0 oa L xs U H := by
  obtain ⟨a1, a2, a3, a4, a5, a6, a7, a8⟩ := h
  refine ⟨fun j h1 h2 => va_Z.moved hW.alike (a1 j h1 h2), a2, vx_Zq.moved hW.alike a3, vx_Zq.moved hW.alike a4, va_X.moved hW.alike a5, a6, fun w hw => ?_, fun E => va_Nw.warmC hW (a8 E)⟩
  have h9 := a7 w hw
  simp only [x_nw, List.mem_cons, List.not_mem_nil, or_false] at hw
  rcases hw with rfl | rfl | rfl <;> exact va_Nw.warmD hW h9
theorem x_St.kept {n0 : Nat} {oa : Nat → Nat → Nat} {L : Nat} {xs : Nat → Int32} {U : State} {H H1 : Heap} (h : x_St n0 oa L xs U H) (hn : n0 ≤ H.size) (hq : ∀ a : Nat, a < H.size → ¬ n0 ≤ a → H1[a]? = H[a]?) : x_St n0 oa L xs U H1 := by
  obtain ⟨a1, a2, a3, a4, a5, a6, a7, a8⟩ := h
  exact ⟨fun j h1 h2 => va_Z.kept (a1 j h1 h2) hq, a2, vx_Zq.kept a3 hq, vx_Zq.kept a4 hq, va_X.kept a5 (hq _ (by omega) (by omega)), a6, a7, a8⟩
section XC
variable (n0 : Nat) (oa : Nat → Nat → Nat) (D : (Nat → ClassId) × (Nat → Nat → Nat) × (Nat → ClassId))
def x_Pc (args : List xV) (h : xH) : Array Value → State → Prop := fun a U => a = (args.map (x_cv n0 oa h)).toArray ∧ x_Rep n0 oa D h U.heap ∧ x_K D U ∧ x_St n0 oa (x_ln h 10 1) (x_vi h 10 1) U U.heap ∧ n0 ≤ U.heap.size
def x_Qc (h : xH) (Z : xO → xH → Prop) : Array Value → State → Outcome → State → Prop := fun _ st o t => ∃ (v : Option xV) (h1 : xH), Z (.inl v) h1 ∧ o = .returned (v.map (x_cv n0 oa h1)) ∧ x_Rep n0 oa D h1 t.heap ∧ x_le h h1 ∧ (∀ w ∈ v, x_lv h1 w) ∧ va_F (fun q => n0 ≤ q) st t
def x_XC (h : xH) (Z : xO → xH → Prop) : String → State → State → Prop := fun E st t => ∃ (k : Nat) (h1 : xH), Z (.inr k) h1 ∧ E = x_en k ∧ x_Rep n0 oa D h1 t.heap ∧ x_le h h1 ∧ va_F (fun q => n0 ≤ q) st t
/-- the contract of a method at these arguments and this heap -/
def x_Con (M : xM) (args : List xV) (h : xH) (Z : xO → xH → Prop) : Prop := ∀ l : Launch, l.stackTraces = false → (∀ v ∈ args, x_lv h v) →
  vx_Met l M.y (x_ws M) (x_rm M) (x_Pc n0 oa D args h) (x_Qc n0 oa D h Z) (x_XC n0 oa D h Z) M.mc M.ms (fun q => n0 ≤ q)
/-- what holds throughout a method's body -/
def x_Cx (M : xM) (h0 : xH) (p : Program) (l : Launch) (R : Room) (s : State) (m : MethodId) (args : Array Value) (meth : Method) (c : Code) : Prop :=
  p.tables.exec = Jvm.exec ∧ c.code = M.cd ∧ c.maxLocals = M.mL ∧ s.vm.findClass M.own = some m.cls ∧ (∀ w ∈ x_big, w.before args s = true) ∧ meth.sig.returnType = M.rt ∧ meth.locks = false ∧
  (M.ini = true → meth.name = "<init>") ∧ c.exceptionTable.toList = [] ∧ x_K D s ∧ x_St n0 oa (x_ln h0 10 1) (x_vi h0 10 1) s s.heap ∧ n0 ≤ s.heap.size ∧ R = x_rm M ∧ l.stackTraces = false
variable (p : Program) (l : Launch) (e : Env) (R : Room) (s : State) (m : MethodId) (args : Array Value) (below : List Frame) (meth : Method) (c : Code)
/-- from this place with these locals, stack and heap the machine comes to Q -/
def x_At (M : xM) (h0 : xH) (Q : State → Prop) (pc : Nat) (S : xS) : Prop :=
  ∀ (H : Heap) (locs : List Loc) (fl : Array Slot), x_Rep n0 oa D S.2.2 H → x_le h0 S.2.2 → x_Loc (x_cv n0 oa S.2.2) fl M.mL S.1 → (∀ v ∈ S.1, x_lv S.2.2 v) → (∀ v ∈ S.2.1, x_lv S.2.2 v) →
    va_S (fun q => n0 ≤ q) s.heap H locs → x_ce S.2.2 ≤ M.mc → x_so S.2.2 ≤ M.ms → W p l e R s m args below meth c H locs (x_ce S.2.2) (x_so S.2.2) Q (F0 m pc fl (S.2.1.map (x_cv n0 oa S.2.2)))
/-- what a body owes at its end -/
def x_MQ (M : xM) (h0 : xH) (Z : xO → xH → Prop) : State → Prop := vx_MQ below (x_Qc n0 oa D h0 Z) (x_XC n0 oa D h0 Z) args s M.mc M.ms (fun q => n0 ≤ q)
end XC
/-- a sound instruction: at pc, the next one at nx -/
def x_Snd (xm : Nat → xM) (M : xM) (pc nx : Nat) (f : xI) : Prop :=
  ∀ (n0 : Nat) (oa : Nat → Nat → Nat) (D : (Nat → ClassId) × (Nat → Nat → Nat) × (Nat → ClassId)) (p : Program) (l : Launch) (e : Env) (R : Room) (s : State) (m : MethodId) (args : Array Value) (below : List Frame) (meth : Method) (c : Code) (Γ : xG) (Z : xO → xH → Prop) (J : Nat → xS → Prop) (q : xS → Prop) (h0 : xH) (S : xS),
    x_Cx n0 oa D M h0 p l R s m args meth c → (∀ μ a h Z', Γ μ a h Z' → x_Con n0 oa D (xm μ) a h Z') → f Γ Z J q S →
    (∀ S', q S' → x_At n0 oa D p l e R s m args below meth c M h0 (x_MQ n0 oa D s args below M h0 Z) nx S') → (∀ pc' S', J pc' S' → x_At n0 oa D p l e R s m args below meth c M h0 (x_MQ n0 oa D s args below M h0 Z) pc' S') →
    x_At n0 oa D p l e R s m args below meth c M h0 (x_MQ n0 oa D s args below M h0 Z) pc S
end
section
/-! SOUND INSTRUCTIONS, one by one: those that leave the heap -/
section XS1
variable {xm : Nat → xM} {M : xM} {pc : Nat}
theorem x_lvs_cons {h : xH} {v : xV} {l : List xV} (hv : x_lv h v) (hl : ∀ w ∈ l, x_lv h w) : ∀ w ∈ v :: l, x_lv h w := fun w hw => (List.mem_cons.mp hw).elim (fun e => e ▸ hv) (hl w)
theorem x_lvs_set {h : xH} {v : xV} {l : List xV} {a : Nat} (hv : x_lv h v) (hl : ∀ w ∈ l, x_lv h w) : ∀ w ∈ l.set a v, x_lv h w := fun w hw => (List.mem_or_eq_of_mem_set hw).elim (hl w) (fun e => e ▸ hv)
theorem snd_iload {a : Nat} (hd : decode M.cd pc = .ok (.iload a, 2)) : x_Snd xm M pc (pc + 2) (x_iload a) := by
  rintro n0 oa D p l e R s m args below meth c Γ Z J q h0 ⟨ls, st, h⟩ C - hf hq - H locs fl hR hle hL h1 h2 hS hc hs
  obtain ⟨hx, hb, -⟩ := C
  unfold x_iload at hf
  dsimp only at hf hL h1 h2 ⊢
  split at hf
  · rename_i n hn
    exact lv_iload hx hb hd (hL.at hn rfl) (hq _ hf H locs fl hR hle hL h1 (x_lvs_cons trivial h2) hS hc hs)
  · exact hf.elim
theorem snd_iload_n {k : Fin 4} {a : Nat} (ha : (k : Nat) = a) (hd : decode M.cd pc = .ok (.iload_n k, 1)) : x_Snd xm M pc (pc + 1) (x_iload a) := by
  rintro n0 oa D p l e R s m args below meth c Γ Z J q h0 ⟨ls, st, h⟩ C - hf hq - H locs fl hR hle hL h1 h2 hS hc hs
  obtain ⟨hx, hb, -⟩ := C
  unfold x_iload at hf
  dsimp only at hf hL h1 h2 ⊢
  split at hf
  · rename_i n hn
    exact lv_iload_n hx hb hd ha (hL.at hn rfl) (hq _ hf H locs fl hR hle hL h1 (x_lvs_cons trivial h2) hS hc hs)
  · exact hf.elim
theorem x_aload0 {n0 : Nat} {oa : Nat → Nat → Nat} {h : xH} {t j : Nat} {P : Value → Prop} (hr : ∀ a, x_cr n0 oa h t j = .ref a → P (.ref a)) (hn : x_cr n0 oa h t j = .null → P .null) : P (x_cr n0 oa h t j) := by
  rcases x_cr_or n0 oa h t j with e | ⟨a, e⟩
  · rw [e]; exact hn e
  · rw [e]; exact hr a e
theorem snd_aload {a : Nat} (hd : decode M.cd pc = .ok (.aload a, 2)) : x_Snd xm M pc (pc + 2) (x_aload a) := by
  rintro n0 oa D p l e R s m args below meth c Γ Z J q h0 ⟨ls, st, h⟩ C - hf hq - H locs fl hR hle hL h1 h2 hS hc hs
  obtain ⟨hx, hb, -⟩ := C
  unfold x_aload at hf
  dsimp only at hf hL h1 h2 ⊢
  split at hf
  · rename_i t j hn
    have hat := hL.at hn (by show (!(t == 0)) = true; simp [hf.1])
    have hk := hq _ hf.2 H locs fl hR hle hL h1 (x_lvs_cons (h1 _ (List.mem_of_getElem? hn)) h2) hS hc hs
    rcases x_cr_or n0 oa h t j with e1 | ⟨b, e1⟩ <;> (have e2 : x_cv n0 oa h (.inr (.inr (t, j))) = _ := e1; rw [List.map_cons, e2] at hk; rw [e2] at hat)
    · exact lv_aloadN hx hb hd hat hk
    · exact lv_aload hx hb hd hat hk
  · exact hf.elim
theorem snd_aload_n {k : Fin 4} {a : Nat} (ha : (k : Nat) = a) (hd : decode M.cd pc = .ok (.aload_n k, 1)) : x_Snd xm M pc (pc + 1) (x_aload a) := by
  rintro n0 oa D p l e R s m args below meth c Γ Z J q h0 ⟨ls, st, h⟩ C - hf hq - H locs fl hR hle hL h1 h2 hS hc hs
  obtain ⟨hx, hb, -⟩ := C
  unfold x_aload at hf
  dsimp only at hf hL h1 h2 ⊢
  split at hf
  · rename_i t j hn
    have hat := hL.at hn (by show (!(t == 0)) = true; simp [hf.1])
    have hk := hq _ hf.2 H locs fl hR hle hL h1 (x_lvs_cons (h1 _ (List.mem_of_getElem? hn)) h2) hS hc hs
    rcases x_cr_or n0 oa h t j with e1 | ⟨b, e1⟩ <;> (have e2 : x_cv n0 oa h (.inr (.inr (t, j))) = _ := e1; rw [List.map_cons, e2] at hk; rw [e2] at hat)
    · exact lv_aload_nN hx hb hd ha hat hk
    · exact lv_aload_n hx hb hd ha hat hk
  · exact hf.elim
theorem snd_istore {a : Nat} (hd : decode M.cd pc = .ok (.istore a, 2)) : x_Snd xm M pc (pc + 2) (x_istore a) := by
  rintro n0 oa D p l e R s m args below meth c Γ Z J q h0 ⟨ls, st, h⟩ C - hf hq - H locs fl hR hle hL h1 h2 hS hc hs
  obtain ⟨hx, hb, -⟩ := C
  unfold x_istore at hf
  dsimp only at hf hL h1 h2 ⊢
  split at hf
  · rename_i n st
    refine lv_istore hx hb hd hL.2 (by rw [← hL.1]; exact hf.1) rfl fun fl' hl' => ?_
    exact hq _ hf.2 H locs fl' hR hle (hL.set (v := .inl n) hf.1 hl') (x_lvs_set trivial h1) (fun w hw => h2 w (List.mem_cons_of_mem _ hw)) hS hc hs
  · exact hf.elim
theorem snd_istore_n {k : Fin 4} {a : Nat} (ha : (k : Nat) = a) (hd : decode M.cd pc = .ok (.istore_n k, 1)) : x_Snd xm M pc (pc + 1) (x_istore a) := by
  rintro n0 oa D p l e R s m args below meth c Γ Z J q h0 ⟨ls, st, h⟩ C - hf hq - H locs fl hR hle hL h1 h2 hS hc hs
  obtain ⟨hx, hb, -⟩ := C
  unfold x_istore at hf
  dsimp only at hf hL h1 h2 ⊢
  split at hf
  · rename_i n st
    refine lv_istore_n hx hb hd ha hL.2 (by rw [← hL.1]; exact hf.1) rfl fun fl' hl' => ?_
    exact hq _ hf.2 H locs fl' hR hle (hL.set (v := .inl n) hf.1 hl') (x_lvs_set trivial h1) (fun w hw => h2 w (List.mem_cons_of_mem _ hw)) hS hc hs
  · exact hf.elim
theorem snd_astore {a : Nat} (hd : decode M.cd pc = .ok (.astore a, 2)) : x_Snd xm M pc (pc + 2) (x_astore a) := by
  rintro n0 oa D p l e R s m args below meth c Γ Z J q h0 ⟨ls, st, h⟩ C - hf hq - H locs fl hR hle hL h1 h2 hS hc hs
  obtain ⟨hx, hb, -⟩ := C
  unfold x_astore at hf
  dsimp only at hf hL h1 h2 ⊢
  split at hf
  · rename_i r st
    rcases x_cr_or n0 oa h r.1 r.2 with e1 | ⟨b, e1⟩ <;> (have e2 : x_cv n0 oa h (.inr (.inr r)) = _ := e1; rw [List.map_cons, e2])
    · exact lv_astoreN hx hb hd hL.2 (by rw [← hL.1]; exact hf.1) rfl fun fl' hl' => hq _ hf.2 H locs fl' hR hle (hL.set (v := .inr (.inr r)) hf.1 (by rw [e2]; exact hl')) (x_lvs_set (h2 _ List.mem_cons_self) h1) (fun w hw => h2 w (List.mem_cons_of_mem _ hw)) hS hc hs
    · exact lv_astore hx hb hd hL.2 (by rw [← hL.1]; exact hf.1) rfl fun fl' hl' => hq _ hf.2 H locs fl' hR hle (hL.set (v := .inr (.inr r)) hf.1 (by rw [e2]; exact hl')) (x_lvs_set (h2 _ List.mem_cons_self) h1) (fun w hw => h2 w (List.mem_cons_of_mem _ hw)) hS hc hs
  · exact hf.elim
theorem snd_astore_n {k : Fin 4} {a : Nat} (ha : (k : Nat) = a) (hd : decode M.cd pc = .ok (.astore_n k, 1)) : x_Snd xm M pc (pc + 1) (x_astore a) := by
  rintro n0 oa D p l e R s m args below meth c Γ Z J q h0 ⟨ls, st, h⟩ C - hf hq - H locs fl hR hle hL h1 h2 hS hc hs
  obtain ⟨hx, hb, -⟩ := C
  unfold x_astore at hf
  dsimp only at hf hL h1 h2 ⊢
  split at hf
  · rename_i r st
    rcases x_cr_or n0 oa h r.1 r.2 with e1 | ⟨b, e1⟩ <;> (have e2 : x_cv n0 oa h (.inr (.inr r)) = _ := e1; rw [List.map_cons, e2])
    · exact lv_astore_nN hx hb hd ha hL.2 (by rw [← hL.1]; exact hf.1) rfl fun fl' hl' => hq _ hf.2 H locs fl' hR hle (hL.set (v := .inr (.inr r)) hf.1 (by rw [e2]; exact hl')) (x_lvs_set (h2 _ List.mem_cons_self) h1) (fun w hw => h2 w (List.mem_cons_of_mem _ hw)) hS hc hs
    · exact lv_astore_n hx hb hd ha hL.2 (by rw [← hL.1]; exact hf.1) rfl fun fl' hl' => hq _ hf.2 H locs fl' hR hle (hL.set (v := .inr (.inr r)) hf.1 (by rw [e2]; exact hl')) (x_lvs_set (h2 _ List.mem_cons_self) h1) (fun w hw => h2 w (List.mem_cons_of_mem _ hw)) hS hc hs
  · exact hf.elim
theorem snd_iinc {a : Nat} {n : Int} {v : Int32} (hv : Int32.ofInt n = v) (hd : decode M.cd pc = .ok (.iinc a n, 3)) : x_Snd xm M pc (pc + 3) (x_iinc a v) := by
  rintro n0 oa D p l e R s m args below meth c Γ Z J q h0 ⟨ls, st, h⟩ C - hf hq - H locs fl hR hle hL h1 h2 hS hc hs
  obtain ⟨hx, hb, -⟩ := C
  unfold x_iinc at hf
  dsimp only at hf hL h1 h2 ⊢
  split at hf
  · rename_i x hn
    have hmem : (a, Value.int x) ∈ x_prs (x_cv n0 oa h) ls := x_prs_mem.mpr ⟨_, hn, rfl, rfl⟩
    obtain ⟨k, hk⟩ := List.mem_iff_getElem?.mp hmem
    have hlt : a < ls.length := (List.getElem?_eq_some_iff.mp hn).1
    refine lv_iinc hx hb hd hL.2 hk (v := x + v) (by rw [hv]) (by rw [← hL.1]; exact hlt) rfl fun fl' hl' => ?_
    exact hq _ hf H locs fl' hR hle (hL.set (v := .inl (x + v)) hlt hl') (x_lvs_set trivial h1) h2 hS hc hs
  · exact hf.elim
theorem snd_iconst {n : Int} {v : Int32} (hv : Int32.ofInt n = v) (hd : decode M.cd pc = .ok (.iconst n, 1)) : x_Snd xm M pc (pc + 1) (x_iconst v) := by
  rintro n0 oa D p l e R s m args below meth c Γ Z J q h0 ⟨ls, st, h⟩ C - hf hq - H locs fl hR hle hL h1 h2 hS hc hs
  obtain ⟨hx, hb, -⟩ := C
  exact lv_iconst hx hb hd hv (hq _ hf H locs fl hR hle hL h1 (x_lvs_cons trivial h2) hS hc hs)
theorem snd_bipush {n : Int} {v : Int32} (hv : (Int8.ofInt n).toInt32 = v) (hd : decode M.cd pc = .ok (.bipush n, 2)) : x_Snd xm M pc (pc + 2) (x_iconst v) := by
  rintro n0 oa D p l e R s m args below meth c Γ Z J q h0 ⟨ls, st, h⟩ C - hf hq - H locs fl hR hle hL h1 h2 hS hc hs
  obtain ⟨hx, hb, -⟩ := C
  exact lv_bipush hx hb hd hv (hq _ hf H locs fl hR hle hL h1 (x_lvs_cons trivial h2) hS hc hs)
theorem snd_sipush {n : Int} {v : Int32} (hv : (Int16.ofInt n).toInt32 = v) (hd : decode M.cd pc = .ok (.sipush n, 3)) : x_Snd xm M pc (pc + 3) (x_iconst v) := by
  rintro n0 oa D p l e R s m args below meth c Γ Z J q h0 ⟨ls, st, h⟩ C - hf hq - H locs fl hR hle hL h1 h2 hS hc hs
  obtain ⟨hx, hb, -⟩ := C
  exact lv_sipush hx hb hd hv (hq _ hf H locs fl hR hle hL h1 (x_lvs_cons trivial h2) hS hc hs)
theorem snd_null {t : Nat} (hd : decode M.cd pc = .ok (.aconst_null, 1)) : x_Snd xm M pc (pc + 1) (x_null t) := by
  rintro n0 oa D p l e R s m args below meth c Γ Z J q h0 ⟨ls, st, h⟩ C - hf hq - H locs fl hR hle hL h1 h2 hS hc hs
  obtain ⟨hx, hb, -⟩ := C
  exact lv_null hx hb hd (hq _ hf H locs fl hR hle hL h1 (x_lvs_cons (Nat.zero_le _) h2) hS hc hs)
-- arithmetic
theorem x_tl {h : xH} {v : xV} {l : List xV} (hl : ∀ w ∈ v :: l, x_lv h w) : ∀ w ∈ l, x_lv h w := fun w hw => hl w (List.mem_cons_of_mem _ hw)
theorem snd_iadd (hd : decode M.cd pc = .ok (.iadd, 1)) : x_Snd xm M pc (pc + 1) (x_bin (fun x y => x + y)) := by
  rintro n0 oa D p l e R s m args below meth c Γ Z J q h0 ⟨ls, st, h⟩ C - hf hq - H locs fl hR hle hL h1 h2 hS hc hs
  obtain ⟨hx, hb, -⟩ := C
  unfold x_bin at hf
  dsimp only at hf hL h1 h2 ⊢
  split at hf
  · exact lv_iadd hx hb hd (hq _ hf H locs fl hR hle hL h1 (x_lvs_cons trivial (x_tl (x_tl h2))) hS hc hs)
  · exact hf.elim
theorem snd_isub (hd : decode M.cd pc = .ok (.isub, 1)) : x_Snd xm M pc (pc + 1) (x_bin (fun x y => x - y)) := by
  rintro n0 oa D p l e R s m args below meth c Γ Z J q h0 ⟨ls, st, h⟩ C - hf hq - H locs fl hR hle hL h1 h2 hS hc hs
  obtain ⟨hx, hb, -⟩ := C
  unfold x_bin at hf
  dsimp only at hf hL h1 h2 ⊢
  split at hf
  · exact lv_isub hx hb hd (hq _ hf H locs fl hR hle hL h1 (x_lvs_cons trivial (x_tl (x_tl h2))) hS hc hs)
  · exact hf.elim
theorem snd_imul (hd : decode M.cd pc = .ok (.imul, 1)) : x_Snd xm M pc (pc + 1) (x_bin (fun x y => x * y)) := by
  rintro n0 oa D p l e R s m args below meth c Γ Z J q h0 ⟨ls, st, h⟩ C - hf hq - H locs fl hR hle hL h1 h2 hS hc hs
  obtain ⟨hx, hb, -⟩ := C
  unfold x_bin at hf
  dsimp only at hf hL h1 h2 ⊢
  split at hf
  · exact lv_imul hx hb hd (hq _ hf H locs fl hR hle hL h1 (x_lvs_cons trivial (x_tl (x_tl h2))) hS hc hs)
  · exact hf.elim
theorem snd_iand (hd : decode M.cd pc = .ok (.iand, 1)) : x_Snd xm M pc (pc + 1) (x_bin (fun x y => x &&& y)) := by
  rintro n0 oa D p l e R s m args below meth c Γ Z J q h0 ⟨ls, st, h⟩ C - hf hq - H locs fl hR hle hL h1 h2 hS hc hs
  obtain ⟨hx, hb, -⟩ := C
  unfold x_bin at hf
  dsimp only at hf hL h1 h2 ⊢
  split at hf
  · exact lv_iand hx hb hd (hq _ hf H locs fl hR hle hL h1 (x_lvs_cons trivial (x_tl (x_tl h2))) hS hc hs)
  · exact hf.elim
theorem snd_ior (hd : decode M.cd pc = .ok (.ior, 1)) : x_Snd xm M pc (pc + 1) (x_bin (fun x y => x ||| y)) := by
  rintro n0 oa D p l e R s m args below meth c Γ Z J q h0 ⟨ls, st, h⟩ C - hf hq - H locs fl hR hle hL h1 h2 hS hc hs
  obtain ⟨hx, hb, -⟩ := C
  unfold x_bin at hf
  dsimp only at hf hL h1 h2 ⊢
  split at hf
  · exact lv_ior hx hb hd (hq _ hf H locs fl hR hle hL h1 (x_lvs_cons trivial (x_tl (x_tl h2))) hS hc hs)
  · exact hf.elim
theorem snd_ishl (hd : decode M.cd pc = .ok (.ishl, 1)) : x_Snd xm M pc (pc + 1) (x_bin (fun x y => x <<< (y &&& 31))) := by
  rintro n0 oa D p l e R s m args below meth c Γ Z J q h0 ⟨ls, st, h⟩ C - hf hq - H locs fl hR hle hL h1 h2 hS hc hs
  obtain ⟨hx, hb, -⟩ := C
  unfold x_bin at hf
  dsimp only at hf hL h1 h2 ⊢
  split at hf
  · exact lv_ishl hx hb hd (hq _ hf H locs fl hR hle hL h1 (x_lvs_cons trivial (x_tl (x_tl h2))) hS hc hs)
  · exact hf.elim
theorem snd_ishr (hd : decode M.cd pc = .ok (.ishr, 1)) : x_Snd xm M pc (pc + 1) (x_bin (fun x y => x >>> (y &&& 31))) := by
  rintro n0 oa D p l e R s m args below meth c Γ Z J q h0 ⟨ls, st, h⟩ C - hf hq - H locs fl hR hle hL h1 h2 hS hc hs
  obtain ⟨hx, hb, -⟩ := C
  unfold x_bin at hf
  dsimp only at hf hL h1 h2 ⊢
  split at hf
  · exact lv_ishr hx hb hd (hq _ hf H locs fl hR hle hL h1 (x_lvs_cons trivial (x_tl (x_tl h2))) hS hc hs)
  · exact hf.elim
theorem snd_idiv (hd : decode M.cd pc = .ok (.idiv, 1)) : x_Snd xm M pc (pc + 1) x_idiv := by
  rintro n0 oa D p l e R s m args below meth c Γ Z J q h0 ⟨ls, st, h⟩ C - hf hq - H locs fl hR hle hL h1 h2 hS hc hs
  obtain ⟨hx, hb, -⟩ := C
  unfold x_idiv at hf
  dsimp only at hf hL h1 h2 ⊢
  split at hf
  · exact lv_idiv hx hb hd hf.1 (hq _ hf.2 H locs fl hR hle hL h1 (x_lvs_cons trivial (x_tl (x_tl h2))) hS hc hs)
  · exact hf.elim
theorem snd_irem (hd : decode M.cd pc = .ok (.irem, 1)) : x_Snd xm M pc (pc + 1) x_irem := by
  rintro n0 oa D p l e R s m args below meth c Γ Z J q h0 ⟨ls, st, h⟩ C - hf hq - H locs fl hR hle hL h1 h2 hS hc hs
  obtain ⟨hx, hb, -⟩ := C
  unfold x_irem at hf
  dsimp only at hf hL h1 h2 ⊢
  split at hf
  · exact lv_irem hx hb hd hf.1 (hq _ hf.2 H locs fl hR hle hL h1 (x_lvs_cons trivial (x_tl (x_tl h2))) hS hc hs)
  · exact hf.elim
theorem snd_dup (hd : decode M.cd pc = .ok (.dup, 1)) : x_Snd xm M pc (pc + 1) x_dup := by
  rintro n0 oa D p l e R s m args below meth c Γ Z J q h0 ⟨ls, st, h⟩ C - hf hq - H locs fl hR hle hL h1 h2 hS hc hs
  obtain ⟨hx, hb, -⟩ := C
  unfold x_dup at hf
  dsimp only at hf hL h1 h2 ⊢
  split at hf
  · exact lv_dup hx hb hd (by rw [x_cv_cat]; exact hf.1) (hq _ hf.2 H locs fl hR hle hL h1 (x_lvs_cons (h2 _ List.mem_cons_self) h2) hS hc hs)
  · exact hf.elim
theorem snd_dup2 (hd : decode M.cd pc = .ok (.dup2, 1)) : x_Snd xm M pc (pc + 1) x_dup2 := by
  rintro n0 oa D p l e R s m args below meth c Γ Z J q h0 ⟨ls, st, h⟩ C - hf hq - H locs fl hR hle hL h1 h2 hS hc hs
  obtain ⟨hx, hb, -⟩ := C
  unfold x_dup2 at hf
  dsimp only at hf hL h1 h2 ⊢
  split at hf
  · exact lv_dup2_11 hx hb hd (by rw [x_cv_cat]; exact hf.1) (by rw [x_cv_cat]; exact hf.2.1) (hq _ hf.2.2 H locs fl hR hle hL h1 (x_lvs_cons (h2 _ List.mem_cons_self) (x_lvs_cons (x_tl h2 _ List.mem_cons_self) h2)) hS hc hs)
  · exact hf.elim
theorem snd_pop (hd : decode M.cd pc = .ok (.pop, 1)) : x_Snd xm M pc (pc + 1) x_pop := by
  rintro n0 oa D p l e R s m args below meth c Γ Z J q h0 ⟨ls, st, h⟩ C - hf hq - H locs fl hR hle hL h1 h2 hS hc hs
  obtain ⟨hx, hb, -⟩ := C
  unfold x_pop at hf
  dsimp only at hf hL h1 h2 ⊢
  split at hf
  · exact lv_pop hx hb hd (by rw [x_cv_cat]; exact hf.1) (hq _ hf.2 H locs fl hR hle hL h1 (x_tl h2) hS hc hs)
  · exact hf.elim
theorem snd_goto {off : Int} {a : Nat} (ht : (pc : Int) + off = (a : Int)) (hd : decode M.cd pc = .ok (.goto off, 3)) : x_Snd xm M pc (pc + 3) (x_goto a) := by
  rintro n0 oa D p l e R s m args below meth c Γ Z J q h0 ⟨ls, st, h⟩ C - hf - hJ H locs fl hR hle hL h1 h2 hS hc hs
  obtain ⟨hx, hb, -⟩ := C
  exact lv_goto hx hb hd ht (hJ _ _ hf H locs fl hR hle hL h1 h2 hS hc hs)
/-- no instruction: to the block that begins here -/
theorem snd_to {nx : Nat} : x_Snd xm M pc nx (x_goto pc) := by
  rintro n0 oa D p l e R s m args below meth c Γ Z J q h0 S C - hf - hJ
  exact hJ _ _ hf
theorem snd_if_eq {off : Int} {a : Nat} (ht : (pc : Int) + off = (a : Int)) (hd : decode M.cd pc = .ok (.ifCond .eq off, 3)) : x_Snd xm M pc (pc + 3) (x_if (fun x => x = 0) a) := by
  rintro n0 oa D p l e R s m args below meth c Γ Z J q h0 ⟨ls, st, h⟩ C - hf hq hJ H locs fl hR hle hL h1 h2 hS hc hs
  obtain ⟨hx, hb, -⟩ := C
  unfold x_if at hf
  dsimp only at hf hL h1 h2 ⊢
  split at hf
  · exact lv_if_eq hx hb hd ht (fun k => hJ _ _ (hf.1 k) H locs fl hR hle hL h1 (x_tl h2) hS hc hs) (fun k => hq _ (hf.2 k) H locs fl hR hle hL h1 (x_tl h2) hS hc hs)
  · exact hf.elim
theorem snd_icmp_eq {off : Int} {a : Nat} (ht : (pc : Int) + off = (a : Int)) (hd : decode M.cd pc = .ok (.if_icmp .eq off, 3)) : x_Snd xm M pc (pc + 3) (x_icmp (fun x y => x = y) a) := by
  rintro n0 oa D p l e R s m args below meth c Γ Z J q h0 ⟨ls, st, h⟩ C - hf hq hJ H locs fl hR hle hL h1 h2 hS hc hs
  obtain ⟨hx, hb, -⟩ := C
  unfold x_icmp at hf
  dsimp only at hf hL h1 h2 ⊢
  split at hf
  · exact lv_icmp_eq hx hb hd ht (fun k => hJ _ _ (hf.1 k) H locs fl hR hle hL h1 (x_tl (x_tl h2)) hS hc hs) (fun k => hq _ (hf.2 k) H locs fl hR hle hL h1 (x_tl (x_tl h2)) hS hc hs)
  · exact hf.elim
theorem snd_if_ne {off : Int} {a : Nat} (ht : (pc : Int) + off = (a : Int)) (hd : decode M.cd pc = .ok (.ifCond .ne off, 3)) : x_Snd xm M pc (pc + 3) (x_if (fun x => ¬ x = 0) a) := by
  rintro n0 oa D p l e R s m args below meth c Γ Z J q h0 ⟨ls, st, h⟩ C - hf hq hJ H locs fl hR hle hL h1 h2 hS hc hs
  obtain ⟨hx, hb, -⟩ := C
  unfold x_if at hf
  dsimp only at hf hL h1 h2 ⊢
  split at hf
  · exact lv_if_ne hx hb hd ht (fun k => hJ _ _ (hf.1 k) H locs fl hR hle hL h1 (x_tl h2) hS hc hs) (fun k => hq _ (hf.2 (fun g => g k)) H locs fl hR hle hL h1 (x_tl h2) hS hc hs)
  · exact hf.elim
theorem snd_icmp_ne {off : Int} {a : Nat} (ht : (pc : Int) + off = (a : Int)) (hd : decode M.cd pc = .ok (.if_icmp .ne off, 3)) : x_Snd xm M pc (pc + 3) (x_icmp (fun x y => ¬ x = y) a) := by
  rintro n0 oa D p l e R s m args below meth c Γ Z J q h0 ⟨ls, st, h⟩ C - hf hq hJ H locs fl hR hle hL h1 h2 hS hc hs
  obtain ⟨hx, hb, -⟩ := C
  unfold x_icmp at hf
  dsimp only at hf hL h1 h2 ⊢
  split at hf
  · exact lv_icmp_ne hx hb hd ht (fun k => hJ _ _ (hf.1 k) H locs fl hR hle hL h1 (x_tl (x_tl h2)) hS hc hs) (fun k => hq _ (hf.2 (fun g => g k)) H locs fl hR hle hL h1 (x_tl (x_tl h2)) hS hc hs)
  · exact hf.elim
theorem snd_if_lt {off : Int} {a : Nat} (ht : (pc : Int) + off = (a : Int)) (hd : decode M.cd pc = .ok (.ifCond .lt off, 3)) : x_Snd xm M pc (pc + 3) (x_if (fun x => x < 0) a) := by
  rintro n0 oa D p l e R s m args below meth c Γ Z J q h0 ⟨ls, st, h⟩ C - hf hq hJ H locs fl hR hle hL h1 h2 hS hc hs
  obtain ⟨hx, hb, -⟩ := C
  unfold x_if at hf
  dsimp only at hf hL h1 h2 ⊢
  split at hf
  · exact lv_if_lt hx hb hd ht (fun k => hJ _ _ (hf.1 k) H locs fl hR hle hL h1 (x_tl h2) hS hc hs) (fun k => hq _ (hf.2 k) H locs fl hR hle hL h1 (x_tl h2) hS hc hs)
  · exact hf.elim
theorem snd_icmp_lt {off : Int} {a : Nat} (ht : (pc : Int) + off = (a : Int)) (hd : decode M.cd pc = .ok (.if_icmp .lt off, 3)) : x_Snd xm M pc (pc + 3) (x_icmp (fun x y => x < y) a) := by
  rintro n0 oa D p l e R s m args below meth c Γ Z J q h0 ⟨ls, st, h⟩ C - hf hq hJ H locs fl hR hle hL h1 h2 hS hc hs
  obtain ⟨hx, hb, -⟩ := C
  unfold x_icmp at hf
  dsimp only at hf hL h1 h2 ⊢
  split at hf
  · exact lv_icmp_lt hx hb hd ht (fun k => hJ _ _ (hf.1 k) H locs fl hR hle hL h1 (x_tl (x_tl h2)) hS hc hs) (fun k => hq _ (hf.2 k) H locs fl hR hle hL h1 (x_tl (x_tl h2)) hS hc hs)
  · exact hf.elim
theorem snd_if_ge {off : Int} {a : Nat} (ht : (pc : Int) + off = (a : Int)) (hd : decode M.cd pc = .ok (.ifCond .ge off, 3)) : x_Snd xm M pc (pc + 3) (x_if (fun x => 0 ≤ x) a) := by
  rintro n0 oa D p l e R s m args below meth c Γ Z J q h0 ⟨ls, st, h⟩ C - hf hq hJ H locs fl hR hle hL h1 h2 hS hc hs
  obtain ⟨hx, hb, -⟩ := C
  unfold x_if at hf
  dsimp only at hf hL h1 h2 ⊢
  split at hf
  · exact lv_if_ge hx hb hd ht (fun k => hJ _ _ (hf.1 k) H locs fl hR hle hL h1 (x_tl h2) hS hc hs) (fun k => hq _ (hf.2 k) H locs fl hR hle hL h1 (x_tl h2) hS hc hs)
  · exact hf.elim
theorem snd_icmp_ge {off : Int} {a : Nat} (ht : (pc : Int) + off = (a : Int)) (hd : decode M.cd pc = .ok (.if_icmp .ge off, 3)) : x_Snd xm M pc (pc + 3) (x_icmp (fun x y => y ≤ x) a) := by
  rintro n0 oa D p l e R s m args below meth c Γ Z J q h0 ⟨ls, st, h⟩ C - hf hq hJ H locs fl hR hle hL h1 h2 hS hc hs
  obtain ⟨hx, hb, -⟩ := C
  unfold x_icmp at hf
  dsimp only at hf hL h1 h2 ⊢
  split at hf
  · exact lv_icmp_ge hx hb hd ht (fun k => hJ _ _ (hf.1 k) H locs fl hR hle hL h1 (x_tl (x_tl h2)) hS hc hs) (fun k => hq _ (hf.2 k) H locs fl hR hle hL h1 (x_tl (x_tl h2)) hS hc hs)
  · exact hf.elim
theorem snd_if_gt {off : Int} {a : Nat} (ht : (pc : Int) + off = (a : Int)) (hd : decode M.cd pc = .ok (.ifCond .gt off, 3)) : x_Snd xm M pc (pc + 3) (x_if (fun x => 0 < x) a) := by
  rintro n0 oa D p l e R s m args below meth c Γ Z J q h0 ⟨ls, st, h⟩ C - hf hq hJ H locs fl hR hle hL h1 h2 hS hc hs
  obtain ⟨hx, hb, -⟩ := C
  unfold x_if at hf
  dsimp only at hf hL h1 h2 ⊢
  split at hf
  · exact lv_if_gt hx hb hd ht (fun k => hJ _ _ (hf.1 k) H locs fl hR hle hL h1 (x_tl h2) hS hc hs) (fun k => hq _ (hf.2 k) H locs fl hR hle hL h1 (x_tl h2) hS hc hs)
  · exact hf.elim
theorem snd_icmp_gt {off : Int} {a : Nat} (ht : (pc : Int) + off = (a : Int)) (hd : decode M.cd pc = .ok (.if_icmp .gt off, 3)) : x_Snd xm M pc (pc + 3) (x_icmp (fun x y => y < x) a) := by
  rintro n0 oa D p l e R s m args below meth c Γ Z J q h0 ⟨ls, st, h⟩ C - hf hq hJ H locs fl hR hle hL h1 h2 hS hc hs
  obtain ⟨hx, hb, -⟩ := C
  unfold x_icmp at hf
  dsimp only at hf hL h1 h2 ⊢
  split at hf
  · exact lv_icmp_gt hx hb hd ht (fun k => hJ _ _ (hf.1 k) H locs fl hR hle hL h1 (x_tl (x_tl h2)) hS hc hs) (fun k => hq _ (hf.2 k) H locs fl hR hle hL h1 (x_tl (x_tl h2)) hS hc hs)
  · exact hf.elim
theorem snd_if_le {off : Int} {a : Nat} (ht : (pc : Int) + off = (a : Int)) (hd : decode M.cd pc = .ok (.ifCond .le off, 3)) : x_Snd xm M pc (pc + 3) (x_if (fun x => x ≤ 0) a) := by
  rintro n0 oa D p l e R s m args below meth c Γ Z J q h0 ⟨ls, st, h⟩ C - hf hq hJ H locs fl hR hle hL h1 h2 hS hc hs
  obtain ⟨hx, hb, -⟩ := C
  unfold x_if at hf
  dsimp only at hf hL h1 h2 ⊢
  split at hf
  · exact lv_if_le hx hb hd ht (fun k => hJ _ _ (hf.1 k) H locs fl hR hle hL h1 (x_tl h2) hS hc hs) (fun k => hq _ (hf.2 k) H locs fl hR hle hL h1 (x_tl h2) hS hc hs)
  · exact hf.elim
theorem snd_icmp_le {off : Int} {a : Nat} (ht : (pc : Int) + off = (a : Int)) (hd : decode M.cd pc = .ok (.if_icmp .le off, 3)) : x_Snd xm M pc (pc + 3) (x_icmp (fun x y => x ≤ y) a) := by
  rintro n0 oa D p l e R s m args below meth c Γ Z J q h0 ⟨ls, st, h⟩ C - hf hq hJ H locs fl hR hle hL h1 h2 hS hc hs
  obtain ⟨hx, hb, -⟩ := C
  unfold x_icmp at hf
  dsimp only at hf hL h1 h2 ⊢
  split at hf
  · exact lv_icmp_le hx hb hd ht (fun k => hJ _ _ (hf.1 k) H locs fl hR hle hL h1 (x_tl (x_tl h2)) hS hc hs) (fun k => hq _ (hf.2 k) H locs fl hR hle hL h1 (x_tl (x_tl h2)) hS hc hs)
  · exact hf.elim
theorem snd_ifnull {off : Int} {a : Nat} (ht : (pc : Int) + off = (a : Int)) (hd : decode M.cd pc = .ok (.ifnull off, 3)) : x_Snd xm M pc (pc + 3) (x_ifnull a) := by
  rintro n0 oa D p l e R s m args below meth c Γ Z J q h0 ⟨ls, st, h⟩ C - hf hq hJ H locs fl hR hle hL h1 h2 hS hc hs
  obtain ⟨hx, hb, -⟩ := C
  unfold x_ifnull at hf
  dsimp only at hf hL h1 h2 ⊢
  split at hf
  · rename_i t j st
    rw [List.map_cons]
    by_cases hj : j = 0
    · have e2 : x_cv n0 oa h (.inr (.inr (t, j))) = .null := by show x_cr n0 oa h t j = .null; unfold x_cr; rw [if_pos hj]
      rw [e2]
      exact lv_ifnullN hx hb hd ht (hJ _ _ (hf.1 hj) H locs fl hR hle hL h1 (x_tl h2) hS hc hs)
    · have e2 : x_cv n0 oa h (.inr (.inr (t, j))) = .ref (x_addr n0 oa h t j) := by show x_cr n0 oa h t j = _; unfold x_cr; rw [if_neg hj]
      rw [e2]
      exact lv_ifnull hx hb hd (hq _ (hf.2 hj) H locs fl hR hle hL h1 (x_tl h2) hS hc hs)
  · exact hf.elim
theorem snd_ifnonnull {off : Int} {a : Nat} (ht : (pc : Int) + off = (a : Int)) (hd : decode M.cd pc = .ok (.ifnonnull off, 3)) : x_Snd xm M pc (pc + 3) (x_ifnonnull a) := by
  rintro n0 oa D p l e R s m args below meth c Γ Z J q h0 ⟨ls, st, h⟩ C - hf hq hJ H locs fl hR hle hL h1 h2 hS hc hs
  obtain ⟨hx, hb, -⟩ := C
  unfold x_ifnonnull at hf
  dsimp only at hf hL h1 h2 ⊢
  split at hf
  · rename_i t j st
    rw [List.map_cons]
    by_cases hj : j = 0
    · have e2 : x_cv n0 oa h (.inr (.inr (t, j))) = .null := by show x_cr n0 oa h t j = .null; unfold x_cr; rw [if_pos hj]
      rw [e2]
      exact lv_ifnonnullN hx hb hd (hq _ (hf.2 hj) H locs fl hR hle hL h1 (x_tl h2) hS hc hs)
    · have e2 : x_cv n0 oa h (.inr (.inr (t, j))) = .ref (x_addr n0 oa h t j) := by show x_cr n0 oa h t j = _; unfold x_cr; rw [if_neg hj]
      rw [e2]
      exact lv_ifnonnull hx hb hd ht (hJ _ _ (hf.1 hj) H locs fl hR hle hL h1 (x_tl h2) hS hc hs)
  · exact hf.elim
end XS1
end
section
/-! SOUND INSTRUCTIONS: references compared, switches, fields -/
theorem xk_cases {P : Nat → Prop} (h1 : P 1) (h2 : P 2) (h3 : P 3) (h4 : P 4) (h5 : P 5) (h6 : P 6) (h7 : P 7) (h8 : P 8) : ∀ K, xk_o K → P K := by
  intro K hK
  unfold xk_o at hK
  rcases (show K = 1 ∨ K = 2 ∨ K = 3 ∨ K = 4 ∨ K = 5 ∨ K = 6 ∨ K = 7 ∨ K = 8 by omega) with rfl | rfl | rfl | rfl | rfl | rfl | rfl | rfl <;> assumption
theorem xk_mem {ws : List Cond} (h : ws.all (fun w => decide (w ∈ lw_tbl) && goodWord w) = true) : ∀ w ∈ ws, w ∈ x_big := fun w hw => by
  have h1 := List.all_eq_true.mp h w hw
  simp only [Bool.and_eq_true, decide_eq_true_eq] at h1
  exact x_big_in h1.1 h1.2
theorem xk_in : ∀ K, xk_o K → ∀ w ∈ u_ws (xk_C K) (xk_T K) (xk_N K), w ∈ x_big := xk_cases (xk_mem (by decide +kernel)) (xk_mem (by decide +kernel)) (xk_mem (by decide +kernel)) (xk_mem (by decide +kernel)) (xk_mem (by decide +kernel)) (xk_mem (by decide +kernel)) (xk_mem (by decide +kernel)) (xk_mem (by decide +kernel))
theorem xk_tyok : ∀ K, xk_o K → ∀ k, k < xk_N K → parseFieldDescriptor (xk_T K k).2.2.1 = some (xk_ty K k) := xk_cases tyX0_ok tyX1_ok tyX2_ok tyX3_ok tyX4_ok tyX6_ok tyX7_ok tyX8_ok
theorem xk_nm : ∀ K, xk_o K → ∀ a, a < xk_N K → ∀ b, b < xk_N K → a ≠ b → (xk_T K a).2.1 ≠ (xk_T K b).2.1 := xk_cases nmX0 nmX1 nmX2 nmX3 nmX4 nmX6 nmX7 nmX8
end
section
section XS2
variable {xm : Nat → xM} {M : xM} {pc : Nat}
theorem x_cr_inj {n0 : Nat} {oa : Nat → Nat → Nat} {D : (Nat → ClassId) × (Nat → Nat → Nat) × (Nat → ClassId)} {h : xH} {H : Heap} (hR : x_Rep n0 oa D h H) (hoa : ∀ i j, 1 ≤ i → i ≤ 6 → 1 ≤ j → j ≤ 6 → oa 9 i = oa 9 j → i = j) {T i j : Nat} (hT : xk_o T ∨ T = 9) (hi : i ≤ x_cn h T) (hj : j ≤ x_cn h T) :
    ∃ a b : Option Nat, x_cr n0 oa h T i = va_rf a ∧ x_cr n0 oa h T j = va_rf b ∧ (a = b ↔ i = j) := by
  refine ⟨if i = 0 then none else some (x_addr n0 oa h T i), if j = 0 then none else some (x_addr n0 oa h T j), ?_, ?_, ?_⟩
  · unfold x_cr; by_cases e : i = 0
    · rw [if_pos e, if_pos e]; rfl
    · rw [if_neg e, if_neg e]; rfl
  · unfold x_cr; by_cases e : j = 0
    · rw [if_pos e, if_pos e]; rfl
    · rw [if_neg e, if_neg e]; rfl
  · constructor
    · intro q
      by_cases e : i = 0
      · rw [if_pos e] at q
        by_cases e' : j = 0
        · omega
        · rw [if_neg e'] at q; cases q
      · rw [if_neg e] at q
        by_cases e' : j = 0
        · rw [if_pos e'] at q; cases q
        · rw [if_neg e'] at q
          have q := Option.some.inj q
          rcases hT with hT | rfl
          · rw [x_addr_in (Or.inl hT), x_addr_in (Or.inl hT)] at q
            exact (hR.2.2.2.1 T i T j (Or.inl hT) (Or.inl hT) ⟨by omega, hi⟩ ⟨by omega, hj⟩ (by omega)).2
          · have h6 := hR.2.2.2.2.2.2
            exact hoa i j (by omega) (by omega) (by omega) (by omega) (by simpa [x_addr] using q)
    · rintro rfl; rfl
theorem snd_aeq {off : Int} {T a : Nat} (hT : xk_o T ∨ T = 9) (ht : (pc : Int) + off = (a : Int)) (hd : decode M.cd pc = .ok (.if_acmp .eq off, 3)) : x_Snd xm M pc (pc + 3) (x_aeq T a) := by
  rintro n0 oa D p l e R s m args below meth c Γ Z J q h0 ⟨ls, st, h⟩ C - hf hq hJ H locs fl hR hle hL h1 h2 hS hc hs
  obtain ⟨hx, hb, -, -, -, -, -, -, -, -, hSt, -⟩ := C
  unfold x_aeq at hf
  dsimp only at hf hL h1 h2 ⊢
  split at hf
  · rename_i t j t' j' st
    obtain ⟨rfl, rfl, k1, k2⟩ := hf
    obtain ⟨u, v, e1, e2, e3⟩ := x_cr_inj hR hSt.2.1 hT (i := j') (j := j) (x_tl h2 _ List.mem_cons_self) (h2 _ List.mem_cons_self)
    rw [List.map_cons, List.map_cons, show x_cv n0 oa h (.inr (.inr (t', j))) = va_rf v from e2, show x_cv n0 oa h (.inr (.inr (t', j'))) = va_rf u from e1]
    exact lv_acmp_eq hx hb hd ht (fun k => hJ _ _ (k1 (e3.mp k)) H locs fl hR hle hL h1 (x_tl (x_tl h2)) hS hc hs) (fun k => hq _ (k2 (fun z => k (e3.mpr z))) H locs fl hR hle hL h1 (x_tl (x_tl h2)) hS hc hs)
  · exact hf.elim
theorem snd_ane {off : Int} {T a : Nat} (hT : xk_o T ∨ T = 9) (ht : (pc : Int) + off = (a : Int)) (hd : decode M.cd pc = .ok (.if_acmp .ne off, 3)) : x_Snd xm M pc (pc + 3) (x_ane T a) := by
  rintro n0 oa D p l e R s m args below meth c Γ Z J q h0 ⟨ls, st, h⟩ C - hf hq hJ H locs fl hR hle hL h1 h2 hS hc hs
  obtain ⟨hx, hb, -, -, -, -, -, -, -, -, hSt, -⟩ := C
  unfold x_ane at hf
  dsimp only at hf hL h1 h2 ⊢
  split at hf
  · rename_i t j t' j' st
    obtain ⟨rfl, rfl, k1, k2⟩ := hf
    obtain ⟨u, v, e1, e2, e3⟩ := x_cr_inj hR hSt.2.1 hT (i := j') (j := j) (x_tl h2 _ List.mem_cons_self) (h2 _ List.mem_cons_self)
    rw [List.map_cons, List.map_cons, show x_cv n0 oa h (.inr (.inr (t', j))) = va_rf v from e2, show x_cv n0 oa h (.inr (.inr (t', j'))) = va_rf u from e1]
    exact lv_acmp_ne hx hb hd ht (fun k => hJ _ _ (k1 (fun z => k (e3.mpr z))) H locs fl hR hle hL h1 (x_tl (x_tl h2)) hS hc hs) (fun k => hq _ (k2 (e3.mp k)) H locs fl hR hle hL h1 (x_tl (x_tl h2)) hS hc hs)
  · exact hf.elim
/-- a switch: the offsets are the targets less pc -/
theorem snd_switch {lo hi dflt : Int} {offs : Array Int} {tg : List Nat} {d len : Nat} (hh : lo + tg.length = hi + 1) (ho : offs.toList = tg.map (fun a : Nat => (a : Int) - (pc : Int))) (htd : (pc : Int) + dflt = (d : Int)) (hd : decode M.cd pc = .ok (.tableswitch dflt lo hi offs, len)) : x_Snd xm M pc (pc + len) (x_switch lo tg d) := by
  rintro n0 oa D p l e R s m args below meth c Γ Z J q h0 ⟨ls, st, h⟩ C - hf - hJ H locs fl hR hle hL h1 h2 hS hc hs
  obtain ⟨hx, hb, -⟩ := C
  unfold x_switch at hf
  dsimp only at hf hL h1 h2 ⊢
  split at hf
  · rename_i x st
    by_cases k1 : x.toInt < lo
    · exact lv_tableOut hx hb hd (Or.inl k1) htd (hJ _ _ (hf.2 (Or.inl k1)) H locs fl hR hle hL h1 (x_tl h2) hS hc hs)
    · by_cases k2 : hi < x.toInt
      · exact lv_tableOut hx hb hd (Or.inr k2) htd (hJ _ _ (hf.2 (Or.inr (by omega))) H locs fl hR hle hL h1 (x_tl h2) hS hc hs)
      · obtain ⟨n, hn⟩ : ∃ n : Nat, x.toInt - lo = n := ⟨(x.toInt - lo).toNat, by omega⟩
        have hlt : n < tg.length := by omega
        have hg : offs[n]? = some ((tg[n] : Int) - pc) := by
          rw [← Array.getElem?_toList, ho, List.getElem?_map, List.getElem?_eq_getElem hlt]
          rfl
        exact lv_tableIn (off := (tg[n] : Int) - pc) (tgt := tg[n]) hx hb hd k1 k2 (by rw [hn]; exact hg) (by omega) (hJ _ _ (hf.1 n tg[n] (List.getElem?_eq_getElem hlt) (by omega)) H locs fl hR hle hL h1 (x_tl h2) hS hc hs)
  · exact hf.elim
-- fields
theorem x_get0 {n0 : Nat} {oa : Nat → Nat → Nat} {D : (Nat → ClassId) × (Nat → Nat → Nat) × (Nat → ClassId)} {p : Program} {l : Launch} {e : Env} {R : Room} {s : State} {m : MethodId} {args : Array Value} {below : List Frame} {meth : Method} {c : Code} {h0 : xH} {Q : State → Prop}
    (C : x_Cx n0 oa D M h0 p l R s m args meth c) {K k idx : Nat} (hK : xk_o K) (hk : k < xk_N K) (hw : Cond.fieldLink M.own idx (xk_T K k).1 (xk_T K k).2.1 (xk_T K k).2.2.1 ∈ x_big) (hd : decode M.cd pc = .ok (.getfield idx, 3))
    {h : xH} {H : Heap} {locs : List Loc} {cells slots : Nat} {fl : Array Slot} {st : List Value} (hR : x_Rep n0 oa D h H) {j : Nat} (hj : x_live h K j)
    (kk : W p l e R s m args below meth c H locs cells slots Q (F0 m (pc + 3) fl (x_cf n0 oa h K k j :: st))) : W p l e R s m args below meth c H locs cells slots Q (F0 m pc fl (x_cr n0 oa h K j :: st)) := by
  obtain ⟨hx, hb, -, hown, hts, -, -, -, -, hKn, -⟩ := C
  rw [x_cr_in (Or.inl hK) hj]
  obtain ⟨-, cell, q1, q2, q3, q4⟩ := hR.2.1 K j hK hj
  obtain ⟨hSl, hfc, kC, hkC, hkind⟩ := hKn.1 K hK
  obtain ⟨cf, kf, fi, f, hi, hsl⟩ := hSl k hk
  refine W.getf hx hb hown (hts _ hw) hi (u_facts hfc hkC (u_lays hts (xk_in K hK) hk) hi).1 q1 (by rw [q3]; exact fun h => by cases h) (v := x_cf n0 oa h K k j) ?_ rfl rfl hd kk
  rw [hsl, q4 k hk]
theorem snd_gfi {K k idx : Nat} (hK : xk_o K) (hk : k < xk_N K) (hft : x_ft K k = 0) (hw : Cond.fieldLink M.own idx (xk_T K k).1 (xk_T K k).2.1 (xk_T K k).2.2.1 ∈ x_big) (hd : decode M.cd pc = .ok (.getfield idx, 3)) : x_Snd xm M pc (pc + 3) (x_gfi K k) := by
  rintro n0 oa D p l e R s m args below meth c Γ Z J q h0 ⟨ls, st, h⟩ C - hf hq - H locs fl hR hle hL h1 h2 hS hc hs
  unfold x_gfi at hf
  dsimp only at hf hL h1 h2 ⊢
  split at hf
  · rename_i t j st
    obtain ⟨rfl, hj, hf⟩ := hf
    refine x_get0 C hK hk hw hd hR hj ?_
    rw [show x_cf n0 oa h t k j = .int (x_vi h t k j) by unfold x_cf; rw [if_pos hft]]
    exact hq _ hf H locs fl hR hle hL h1 (x_lvs_cons trivial (x_tl h2)) hS hc hs
  · exact hf.elim
theorem snd_gfr {K k T idx : Nat} (hK : xk_o K) (hk : k < xk_N K) (hft : x_ft K k = T) (hT : T ≠ 0) (hw : Cond.fieldLink M.own idx (xk_T K k).1 (xk_T K k).2.1 (xk_T K k).2.2.1 ∈ x_big) (hd : decode M.cd pc = .ok (.getfield idx, 3)) : x_Snd xm M pc (pc + 3) (x_gfr K k T) := by
  rintro n0 oa D p l e R s m args below meth c Γ Z J q h0 ⟨ls, st, h⟩ C - hf hq - H locs fl hR hle hL h1 h2 hS hc hs
  unfold x_gfr at hf
  dsimp only at hf hL h1 h2 ⊢
  split at hf
  · rename_i t j st
    obtain ⟨rfl, hj, hf⟩ := hf
    refine x_get0 C hK hk hw hd hR hj ?_
    have hl := hR.2.2.2.2.1 t j k hK hj
    rw [show x_cf n0 oa h t k j = x_cr n0 oa h T (x_vr h t k j) by unfold x_cf; rw [if_neg (by rw [hft]; exact hT), hft]]
    rw [hft] at hl
    exact hq _ hf H locs fl hR hle hL h1 (x_lvs_cons hl (x_tl h2)) hS hc hs
  · exact hf.elim
theorem x_put0 {n0 : Nat} {oa : Nat → Nat → Nat} {D : (Nat → ClassId) × (Nat → Nat → Nat) × (Nat → ClassId)} {p : Program} {l : Launch} {e : Env} {R : Room} {s : State} {m : MethodId} {args : Array Value} {below : List Frame} {meth : Method} {c : Code} {h0 : xH} {Q : State → Prop}
    (C : x_Cx n0 oa D M h0 p l R s m args meth c) {K k idx : Nat} (hK : xk_o K) (hk : k < xk_N K) (hw : Cond.fieldLink M.own idx (xk_T K k).1 (xk_T K k).2.1 (xk_T K k).2.2.1 ∈ x_big) (hd : decode M.cd pc = .ok (.putfield idx, 3))
    (hfin : (xk_T K k).2.2.2 = false ∨ ((xk_T K k).2.2.2 = true ∧ M.ini = true ∧ (xk_T K k).1 = M.own))
    {h h' : xH} {H : Heap} {locs : List Loc} {cells slots : Nat} {fl : Array Slot} {st : List Value} (hR : x_Rep n0 oa D h H) (hle : x_le h0 h) (hS : va_S (fun q => n0 ≤ q) s.heap H locs) {j : Nat} (hj : x_live h K j) {v : Value}
    (hn : narrow (xk_ty K k) v = v) (hv : fits (xk_ty K k) v = true)
    (e1 : x_cn h' = x_cn h) (e2 : x_ln h' = x_ln h) (e3 : x_ad h' = x_ad h) (e4 : x_sz h' = x_sz h)
    (f1 : ∀ K' k' j', ¬ (K' = K ∧ k' = k ∧ j' = j) → x_cf n0 oa h' K' k' j' = x_cf n0 oa h K' k' j') (f0 : x_cf n0 oa h' K k j = v)
    (f2 : ∀ K' j' i, xk_a K' → x_ae n0 oa h' K' j' i = x_ae n0 oa h K' j' i)
    (l1 : ∀ K j k, xk_o K → x_live h K j → x_vr h' K k j ≤ x_cn h (x_ft K k)) (l2 : ∀ K j i, xk_a K → x_live h K j → x_vr h' K j i ≤ x_cn h (x_et K))
    (kk : ∀ (H1 : Heap) (locs1 : List Loc), x_Rep n0 oa D h' H1 → va_S (fun q => n0 ≤ q) s.heap H1 locs1 → W p l e R s m args below meth c H1 locs1 cells slots Q (F0 m (pc + 3) fl st)) : W p l e R s m args below meth c H locs cells slots Q (F0 m pc fl (v :: x_cr n0 oa h K j :: st)) := by
  obtain ⟨hx, hb, -, hown, hts, -, -, hini, -, hKn, -, hn0, -⟩ := C
  rw [x_cr_in (Or.inl hK) hj]
  obtain ⟨-, cell, q1, q2, q3, q4⟩ := hR.2.1 K j hK hj
  obtain ⟨hSl, hfc, kC, hkC, hkind⟩ := hKn.1 K hK
  obtain ⟨cf, kf, fi, f, hi, hsl⟩ := hSl k hk
  have hlay := hts _ (xk_in K hK _ (u_in_lay hk))
  have hst := (u_facts hfc hkC (u_lays hts (xk_in K hK) hk) hi).1
  have hap : ∀ x y, x < xk_N K → y < xk_N K → x ≠ y → (D.2.1 K) x ≠ (D.2.1 K) y := by
    intro x y hx9 hy9 hne
    obtain ⟨_, _, _, fa, hia, ea⟩ := hSl x hx9
    obtain ⟨_, _, _, fb, hib, eb⟩ := hSl y hy9
    rw [← ea, ← eb]
    refine u_apart (u_lays hts (xk_in K hK) hx9) (u_lays hts (xk_in K hK) hy9) hia hib ?_
    rw [(State.fieldFound?_type hia (xk_tyok K hK x hx9)).1, (State.fieldFound?_type hib (xk_tyok K hK y hy9)).1]
    exact xk_nm K hK x hx9 y hy9 hne
  have fin : ∀ H' : Heap, H'[n0 + x_ad h K j]? = some (cell.setSlot f.slot v) → H'.size = H.size → (∀ q, q ≠ n0 + x_ad h K j → H'[q]? = H[q]?) → W p l e R s m args below meth c H' (locs ++ [⟨n0 + x_ad h K j, f.slot⟩]) cells slots Q (F0 m (pc + 3) fl st) := by
    intro H' g1 g2 g3
    refine kk H' _ ?_ (hS.put g2 g3 (Nat.le_add_right _ _))
    refine hR.put (K := K) (j := j) e1 e2 e3 e4 (Or.inl hK) hj g2 g3 (fun K' k' j' _ _ hne => f1 K' k' j' (fun z => hne ⟨z.1, z.2.2⟩)) (fun K' j' i ha _ _ => f2 K' j' i ha) (fun _ => ?_) (fun ha => ?_) l1 l2
    · rw [hsl] at g1
      refine ⟨_, g1, q2, q3, fun k' hk' => ?_⟩
      rw [t_set q4 hap hk v k' hk']
      show some (updV (fun k => x_cf n0 oa h K k j) k v k') = some (x_cf n0 oa h' K k' j)
      unfold updV
      by_cases e9 : k' = k
      · rw [if_pos e9, e9, f0]
      · rw [if_neg e9, f1 K k' j (fun z => e9 z.2.1)]
    · exfalso
      simp only [xk_o, xk_a] at hK ha
      omega
  rcases hfin with hfin | ⟨hfin, hi1, hi2⟩
  · unfold u_lay at hlay
    rw [if_neg (by rw [hfin]; decide)] at hlay
    have h6 := u_store hfc hkC hkind hlay hi (xk_tyok K hK k hk) hn hv
    exact W.putK hx hb (f := f) ⟨hown, hts _ hw, ⟨_, _, _, hi⟩, hst⟩ (by rw [q2]; exact h6) q1 q3 (by rw [hsl]; exact k2_hasslot (q4 k hk)) rfl rfl hd fin
  · unfold u_lay at hlay
    rw [if_pos hfin] at hlay
    have hcf : m.cls = cf := by
      obtain ⟨_, _, c', _, _, _, -, -, hf', -, -, -, hown2, -⟩ := Cond.laysFinal_spec hlay
      have e1 : c' = cf := by have := hi.symm.trans hf'; simp at this; exact this.1.symm
      rw [hi2] at hown2
      rw [← e1]; exact Option.some.inj (hown.symm.trans hown2)
    have h6 := u_fits hfc hkC hkind (Or.inr hlay) hi (xk_tyok K hK k hk) hn hv
    exact W.putFinK hx hb hown (hts _ hw) hi hst hcf (hini hi1) (by rw [q2]; exact h6) q1 q3 (by rw [hsl]; exact k2_hasslot (q4 k hk)) rfl rfl hd fin
theorem x_cf_puti {n0 : Nat} {oa : Nat → Nat → Nat} {h : xH} {K k j : Nat} {v : Int32} {K' k' j' : Nat} (hne : ¬ (K' = K ∧ k' = k ∧ j' = j)) : x_cf n0 oa (x_puti h K k j v) K' k' j' = x_cf n0 oa h K' k' j' := by
  unfold x_cf
  rw [show x_vi (x_puti h K k j v) K' k' j' = x_vi h K' k' j' by show x_u3 (x_vi h) K k j v K' k' j' = _; unfold x_u3; rw [if_neg hne]]
  rfl
theorem x_ae_puti {n0 : Nat} {oa : Nat → Nat → Nat} {h : xH} {K k j : Nat} {v : Int32} {K' j' i : Nat} (hne : ¬ (K' = K ∧ j' = k ∧ i = j)) : x_ae n0 oa (x_puti h K k j v) K' j' i = x_ae n0 oa h K' j' i := by
  unfold x_ae
  rw [show x_vi (x_puti h K k j v) K' j' i = x_vi h K' j' i by show x_u3 (x_vi h) K k j v K' j' i = _; unfold x_u3; rw [if_neg hne]]
  rfl
theorem x_cf_putr {n0 : Nat} {oa : Nat → Nat → Nat} {h : xH} {K k j v K' k' j' : Nat} (hne : ¬ (K' = K ∧ k' = k ∧ j' = j)) : x_cf n0 oa (x_putr h K k j v) K' k' j' = x_cf n0 oa h K' k' j' := by
  unfold x_cf
  rw [show x_vr (x_putr h K k j v) K' k' j' = x_vr h K' k' j' by show x_u3 (x_vr h) K k j v K' k' j' = _; unfold x_u3; rw [if_neg hne]]
  rfl
theorem x_ae_putr {n0 : Nat} {oa : Nat → Nat → Nat} {h : xH} {K k j v K' j' i : Nat} (hne : ¬ (K' = K ∧ j' = k ∧ i = j)) : x_ae n0 oa (x_putr h K k j v) K' j' i = x_ae n0 oa h K' j' i := by
  unfold x_ae
  rw [show x_vr (x_putr h K k j v) K' j' i = x_vr h K' j' i by show x_u3 (x_vr h) K k j v K' j' i = _; unfold x_u3; rw [if_neg hne]]
  rfl
theorem x_o_ne_a {K K' : Nat} (h : xk_o K) (h' : xk_a K') : K' ≠ K := by
  simp only [xk_o, xk_a] at h h'; omega
theorem x_o_ne10 {K : Nat} (h : xk_o K) : K ≠ 10 := by simp only [xk_o] at h; omega
theorem x_a_ne10 {K : Nat} (h : xk_a K) : K ≠ 10 := by simp only [xk_a] at h; omega
theorem x_pfi0 {n0 : Nat} {oa : Nat → Nat → Nat} {D : (Nat → ClassId) × (Nat → Nat → Nat) × (Nat → ClassId)} {p : Program} {l : Launch} {e : Env} {R : Room} {s : State} {m : MethodId} {args : Array Value} {below : List Frame} {meth : Method} {c : Code} {h0 : xH} {Q : State → Prop}
    (C : x_Cx n0 oa D M h0 p l R s m args meth c) {K k idx : Nat} (hK : xk_o K) (hk : k < xk_N K) (hft : x_ft K k = 0) (hw : Cond.fieldLink M.own idx (xk_T K k).1 (xk_T K k).2.1 (xk_T K k).2.2.1 ∈ x_big) (hd : decode M.cd pc = .ok (.putfield idx, 3))
    (hfin : (xk_T K k).2.2.2 = false ∨ ((xk_T K k).2.2.2 = true ∧ M.ini = true ∧ (xk_T K k).1 = M.own)) {n : Int32} (hn : narrow (xk_ty K k) (.int n) = .int n) (hv : fits (xk_ty K k) (.int n) = true)
    {ls st : List xV} {h : xH} {j : Nat} (hj : x_live h K j) (hq : x_At n0 oa D p l e R s m args below meth c M h0 Q (pc + 3) (ls, st, x_puti h K k j n)) : x_At n0 oa D p l e R s m args below meth c M h0 Q pc (ls, .inl n :: .inr (.inr (K, j)) :: st, h) := by
  intro H locs fl hR hle hL h1 h2 hS hc hs
  dsimp only at hR hle hL h1 h2 hc hs ⊢
  refine x_put0 (h' := x_puti h K k j n) C hK hk hw hd hfin hR hle hS hj hn hv rfl rfl rfl rfl (fun K' k' j' z => x_cf_puti z) ?_ (fun K' j' i ha => x_ae_puti (fun z => x_o_ne_a hK ha z.1)) (fun K j k a b => hR.2.2.2.2.1 K j k a b) (fun K j i a b => hR.2.2.2.2.2.1 K j i a b) fun H1 locs1 hR1 hS1 => ?_
  · unfold x_cf
    rw [if_pos hft]
    show Value.int (x_u3 (x_vi h) K k j n K k j) = _
    unfold x_u3
    rw [if_pos ⟨rfl, rfl, rfl⟩]
    rfl
  · have hl := x_le.puti (h := h) (k := k) (i := j) (v := n) (x_o_ne10 hK)
    exact hq H1 locs1 fl hR1 (hle.tr hl) (hL.le hl h1) (x_lvs_le hl h1) (x_lvs_le hl (x_tl (x_tl h2))) hS1 hc hs
theorem snd_pfi {K k idx : Nat} (hK : xk_o K) (hk : k < xk_N K) (hft : x_ft K k = 0) (hty : xk_ty K k = .int) (hw : Cond.fieldLink M.own idx (xk_T K k).1 (xk_T K k).2.1 (xk_T K k).2.2.1 ∈ x_big)
    (hfin : (xk_T K k).2.2.2 = false ∨ ((xk_T K k).2.2.2 = true ∧ M.ini = true ∧ (xk_T K k).1 = M.own)) (hd : decode M.cd pc = .ok (.putfield idx, 3)) : x_Snd xm M pc (pc + 3) (x_pfi K k) := by
  rintro n0 oa D p l e R s m args below meth c Γ Z J q h0 ⟨ls, st, h⟩ C - hf hq -
  unfold x_pfi at hf
  dsimp only at hf
  split at hf
  · obtain ⟨rfl, hj, hf⟩ := hf
    exact x_pfi0 C hK hk hft hw hd hfin (by rw [hty]; rfl) (by rw [hty]; rfl) hj (hq _ hf)
  · exact hf.elim
theorem snd_pfz {K k idx : Nat} (hK : xk_o K) (hk : k < xk_N K) (hft : x_ft K k = 0) (hty : xk_ty K k = .boolean) (hw : Cond.fieldLink M.own idx (xk_T K k).1 (xk_T K k).2.1 (xk_T K k).2.2.1 ∈ x_big)
    (hfin : (xk_T K k).2.2.2 = false ∨ ((xk_T K k).2.2.2 = true ∧ M.ini = true ∧ (xk_T K k).1 = M.own)) (hd : decode M.cd pc = .ok (.putfield idx, 3)) : x_Snd xm M pc (pc + 3) (x_pfz K k) := by
  rintro n0 oa D p l e R s m args below meth c Γ Z J q h0 ⟨ls, st, h⟩ C - hf hq -
  unfold x_pfz at hf
  dsimp only at hf
  split at hf
  · obtain ⟨rfl, hj, hz, hf⟩ := hf
    exact x_pfi0 C hK hk hft hw hd hfin (by rw [hty]; rcases hz with rfl | rfl <;> rfl) (by rw [hty]; rcases hz with rfl | rfl <;> rfl) hj (hq _ hf)
  · exact hf.elim
theorem snd_pfr {K k T idx : Nat} (hK : xk_o K) (hk : k < xk_N K) (hft : x_ft K k = T) (hT : T ≠ 0) (hty : (xk_ty K k).isReference = true) (hw : Cond.fieldLink M.own idx (xk_T K k).1 (xk_T K k).2.1 (xk_T K k).2.2.1 ∈ x_big)
    (hfin : (xk_T K k).2.2.2 = false ∨ ((xk_T K k).2.2.2 = true ∧ M.ini = true ∧ (xk_T K k).1 = M.own)) (hd : decode M.cd pc = .ok (.putfield idx, 3)) : x_Snd xm M pc (pc + 3) (x_pfr K k T) := by
  rintro n0 oa D p l e R s m args below meth c Γ Z J q h0 ⟨ls, st, h⟩ C - hf hq - H locs fl hR hle hL h1 h2 hS hc hs
  unfold x_pfr at hf
  dsimp only at hf hR hle hL h1 h2 hc hs ⊢
  split at hf
  · rename_i t' j' t j st
    obtain ⟨rfl, rfl, hj, hf⟩ := hf
    have hv2 : j' ≤ x_cn h t' := h2 _ List.mem_cons_self
    refine x_put0 (h' := x_putr h t k j j') C hK hk hw hd hfin hR hle hS hj ?_ ?_ rfl rfl rfl rfl (fun K' k' j' z => x_cf_putr z) ?_ (fun K' j' i ha => x_ae_putr (fun z => x_o_ne_a hK ha z.1)) ?_ ?_ fun H1 locs1 hR1 hS1 => ?_
    · show narrow (xk_ty t k) (x_cr n0 oa h t' j') = x_cr n0 oa h t' j'
      rcases x_cr_or n0 oa h t' j' with e9 | ⟨a9, e9⟩ <;> rw [e9] <;> (cases h9 : xk_ty t k <;> rw [h9] at hty <;> first | rfl | (cases hty))
    · show fits (xk_ty t k) (x_cr n0 oa h t' j') = true
      rcases x_cr_or n0 oa h t' j' with e9 | ⟨a9, e9⟩ <;> rw [e9] <;> (cases h9 : xk_ty t k <;> rw [h9] at hty <;> first | rfl | (cases hty))
    · unfold x_cf
      rw [if_neg (by rw [hft]; exact hT), hft]
      show x_cr n0 oa h t' (x_u3 (x_vr h) t k j j' t k j) = x_cr n0 oa h t' j'
      unfold x_u3
      rw [if_pos ⟨rfl, rfl, rfl⟩]
    · intro K9 j9 k9 a9 b9
      show x_u3 (x_vr h) t k j j' K9 k9 j9 ≤ _
      unfold x_u3
      by_cases z : K9 = t ∧ k9 = k ∧ j9 = j
      · rw [if_pos z, z.1, z.2.1, hft]; exact hv2
      · rw [if_neg z]; exact hR.2.2.2.2.1 K9 j9 k9 a9 b9
    · intro K9 j9 i9 a9 b9
      show x_u3 (x_vr h) t k j j' K9 j9 i9 ≤ _
      unfold x_u3
      rw [if_neg (fun z => x_o_ne_a hK a9 z.1)]
      exact hR.2.2.2.2.2.1 K9 j9 i9 a9 b9
    · have hl := x_le.putr (h := h) (K := t) (k := k) (i := j) (v := j')
      exact hq _ hf H1 locs1 fl hR1 (hle.tr hl) (hL.le hl h1) (x_lvs_le hl h1) (x_lvs_le hl (x_tl (x_tl h2))) hS1 hc hs
  · exact hf.elim
theorem snd_stage {j idx : Nat} (h1 : 1 ≤ j) (h6 : j ≤ 6) (hw : Cond.fieldLink M.own idx "CrossbarNet$Stage" (x_sn j) "LCrossbarNet$Stage;" ∈ x_big) (hd : decode M.cd pc = .ok (.getstatic idx, 3)) : x_Snd xm M pc (pc + 3) (x_stage j) := by
  rintro n0 oa D p l e R s m args below meth c Γ Z J q h0 ⟨ls, st, h⟩ C - hf hq - H locs fl hR hle hL h1' h2 hS hc hs
  obtain ⟨hx, hb, -, hown, hts, -, -, -, -, -, hSt, -⟩ := C
  dsimp only at hR hle hL h1' h2 hc hs ⊢
  refine va_gets hx hb (hSt.1 j h1 h6) hS hown (hts _ hw) (fun _ z => z) hd ?_
  have e9 : x_cv n0 oa h (.inr (.inr (9, j))) = .ref (oa 9 j) := by
    show x_cr n0 oa h 9 j = _
    unfold x_cr x_addr
    rw [if_neg (by omega), if_pos (Or.inl rfl)]
  have := hq _ hf H locs fl hR hle hL h1' (x_lvs_cons (show j ≤ x_cn h 9 from ?_) h2) hS hc hs
  · rw [List.map_cons, e9] at this
    exact this
  · rw [hR.2.2.2.2.2.2]; exact h6
end XS2
end
section
/-! SOUND INSTRUCTIONS: arrays, new cells -/
/-- one cell more -/
theorem x_Rep.grow {n0 : Nat} {oa : Nat → Nat → Nat} {D : (Nat → ClassId) × (Nat → Nat → Nat) × (Nat → ClassId)} {h h' : xH} {H H1 : Heap} (hR : x_Rep n0 oa D h H) {K : Nat} (hK : xk_o K ∨ xk_a K) (hle : x_le h h')
    (c1 : ∀ K', x_cn h' K' = if K' = K then x_cn h K + 1 else x_cn h K') (c2 : x_ad h' K (x_cn h K + 1) = x_sz h) (c3 : x_sz h' = x_sz h + 1) (c4 : ∀ K' j', x_live h K' j' → x_ln h' K' j' = x_ln h K' j')
    (v1 : ∀ K' k j', xk_o K' → x_live h K' j' → x_vi h' K' k j' = x_vi h K' k j' ∧ x_vr h' K' k j' = x_vr h K' k j') (v2 : ∀ K' j' i, xk_a K' → x_live h K' j' → x_vi h' K' j' i = x_vi h K' j' i ∧ x_vr h' K' j' i = x_vr h K' j' i)
    (v3 : ∀ j, x_live h 21 j → x_lg h' = x_lg h) (z1 : H1.size = H.size + 1) (o1 : ∀ q, q < H.size → H1[q]? = H[q]?)
    (g1 : xk_o K → t_OB (n0 + x_sz h) (D.1 K) (xk_N K) (D.2.1 K) H1 (fun k => x_cf n0 oa h' K k (x_cn h K + 1))) (g2 : xk_a K → H1[n0 + x_sz h]? = some (arrV (D.2.2 K) (x_ln h' K (x_cn h K + 1)) (fun i => x_ae n0 oa h' K (x_cn h K + 1) i)))
    (w1 : xk_o K → ∀ k, x_vr h' K k (x_cn h K + 1) = 0) (w2 : xk_a K → ∀ i, x_vr h' K (x_cn h K + 1) i = 0) : x_Rep n0 oa D h' H1 := by
  obtain ⟨a1, a2, a3, a4, a5, a6, a7⟩ := hR
  have hsp : ∀ K' j', x_live h' K' j' → x_live h K' j' ∨ (K' = K ∧ j' = x_cn h K + 1) := by
    intro K' j' ⟨q1, q2⟩
    rw [c1] at q2
    by_cases e : K' = K
    · rw [if_pos e] at q2
      by_cases e2 : j' = x_cn h K + 1
      · exact Or.inr ⟨e, e2⟩
      · exact Or.inl ⟨q1, by rw [e]; omega⟩
    · rw [if_neg e] at q2
      exact Or.inl ⟨q1, q2⟩
  have hcf : ∀ K' k j', xk_o K' → x_live h K' j' → x_cf n0 oa h' K' k j' = x_cf n0 oa h K' k j' := by
    intro K' k j' hk hj
    unfold x_cf
    rw [(v1 K' k j' hk hj).1, (v1 K' k j' hk hj).2, x_cr_le hle (a5 K' j' k hk hj)]
  have hae : ∀ K' j' i, xk_a K' → x_live h K' j' → x_ae n0 oa h' K' j' i = x_ae n0 oa h K' j' i := by
    intro K' j' i hk hj
    unfold x_ae
    rw [(v2 K' j' i hk hj).1, (v2 K' j' i hk hj).2, x_cr_le hle (a6 K' j' i hk hj)]
    by_cases e : K' = 21
    · subst e
      rw [v3 j' hj]
    · rw [if_neg e, if_neg e]
  have had : ∀ K' j', x_live h K' j' → x_ad h' K' j' = x_ad h K' j' := fun K' j' hj => hle.2.1 K' j' hj.2
  have hlt : ∀ K' j', (xk_o K' ∨ xk_a K') → x_live h K' j' → x_ad h K' j' < x_sz h := fun K' j' hk hj => hk.elim (fun hk => (a2 K' j' hk hj).1) (fun hk => (a3 K' j' hk hj).1)
  refine ⟨by rw [z1, a1, c3]; omega, fun K' j' hk hj => ?_, fun K' j' hk hj => ?_, fun K1 j1 K2 j2 b1 b2 b3 b4 b5 => ?_, fun K' j' k hk hj => ?_, fun K' j' i hk hj => ?_, ?_⟩
  · rcases hsp _ _ hj with hj | ⟨rfl, rfl⟩
    · have q := a2 K' j' hk hj
      rw [had _ _ hj, c3]
      exact ⟨by omega, t_OB.to (q.2.kept (o1 _ (by omega))) (fun k _ => (hcf K' k j' hk hj).symm)⟩
    · rw [c2, c3]
      exact ⟨by omega, g1 hk⟩
  · rcases hsp _ _ hj with hj | ⟨rfl, rfl⟩
    · have q := a3 K' j' hk hj
      rw [had _ _ hj, c3, c4 _ _ hj, o1 _ (by omega), q.2]
      exact ⟨by omega, congrArg some (congrArg (arrV _ _) (funext fun i => (hae K' j' i hk hj).symm))⟩
    · rw [c2, c3]
      exact ⟨by omega, g2 hk⟩
  · rcases hsp _ _ b3 with q1 | ⟨rfl, rfl⟩ <;> rcases hsp _ _ b4 with q2 | ⟨q3, q4⟩
    · rw [had _ _ q1, had _ _ q2] at b5
      exact a4 K1 j1 K2 j2 b1 b2 q1 q2 b5
    · subst q3; subst q4
      rw [had _ _ q1, c2] at b5
      have := hlt _ _ b1 q1
      omega
    · rw [had _ _ q2, c2] at b5
      have := hlt _ _ b2 q2
      omega
    · subst q3; subst q4
      exact ⟨rfl, rfl⟩
  · rcases hsp _ _ hj with hj | ⟨rfl, rfl⟩
    · rw [(v1 K' k j' hk hj).2]
      exact Nat.le_trans (a5 K' j' k hk hj) (hle.1 _)
    · rw [w1 hk]; exact Nat.zero_le _
  · rcases hsp _ _ hj with hj | ⟨rfl, rfl⟩
    · rw [(v2 K' j' i hk hj).2]
      exact Nat.le_trans (a6 K' j' i hk hj) (hle.1 _)
    · rw [w2 hk]; exact Nat.zero_le _
  · rw [c1, if_neg, a7]
    rintro rfl
    rcases hK with hK | hK <;> (simp only [xk_o, xk_a] at hK; omega)
theorem x_new_cn {h : xH} {K N : Nat} (K' : Nat) : x_cn (x_new h K N) K' = if K' = K then x_cn h K + 1 else x_cn h K' := rfl
theorem x_newa_cn {h : xH} {K n : Nat} (K' : Nat) : x_cn (x_newa h K n) K' = if K' = K then x_cn h K + 1 else x_cn h K' := rfl
theorem x_live_ne {h : xH} {K K' j' : Nat} (hj : x_live h K' j') : ¬ (K' = K ∧ j' = x_cn h K + 1) := by
  rintro ⟨rfl, rfl⟩
  have := hj.2
  omega
theorem x_Rep.new {n0 : Nat} {oa : Nat → Nat → Nat} {D : (Nat → ClassId) × (Nat → Nat → Nat) × (Nat → ClassId)} {h : xH} {H H1 : Heap} (hR : x_Rep n0 oa D h H) {K N : Nat} (hK : xk_o K) (z1 : H1.size = H.size + 1) (o1 : ∀ q, q < H.size → H1[q]? = H[q]?)
    (g1 : t_OB H.size (D.1 K) (xk_N K) (D.2.1 K) H1 (fun k => x_cf n0 oa (x_new h K N) K k (x_cn h K + 1))) : x_Rep n0 oa D (x_new h K N) H1 := by
  refine hR.grow (Or.inl hK) (x_le.new (x_o_ne10 hK)) x_new_cn ?_ rfl (fun _ _ _ => rfl) (fun K' k j' _ hj => ⟨?_, ?_⟩) (fun K' j' i ha hj => ⟨?_, ?_⟩) (fun _ _ => rfl) z1 o1 (fun _ => by rw [← hR.1]; exact g1) (fun ha => absurd rfl (x_o_ne_a hK ha)) (fun _ k => ?_) (fun ha => absurd rfl (x_o_ne_a hK ha))
  · show x_u2 (x_ad h) K (x_cn h K + 1) (x_sz h) K (x_cn h K + 1) = x_sz h
    unfold x_u2; rw [if_pos ⟨rfl, rfl⟩]
  · exact if_neg (x_live_ne hj)
  · exact if_neg (x_live_ne hj)
  · exact if_neg (fun z => x_o_ne_a hK ha z.1)
  · exact if_neg (fun z => x_o_ne_a hK ha z.1)
  · exact if_pos ⟨rfl, rfl⟩
theorem x_Rep.newa {n0 : Nat} {oa : Nat → Nat → Nat} {D : (Nat → ClassId) × (Nat → Nat → Nat) × (Nat → ClassId)} {h : xH} {H H1 : Heap} (hR : x_Rep n0 oa D h H) {K n : Nat} (hK : xk_a K) (h21 : K = 21 → x_cn h 21 = 0) (z1 : H1.size = H.size + 1) (o1 : ∀ q, q < H.size → H1[q]? = H[q]?)
    (g2 : H1[H.size]? = some (arrV (D.2.2 K) n (fun i => x_ae n0 oa (x_newa h K n) K (x_cn h K + 1) i))) : x_Rep n0 oa D (x_newa h K n) H1 := by
  refine hR.grow (Or.inr hK) (x_le.newa (x_a_ne10 hK)) x_newa_cn ?_ rfl (fun K' j' hj => ?_) (fun K' k j' ho hj => ⟨?_, ?_⟩) (fun K' j' i ha hj => ⟨?_, ?_⟩) (fun j hj => ?_) z1 o1 (fun ho => absurd rfl (x_o_ne_a ho hK)) (fun _ => ?_) (fun ho => absurd rfl (x_o_ne_a ho hK)) (fun _ k => ?_)
  · show x_u2 (x_ad h) K (x_cn h K + 1) (x_sz h) K (x_cn h K + 1) = x_sz h
    unfold x_u2; rw [if_pos ⟨rfl, rfl⟩]
  · show x_u2 (x_ln h) K (x_cn h K + 1) n K' j' = x_ln h K' j'
    unfold x_u2; rw [if_neg (x_live_ne hj)]
  · exact if_neg (fun z => x_o_ne_a ho hK z.1.symm)
  · exact if_neg (fun z => x_o_ne_a ho hK z.1.symm)
  · exact if_neg (x_live_ne hj)
  · exact if_neg (x_live_ne hj)
  · show (if K = 21 then 0 else x_lg h) = x_lg h
    by_cases e : K = 21
    · have := h21 e
      have := hj.1
      have := hj.2
      omega
    · rw [if_neg e]
  · rw [← hR.1, g2]
    show _ = some (arrV _ (x_u2 (x_ln h) K (x_cn h K + 1) n K (x_cn h K + 1)) _)
    unfold x_u2; rw [if_pos ⟨rfl, rfl⟩]
  · exact if_pos ⟨rfl, rfl⟩
section XS3
variable {xm : Nat → xM} {M : xM} {pc : Nat}
theorem snd_ald {K : Nat} (hK : xk_a K) (hty : xk_ety K = .int) (he : x_et K = 0) (hn21 : K ≠ 21) (hd : decode M.cd pc = .ok (.iaload, 1)) : x_Snd xm M pc (pc + 1) (x_ald K) := by
  rintro n0 oa D p l e R s m args below meth c Γ Z J q h0 ⟨ls, st, h⟩ C - hf hq - H locs fl hR hle hL h1 h2 hS hc hs
  obtain ⟨hx, hb, -, -, -, -, -, -, -, hKn, -⟩ := C
  unfold x_ald at hf
  dsimp only at hf hR hle hL h1 h2 hc hs ⊢
  split at hf
  · rename_i i t j st
    obtain ⟨rfl, hj, hin, hf⟩ := hf
    obtain ⟨-, q2⟩ := hR.2.2.1 t j hK hj
    have hin' := vp_in_iff.mpr hin
    have hlt : i.toNatClampNeg < x_ln h t j := Nat.not_le.mp fun q => hin' (Or.inr q)
    rw [List.map_cons, List.map_cons, show x_cv n0 oa h (.inr (.inr (t, j))) = _ from x_cr_in (Or.inr hK) hj]
    refine W.iald (v := .int (x_vi h t j i.toNatClampNeg)) hx hb q2 (by have := (hKn.2 t hK).1; rw [hty] at this; exact this _ _) (fun q => by cases q) (by rw [arrV_size]; exact hin') (by rw [arrV_read _ _ hlt]; unfold x_ae; rw [if_neg hn21, if_pos he]) rfl rfl hd ?_
    exact hq _ hf H locs fl hR hle hL h1 (x_lvs_cons trivial (x_tl (x_tl h2))) hS hc hs
  · exact hf.elim
theorem snd_bald {K : Nat} (hK : xk_a K) (hty : xk_ety K = .boolean) (he : x_et K = 0) (hn21 : K ≠ 21) (hd : decode M.cd pc = .ok (.baload, 1)) : x_Snd xm M pc (pc + 1) (x_ald K) := by
  rintro n0 oa D p l e R s m args below meth c Γ Z J q h0 ⟨ls, st, h⟩ C - hf hq - H locs fl hR hle hL h1 h2 hS hc hs
  obtain ⟨hx, hb, -, -, -, -, -, -, -, hKn, -⟩ := C
  unfold x_ald at hf
  dsimp only at hf hR hle hL h1 h2 hc hs ⊢
  split at hf
  · rename_i i t j st
    obtain ⟨rfl, hj, hin, hf⟩ := hf
    obtain ⟨-, q2⟩ := hR.2.2.1 t j hK hj
    have hin' := vp_in_iff.mpr hin
    have hlt : i.toNatClampNeg < x_ln h t j := Nat.not_le.mp fun q => hin' (Or.inr q)
    rw [List.map_cons, List.map_cons, show x_cv n0 oa h (.inr (.inr (t, j))) = _ from x_cr_in (Or.inr hK) hj]
    refine W.zald (v := .int (x_vi h t j i.toNatClampNeg)) hx hb q2 (by have := (hKn.2 t hK).1; rw [hty] at this; exact this _ _) (fun q => by cases q) (by rw [arrV_size]; exact hin') (by rw [arrV_read _ _ hlt]; unfold x_ae; rw [if_neg hn21, if_pos he]) rfl rfl hd ?_
    exact hq _ hf H locs fl hR hle hL h1 (x_lvs_cons trivial (x_tl (x_tl h2))) hS hc hs
  · exact hf.elim
theorem snd_aald {K T : Nat} (hK : xk_a K) (hty : (xk_ety K).isReference = true) (he : x_et K = T) (hT : T ≠ 0) (hn21 : K ≠ 21) (hd : decode M.cd pc = .ok (.aaload, 1)) : x_Snd xm M pc (pc + 1) (x_aald K T) := by
  rintro n0 oa D p l e R s m args below meth c Γ Z J q h0 ⟨ls, st, h⟩ C - hf hq - H locs fl hR hle hL h1 h2 hS hc hs
  obtain ⟨hx, hb, -, -, -, -, -, -, -, hKn, -⟩ := C
  unfold x_aald at hf
  dsimp only at hf hR hle hL h1 h2 hc hs ⊢
  split at hf
  · rename_i i t j st
    obtain ⟨rfl, hj, hin, hf⟩ := hf
    obtain ⟨-, q2⟩ := hR.2.2.1 t j hK hj
    have hin' := vp_in_iff.mpr hin
    have hlt : i.toNatClampNeg < x_ln h t j := Nat.not_le.mp fun q => hin' (Or.inr q)
    rw [List.map_cons, List.map_cons, show x_cv n0 oa h (.inr (.inr (t, j))) = _ from x_cr_in (Or.inr hK) hj]
    refine W.aald (v := x_cr n0 oa h T (x_vr h t j i.toNatClampNeg)) (ty := xk_ety t) hx hb q2 ((hKn.2 t hK).1 _ _) hty (fun q => by cases q) (by rw [arrV_size]; exact hin') (by rw [arrV_read _ _ hlt]; unfold x_ae; rw [if_neg hn21, if_neg (by rw [he]; exact hT), he]) rfl rfl hd ?_
    have hl := hR.2.2.2.2.2.1 t j i.toNatClampNeg hK hj
    rw [he] at hl
    exact hq _ hf H locs fl hR hle hL h1 (x_lvs_cons hl (x_tl (x_tl h2))) hS hc hs
  · exact hf.elim
theorem snd_alen {K : Nat} (hK : xk_a K) (hd : decode M.cd pc = .ok (.arraylength, 1)) : x_Snd xm M pc (pc + 1) (x_alen K) := by
  rintro n0 oa D p l e R s m args below meth c Γ Z J q h0 ⟨ls, st, h⟩ C - hf hq - H locs fl hR hle hL h1 h2 hS hc hs
  obtain ⟨hx, hb, -, -, -, -, -, -, -, hKn, -⟩ := C
  unfold x_alen at hf
  dsimp only at hf hR hle hL h1 h2 hc hs ⊢
  split at hf
  · rename_i t j st
    obtain ⟨rfl, hj, hf⟩ := hf
    obtain ⟨-, q2⟩ := hR.2.2.1 t j hK hj
    rw [List.map_cons, show x_cv n0 oa h (.inr (.inr (t, j))) = _ from x_cr_in (Or.inr hK) hj]
    refine W.alen (n := Int32.ofNat (x_ln h t j)) hx hb q2 ((hKn.2 t hK).1 _ _) (by rw [arrV_size]) rfl rfl hd ?_
    exact hq _ hf H locs fl hR hle hL h1 (x_lvs_cons trivial (x_tl h2)) hS hc hs
  · exact hf.elim
/-- what an array's store leaves -/
theorem x_stored {n0 : Nat} {oa : Nat → Nat → Nat} {D : (Nat → ClassId) × (Nat → Nat → Nat) × (Nat → ClassId)} {h h' : xH} {H H' : Heap} {K j i : Nat} {v : Value} (hR : x_Rep n0 oa D h H) (hK : xk_a K) (hj : x_live h K j)
    (e1 : x_cn h' = x_cn h) (e2 : x_ln h' = x_ln h) (e3 : x_ad h' = x_ad h) (e4 : x_sz h' = x_sz h)
    (f1 : ∀ K' k' j', xk_o K' → x_cf n0 oa h' K' k' j' = x_cf n0 oa h K' k' j') (f2 : ∀ K' j' i', xk_a K' → x_live h K' j' → ¬ (K' = K ∧ j' = j ∧ i' = i) → x_ae n0 oa h' K' j' i' = x_ae n0 oa h K' j' i') (f0 : x_ae n0 oa h' K j i = v)
    (l1 : ∀ K j k, xk_o K → x_live h K j → x_vr h' K k j ≤ x_cn h (x_ft K k)) (l2 : ∀ K j i, xk_a K → x_live h K j → x_vr h' K j i ≤ x_cn h (x_et K))
    (g1 : H'[n0 + x_ad h K j]? = some ((arrV (D.2.2 K) (x_ln h K j) (fun i => x_ae n0 oa h K j i)).setSlot i v)) (g2 : H'.size = H.size) (g3 : ∀ q, q ≠ n0 + x_ad h K j → H'[q]? = H[q]?) : x_Rep n0 oa D h' H' := by
  refine hR.put (K := K) (j := j) e1 e2 e3 e4 (Or.inr hK) hj g2 g3 (fun K' k' j' a _ _ => f1 K' k' j' a) (fun K' j' i' a b z => f2 K' j' i' a b (fun y => z ⟨y.1, y.2.1⟩)) (fun ho => absurd rfl (x_o_ne_a ho hK)) (fun _ => ?_) l1 l2
  rw [g1, arrV_store]
  refine congrArg some (congrArg (arrV _ _) (funext fun i' => ?_))
  unfold updV
  by_cases e9 : i' = i
  · rw [if_pos e9, e9, f0]
  · rw [if_neg e9, f2 K j i' hK hj (fun z => e9 z.2.2)]
theorem x_ast0 {n0 : Nat} {oa : Nat → Nat → Nat} {D : (Nat → ClassId) × (Nat → Nat → Nat) × (Nat → ClassId)} {h : xH} {H H' : Heap} {K j i : Nat} {n : Int32} (hR : x_Rep n0 oa D h H) (hK : xk_a K) (he : x_et K = 0) (hn21 : K ≠ 21) (hj : x_live h K j)
    (g1 : H'[n0 + x_ad h K j]? = some ((arrV (D.2.2 K) (x_ln h K j) (fun i => x_ae n0 oa h K j i)).setSlot i (.int n))) (g2 : H'.size = H.size) (g3 : ∀ q, q ≠ n0 + x_ad h K j → H'[q]? = H[q]?) : x_Rep n0 oa D (x_puti h K j i n) H' := by
  refine x_stored hR hK hj rfl rfl rfl rfl (fun K' k' j' ho => x_cf_puti (fun z => x_o_ne_a ho hK z.1.symm)) (fun K' j' i' _ _ z => x_ae_puti z) ?_ (fun K j k a b => hR.2.2.2.2.1 K j k a b) (fun K j i a b => hR.2.2.2.2.2.1 K j i a b) g1 g2 g3
  unfold x_ae
  rw [if_neg hn21, if_pos he]
  show Value.int (x_u3 (x_vi h) K j i n K j i) = _
  unfold x_u3
  rw [if_pos ⟨rfl, rfl, rfl⟩]
theorem snd_ast {K : Nat} (hK : xk_a K) (hty : xk_ety K = .int) (he : x_et K = 0) (hn21 : K ≠ 21) (hd : decode M.cd pc = .ok (.iastore, 1)) : x_Snd xm M pc (pc + 1) (x_ast K) := by
  rintro n0 oa D p l e R s m args below meth c Γ Z J q h0 ⟨ls, st, h⟩ C - hf hq - H locs fl hR hle hL h1 h2 hS hc hs
  obtain ⟨hx, hb, -, -, -, -, -, -, -, hKn, -⟩ := C
  unfold x_ast at hf
  dsimp only at hf hR hle hL h1 h2 hc hs ⊢
  split at hf
  · rename_i n i t j st
    obtain ⟨rfl, hj, hin, hf⟩ := hf
    obtain ⟨-, q2⟩ := hR.2.2.1 t j hK hj
    have hin' := vp_in_iff.mpr hin
    rw [List.map_cons, List.map_cons, List.map_cons, show x_cv n0 oa h (.inr (.inr (t, j))) = _ from x_cr_in (Or.inr hK) hj]
    refine W.iast hx hb q2 (by have := (hKn.2 t hK).1; rw [hty] at this; exact this _ _) (fun q => by cases q) (by rw [arrV_size]; exact hin') rfl rfl hd fun H' g1 g2 g3 => ?_
    have hl := x_le.puti (h := h) (k := j) (i := i.toNatClampNeg) (v := n) (x_a_ne10 hK)
    exact hq _ hf H' _ fl (x_ast0 hR hK he hn21 hj g1 g2 g3) (hle.tr hl) (hL.le hl h1) (x_lvs_le hl h1) (x_lvs_le hl (x_tl (x_tl (x_tl h2)))) (hS.put g2 g3 (Nat.le_add_right _ _)) hc hs
  · exact hf.elim
theorem snd_zst {K : Nat} (hK : xk_a K) (hty : xk_ety K = .boolean) (he : x_et K = 0) (hn21 : K ≠ 21) (hd : decode M.cd pc = .ok (.bastore, 1)) : x_Snd xm M pc (pc + 1) (x_zst K) := by
  rintro n0 oa D p l e R s m args below meth c Γ Z J q h0 ⟨ls, st, h⟩ C - hf hq - H locs fl hR hle hL h1 h2 hS hc hs
  obtain ⟨hx, hb, -, -, -, -, -, -, -, hKn, -⟩ := C
  unfold x_zst at hf
  dsimp only at hf hR hle hL h1 h2 hc hs ⊢
  split at hf
  · rename_i n i t j st
    obtain ⟨rfl, hj, hin, hz, hf⟩ := hf
    obtain ⟨-, q2⟩ := hR.2.2.1 t j hK hj
    have hin' := vp_in_iff.mpr hin
    rw [List.map_cons, List.map_cons, List.map_cons, show x_cv n0 oa h (.inr (.inr (t, j))) = _ from x_cr_in (Or.inr hK) hj]
    refine W.zast hx hb q2 (by have := (hKn.2 t hK).1; rw [hty] at this; exact this _ _) (fun q => by cases q) (by rw [arrV_size]; exact hin') rfl rfl hd fun H' g1 g2 g3 => ?_
    have hl := x_le.puti (h := h) (k := j) (i := i.toNatClampNeg) (v := n) (x_a_ne10 hK)
    rw [show narrow .boolean (.int n) = .int n by rcases hz with rfl | rfl <;> rfl] at g1
    exact hq _ hf H' _ fl (x_ast0 hR hK he hn21 hj g1 g2 g3) (hle.tr hl) (hL.le hl h1) (x_lvs_le hl h1) (x_lvs_le hl (x_tl (x_tl (x_tl h2)))) (hS.put g2 g3 (Nat.le_add_right _ _)) hc hs
  · exact hf.elim
theorem snd_aast {K T : Nat} (hK : xk_a K) (hT : xk_o T) (hty : xk_ety K = .object (xk_C T)) (he : x_et K = T) (hn21 : K ≠ 21) (hd : decode M.cd pc = .ok (.aastore, 1)) : x_Snd xm M pc (pc + 1) (x_aast K T) := by
  rintro n0 oa D p l e R s m args below meth c Γ Z J q h0 ⟨ls, st, h⟩ C - hf hq - H locs fl hR hle hL h1 h2 hS hc hs
  obtain ⟨hx, hb, -, -, -, -, -, -, -, hKn, -⟩ := C
  unfold x_aast at hf
  dsimp only at hf hR hle hL h1 h2 hc hs ⊢
  split at hf
  · rename_i t' j' i t j st
    obtain ⟨rfl, rfl, hj, hin, hf⟩ := hf
    have hT0 : t' ≠ 0 := by simp only [xk_o] at hT; omega
    obtain ⟨-, q2⟩ := hR.2.2.1 t j hK hj
    have hin' := vp_in_iff.mpr hin
    have hlt : i.toNatClampNeg < x_ln h t j := Nat.not_le.mp fun q => hin' (Or.inr q)
    have hv2 : j' ≤ x_cn h t' := h2 _ List.mem_cons_self
    have hKt := hKn.2 t hK
    rw [hty] at hKt
    rw [List.map_cons, List.map_cons, List.map_cons, show x_cv n0 oa h (.inr (.inr (t, j))) = _ from x_cr_in (Or.inr hK) hj]
    have hl := x_le.putr (h := h) (K := t) (k := j) (i := i.toNatClampNeg) (v := j')
    have fin : ∀ H' : Heap, H'[n0 + x_ad h t j]? = some ((arrV (D.2.2 t) (x_ln h t j) (fun i => x_ae n0 oa h t j i)).setSlot i.toNatClampNeg (x_cr n0 oa h t' j')) → H'.size = H.size → (∀ q, q ≠ n0 + x_ad h t j → H'[q]? = H[q]?) →
        W p l e R s m args below meth c H' (locs ++ [⟨n0 + x_ad h t j, i.toNatClampNeg⟩]) (x_ce h) (x_so h) (x_MQ n0 oa D s args below M h0 Z) (F0 m (pc + 1) fl (st.map (x_cv n0 oa h))) := by
      intro H' g1 g2 g3
      refine hq _ hf H' _ fl (x_stored hR hK hj rfl rfl rfl rfl (fun K' k' j' ho => x_cf_putr (fun z => x_o_ne_a ho hK z.1.symm)) (fun K' j' i' _ _ z => x_ae_putr z) ?_ ?_ ?_ g1 g2 g3) (hle.tr hl) (hL.le hl h1) (x_lvs_le hl h1) (x_lvs_le hl (x_tl (x_tl (x_tl h2)))) (hS.put g2 g3 (Nat.le_add_right _ _)) hc hs
      · unfold x_ae
        rw [if_neg hn21, if_neg (by rw [he]; exact hT0), he]
        show x_cr n0 oa h t' (x_u3 (x_vr h) t j i.toNatClampNeg j' t j i.toNatClampNeg) = _
        unfold x_u3
        rw [if_pos ⟨rfl, rfl, rfl⟩]
      · intro K9 j9 k9 a9 b9
        show x_u3 (x_vr h) t j i.toNatClampNeg j' K9 k9 j9 ≤ _
        unfold x_u3
        rw [if_neg (fun z => x_o_ne_a a9 hK z.1.symm)]
        exact hR.2.2.2.2.1 K9 j9 k9 a9 b9
      · intro K9 j9 i9 a9 b9
        show x_u3 (x_vr h) t j i.toNatClampNeg j' K9 j9 i9 ≤ _
        unfold x_u3
        by_cases z : K9 = t ∧ j9 = j ∧ i9 = i.toNatClampNeg
        · rw [if_pos z, z.1, he]; exact hv2
        · rw [if_neg z]; exact hR.2.2.2.2.2.1 K9 j9 i9 a9 b9
    by_cases hz : j' = 0
    · have e9 : x_cr n0 oa h t' j' = .null := by unfold x_cr; rw [if_pos hz]
      rw [show x_cv n0 oa h (.inr (.inr (t', j'))) = .null from e9]
      rw [e9] at fin
      exact va_WaastN (C := xk_C t') hx hb q2 (hKt.1 _ _) (fun h => by cases h) (by rw [arrV_size]; exact hin') rfl rfl hd fin
    · have hlv : x_live h t' j' := ⟨by omega, hv2⟩
      have e9 : x_cr n0 oa h t' j' = .ref (n0 + x_ad h t' j') := x_cr_in (Or.inl hT) hlv
      rw [show x_cv n0 oa h (.inr (.inr (t', j'))) = _ from e9]
      rw [e9] at fin
      obtain ⟨-, cellV, p1, p2, p3, -⟩ := hR.2.1 t' j' hT hlv
      have hcls := (hKn.1 t' hT).2
      obtain ⟨kA, comp, k1, k2, k3, -⟩ := hKt.2
      have hcomp : comp = D.1 t' := Option.some.inj (k3.symm.trans hcls.1)
      subst hcomp
      obtain ⟨kC, hkC, -⟩ := hcls.2
      exact W.aast hx hb q2 (fun q h => by cases h) (fun h => by cases h) k1 k2 rfl hkC ⟨fun z => hin' (Or.inl z), by rw [arrV_size]; exact hlt⟩ p1 (fun q h => by rw [p3] at h; cases h) (by rw [p2]; exact hkC) (by rw [p2]; exact va_assign hcls) rfl rfl hd fin
  · exact hf.elim
end XS3
end
section
/-! SOUND INSTRUCTIONS: making cells, ends, calls -/
section XS4
variable {xm : Nat → xM} {M : xM} {pc : Nat}
theorem x_S_grow {A : Nat → Prop} {H0 H H1 : Heap} {locs : List Loc} (hS : va_S A H0 H locs) (z1 : H.size ≤ H1.size) (o1 : ∀ q, q < H.size → H1[q]? = H[q]?) : va_S A H0 H1 locs :=
  ⟨Nat.le_trans hS.1 z1, fun x a b => (o1 x (Nat.lt_of_lt_of_le a hS.1)).trans (hS.2.1 x a b), hS.2.2⟩
theorem x_def_int {ty : FieldType} (h : ty = .int ∨ ty = .boolean) : defaultValue ty = .int 0 := by rcases h with rfl | rfl <;> rfl
theorem x_def_ref {ty : FieldType} (h : ty.isReference = true) : defaultValue ty = .null := by cases ty <;> first | rfl | (cases h)
theorem xk_ftd : ∀ K, xk_o K → ∀ k, k < xk_N K → (x_ft K k = 0 → defaultValue (xk_ty K k) = .int 0) ∧ (x_ft K k ≠ 0 → defaultValue (xk_ty K k) = .null) := by
  refine xk_cases ?_ ?_ ?_ ?_ ?_ ?_ ?_ ?_ <;> decide +kernel
theorem snd_new {K N idx bc bs : Nat} (hK : xk_o K) (hN : xk_N K = N) (hbc : bc = M.mc) (hbs : bs = M.ms) (hc1 : Cond.classLink M.own idx (xk_C K) ∈ x_big) (hc2 : Cond.instantiable (xk_C K) N ∈ x_big) (hc3 : Cond.initialized (xk_C K) ∈ x_big) (hd : decode M.cd pc = .ok (.new idx, 3)) : x_Snd xm M pc (pc + 3) (x_newo K N bc bs) := by
  rintro n0 oa D p l e R s m args below meth c Γ Z J q h0 ⟨ls, st, h⟩ C - hf hq - H locs fl hR hle hL h1 h2 hS hc hs
  obtain ⟨hx, hb, -, hown, hts, -, -, -, -, hKn, -, -, hRm, -⟩ := C
  unfold x_newo at hf
  dsimp only at hf hR hle hL h1 h2 hc hs ⊢
  obtain ⟨b1, b2, hf⟩ := hf
  subst hN; subst hbc; subst hbs; subst hRm
  refine W.newcK hx hb hown (hts _ hc1) (hts _ hc2) (hts _ hc3) rfl hd b1 b2 (hKn.1 K hK).2.1 rfl fun H1 kC hkC e1 z1 o1 => ?_
  have hl := x_le.new (h := h) (K := K) (N := xk_N K) (x_o_ne10 hK)
  have hR1 : x_Rep n0 oa D (x_new h K (xk_N K)) H1 := by
    refine hR.new hK z1 o1 ((u_born (xk_ty K) hts (xk_in K hK) (hKn.1 K hK) hkC e1 (xk_tyok K hK)).to fun k hk => ?_)
    have hft := xk_ftd K hK k hk
    unfold x_cf
    by_cases e9 : x_ft K k = 0
    · rw [if_pos e9, hft.1 e9]
      show _ = Value.int (if K = K ∧ x_cn h K + 1 = x_cn h K + 1 then 0 else x_vi h K k (x_cn h K + 1))
      rw [if_pos ⟨rfl, rfl⟩]
    · rw [if_neg e9, hft.2 e9]
      show _ = x_cr n0 oa _ _ (if K = K ∧ x_cn h K + 1 = x_cn h K + 1 then 0 else x_vr h K k (x_cn h K + 1))
      rw [if_pos ⟨rfl, rfl⟩]
      rfl
  have hlv : x_live (x_new h K (xk_N K)) K (x_cn h K + 1) := ⟨by omega, by rw [x_new_cn, if_pos rfl]; exact Nat.le_refl _⟩
  have e9 : x_cr n0 oa (x_new h K (xk_N K)) K (x_cn h K + 1) = .ref H.size := by
    rw [x_cr_in (Or.inl hK) hlv]
    show Value.ref (n0 + x_u2 (x_ad h) K (x_cn h K + 1) (x_sz h) K (x_cn h K + 1)) = _
    unfold x_u2
    rw [if_pos ⟨rfl, rfl⟩, hR.1]
  have := hq _ hf H1 locs fl hR1 (hle.tr hl) (hL.le hl h1) (x_lvs_le hl h1) (x_lvs_cons hlv.2 (x_lvs_le hl h2)) (x_S_grow hS (by omega) o1) b1 b2
  rw [List.map_cons, show x_cv n0 oa (x_new h K (xk_N K)) (.inr (.inr (K, x_cn h K + 1))) = _ from e9, x_cvs_le hl h2] at this
  exact this
theorem x_newa_done {n0 : Nat} {oa : Nat → Nat → Nat} {D : (Nat → ClassId) × (Nat → Nat → Nat) × (Nat → ClassId)} {h : xH} {H H1 : Heap} {K n : Nat} (hR : x_Rep n0 oa D h H) (hK : xk_a K) (h21 : K ≠ 21) {v : Value} (hv : (x_et K = 0 ∧ v = .int 0) ∨ (x_et K ≠ 0 ∧ v = .null))
    (e1 : H1[H.size]? = some (arrV (D.2.2 K) n (fun _ => v))) (z1 : H1.size = H.size + 1) (o1 : ∀ q, q < H.size → H1[q]? = H[q]?) :
    x_Rep n0 oa D (x_newa h K n) H1 ∧ x_live (x_newa h K n) K (x_cn h K + 1) ∧ x_cr n0 oa (x_newa h K n) K (x_cn h K + 1) = .ref H.size := by
  have hlv : x_live (x_newa h K n) K (x_cn h K + 1) := ⟨by omega, by rw [x_newa_cn, if_pos rfl]; exact Nat.le_refl _⟩
  refine ⟨hR.newa hK (fun z => absurd z h21) z1 o1 ?_, hlv, ?_⟩
  · rw [e1]
    refine congrArg some (congrArg (arrV _ _) (funext fun i => ?_))
    unfold x_ae
    rw [if_neg h21]
    rcases hv with ⟨e9, rfl⟩ | ⟨e9, rfl⟩
    · rw [if_pos e9]
      show _ = Value.int (if K = K ∧ x_cn h K + 1 = x_cn h K + 1 then 0 else x_vi h K (x_cn h K + 1) i)
      rw [if_pos ⟨rfl, rfl⟩]
    · rw [if_neg e9]
      show _ = x_cr n0 oa _ _ (if K = K ∧ x_cn h K + 1 = x_cn h K + 1 then 0 else x_vr h K (x_cn h K + 1) i)
      rw [if_pos ⟨rfl, rfl⟩]
      rfl
  · rw [x_cr_in (Or.inr hK) hlv]
    show Value.ref (n0 + x_u2 (x_ad h) K (x_cn h K + 1) (x_sz h) K (x_cn h K + 1)) = _
    unfold x_u2
    rw [if_pos ⟨rfl, rfl⟩, hR.1]
theorem x_nn {n : Int32} (h : 0 ≤ n.toInt) : ¬ n < 0 := by
  intro q
  have := Int32.lt_iff_toInt_lt.mp q
  have e0 : (0 : Int32).toInt = 0 := rfl
  omega
theorem x_clamp {n : Int32} (h : 0 ≤ n.toInt) : (n.toNatClampNeg : Int) = n.toInt := by
  have : n.toNatClampNeg = n.toInt.toNat := rfl
  omega
/-- newarray of ints or booleans -/
theorem snd_newr {K bc bs : Nat} {at9 : ArrayType} (hK : xk_a K) (h21 : K ≠ 21) (hty : newarray.typeOf at9 = xk_ety K) (hib : xk_ety K = .int ∨ xk_ety K = .boolean) (he : x_et K = 0) (hbc : bc = M.mc) (hbs : bs = M.ms) (hc1 : Cond.arrayClass (newarray.typeOf at9) ∈ x_big) (hd : decode M.cd pc = .ok (.newarray at9, 2)) : x_Snd xm M pc (pc + 2) (x_newr K bc bs) := by
  rintro n0 oa D p l e R s m args below meth c Γ Z J q h0 ⟨ls, st, h⟩ C - hf hq - H locs fl hR hle hL h1 h2 hS hc hs
  obtain ⟨hx, hb, -, hown, hts, -, -, -, -, hKn, -, -, hRm, -⟩ := C
  unfold x_newr at hf
  dsimp only at hf hR hle hL h1 h2 hc hs ⊢
  split at hf
  · rename_i n st
    obtain ⟨n1, n2, b1, b2, hf⟩ := hf
    subst hbc; subst hbs; subst hRm
    have hcl := x_clamp n1
    refine va_newaK hx hb (hts _ hc1) rfl hd rfl (x_nn n1) rfl (by have : componentBytes (newarray.typeOf at9) ≤ 8 := (by cases at9 <;> decide); have := Nat.mul_le_mul_left n.toNatClampNeg this; omega) b1 b2 rfl fun H1 cA e1 z1 o1 hAr hNm => ?_
    have hcA : cA = D.2.2 K := by
      have h9 := (hKn.2 K hK).2
      rw [hty] at hNm
      rcases hib with e | e <;> (rw [e] at h9 hNm; exact Option.some.inj (hNm.symm.trans h9))
    subst hcA
    rw [hty, x_def_int hib] at e1
    obtain ⟨hR1, hlv, e9⟩ := x_newa_done (K := K) hR hK h21 (Or.inl ⟨he, rfl⟩) e1 z1 o1
    have hl := x_le.newa (h := h) (n := n.toNatClampNeg) (x_a_ne10 hK)
    have := hq _ hf H1 locs fl hR1 (hle.tr hl) (hL.le hl h1) (x_lvs_le hl h1) (x_lvs_cons hlv.2 (x_lvs_le hl (x_tl h2))) (x_S_grow hS (by omega) o1) b1 b2
    rw [List.map_cons, show x_cv n0 oa _ (.inr (.inr (K, x_cn h K + 1))) = _ from e9, x_cvs_le hl (x_tl h2)] at this
    exact this
  · exact hf.elim
/-- anewarray -/
theorem snd_newq {K T idx bc bs : Nat} (hK : xk_a K) (h21 : K ≠ 21) (hT : xk_o T) (hty : xk_ety K = .object (xk_C T)) (he : x_et K = T) (hbc : bc = M.mc) (hbs : bs = M.ms) (hc1 : Cond.classLink M.own idx (xk_C T) ∈ x_big) (hc2 : Cond.arrayOver (.object (xk_C T)) ∈ x_big) (hd : decode M.cd pc = .ok (.anewarray idx, 3)) : x_Snd xm M pc (pc + 3) (x_newr K bc bs) := by
  rintro n0 oa D p l e R s m args below meth c Γ Z J q h0 ⟨ls, st, h⟩ C - hf hq - H locs fl hR hle hL h1 h2 hS hc hs
  obtain ⟨hx, hb, -, hown, hts, -, -, -, -, hKn, -, -, hRm, -⟩ := C
  unfold x_newr at hf
  dsimp only at hf hR hle hL h1 h2 hc hs ⊢
  split at hf
  · rename_i n st
    obtain ⟨n1, n2, b1, b2, hf⟩ := hf
    subst hbc; subst hbs; subst hRm
    have hcl := x_clamp n1
    have hT0 : T ≠ 0 := by simp only [xk_o] at hT; omega
    refine W.anew hx hb hown (hts _ hc1) (hts _ hc2) rfl hd rfl (x_nn n1) (by omega) b1 b2 fun cA kA comp f1 f2 f3 f4 => ?_
    have hcA : cA = D.2.2 K := by
      have h9 := (hKn.2 K hK).2
      rw [hty] at h9
      obtain ⟨_, _, _, _, _, h9⟩ := h9
      exact Option.some.inj (f1.symm.trans h9)
    subst hcA
    generalize hH1 : H.push ({ cls := D.2.2 K, slots := Array.replicate n.toNatClampNeg .null, vm := .none } : Cell) = H1
    have z1 : H1.size = H.size + 1 := by rw [← hH1, Array.size_push]
    have e1 : H1[H.size]? = some (arrV (D.2.2 K) n.toNatClampNeg (fun _ => .null)) := by rw [← hH1, Array.getElem?_push_size, ← arrV_new]
    have o1 : ∀ q, q < H.size → H1[q]? = H[q]? := fun q hq => by rw [← hH1, Array.getElem?_push_lt hq, Array.getElem?_eq_getElem hq]
    obtain ⟨hR1, hlv, e9⟩ := x_newa_done (K := K) hR hK h21 (Or.inr ⟨by rw [he]; exact hT0, rfl⟩) e1 z1 o1
    have hl := x_le.newa (h := h) (n := n.toNatClampNeg) (x_a_ne10 hK)
    have := hq _ hf H1 locs fl hR1 (hle.tr hl) (hL.le hl h1) (x_lvs_le hl h1) (x_lvs_cons hlv.2 (x_lvs_le hl (x_tl h2))) (x_S_grow hS (by omega) o1) b1 b2
    rw [List.map_cons, show x_cv n0 oa _ (.inr (.inr (K, x_cn h K + 1))) = _ from e9, x_cvs_le hl (x_tl h2)] at this
    exact this
  · exact hf.elim
theorem snd_objinit {idx : Nat} (hc1 : Cond.methodLink M.own idx Lib.objectInit ∈ x_big) (hc2 : Cond.instanceMethod Lib.objectInit ∈ x_big) (hc3 : Cond.code Lib.objectInit ⟨#[0xb1]⟩ 1 none ∈ x_big) (hfr : 1 ≤ M.fr) (hlo : 20 ≤ M.lo) (hd : decode M.cd pc = .ok (.invokespecial idx, 3)) : x_Snd xm M pc (pc + 3) x_objinit := by
  rintro n0 oa D p l e R s m args below meth c Γ Z J q h0 ⟨ls, st, h⟩ C - hf hq - H locs fl hR hle hL h1 h2 hS hc hs
  obtain ⟨hx, hb, hml, hown, hts, -, -, -, -, hKn, -, -, hRm, -⟩ := C
  unfold x_objinit at hf
  dsimp only at hf hR hle hL h1 h2 hc hs ⊢
  split at hf
  · rename_i t j st
    obtain ⟨t1, t2, t3, hf⟩ := hf
    subst hRm
    have e9 : x_cr n0 oa h t j = .ref (x_addr n0 oa h t j) := by unfold x_cr; rw [if_neg (by omega)]
    rw [List.map_cons, show x_cv n0 oa h (.inr (.inr (t, j))) = _ from e9]
    refine W.objInit hx hb hown (hts _ hc1) (hts _ hc2) (hts _ hc3) rfl (by rw [hml]; exact hL.2.1) rfl hd hfr (by have := x_cats_eq (n0 := n0) (oa := oa) (h := h) st; show 2 * 0 + _ + 12 ≤ M.lo; omega) ?_
    exact hq _ hf H locs fl hR hle hL h1 (x_tl h2) hS hc hs
  · exact hf.elim
theorem x_fl {n0 : Nat} {s : State} {H : Heap} {locs : List Loc} (hS : va_S (fun q => n0 ≤ q) s.heap H locs) : ∀ q ∈ locs, (fun q : Nat => n0 ≤ q) q.base := hS.2.2
theorem snd_ret (hrt : M.rt = none) (hd : decode M.cd pc = .ok (.return_, 1)) : x_Snd xm M pc (pc + 1) x_ret := by
  rintro n0 oa D p l e R s m args below meth c Γ Z J q h0 ⟨ls, st, h⟩ C - hf - - H locs fl hR hle hL h1 h2 hS hc hs
  obtain ⟨hx, hb, hml, hown, hts, hr, hlocks, -⟩ := C
  unfold x_ret at hf
  dsimp only at hf hR hle hL h1 h2 hc hs ⊢
  split at hf
  · refine W.widen hc hs (vx_ret (W.vret hx hb (hr.trans hrt) (fun t ht hW => ?_) (x_fl hS) hd hlocks))
    exact ⟨none, h, hf, rfl, by rw [ht]; exact hR, hle, (fun w hw => by cases hw), hS.F ht⟩
  · exact hf.elim
theorem snd_iret (hrt : M.rt = some .int) (hd : decode M.cd pc = .ok (.ireturn, 1)) : x_Snd xm M pc (pc + 1) x_iret := by
  rintro n0 oa D p l e R s m args below meth c Γ Z J q h0 ⟨ls, st, h⟩ C - hf - - H locs fl hR hle hL h1 h2 hS hc hs
  obtain ⟨hx, hb, hml, hown, hts, hr, hlocks, -⟩ := C
  unfold x_iret at hf
  dsimp only at hf hR hle hL h1 h2 hc hs ⊢
  split at hf
  · rename_i n
    refine W.widen hc hs (vx_ret (W.iret hx hb (hr.trans hrt) (fun t ht hW => ?_) (x_fl hS) hd hlocks))
    exact ⟨some (.inl n), h, hf, rfl, by rw [ht]; exact hR, hle, fun w hw => by cases hw; trivial, hS.F ht⟩
  · exact hf.elim
theorem snd_zret (hrt : M.rt = some .boolean) (hd : decode M.cd pc = .ok (.ireturn, 1)) : x_Snd xm M pc (pc + 1) x_zret := by
  rintro n0 oa D p l e R s m args below meth c Γ Z J q h0 ⟨ls, st, h⟩ C - hf - - H locs fl hR hle hL h1 h2 hS hc hs
  obtain ⟨hx, hb, hml, hown, hts, hr, hlocks, -⟩ := C
  unfold x_zret at hf
  dsimp only at hf hR hle hL h1 h2 hc hs ⊢
  split at hf
  · rename_i n
    refine W.widen hc hs (vx_ret (W.zret hx hb (hr.trans hrt) (by rcases hf.1 with rfl | rfl <;> rfl) (fun t ht hW => ?_) (x_fl hS) hd hlocks))
    exact ⟨some (.inl n), h, hf.2, rfl, by rw [ht]; exact hR, hle, fun w hw => by cases hw; trivial, hS.F ht⟩
  · exact hf.elim
theorem snd_aret {T : Nat} {rt : FieldType} (hrt : M.rt = some rt) (hrr : (∃ n, rt = .object n) ∨ ∃ t, rt = .array t) (hd : decode M.cd pc = .ok (.areturn, 1)) : x_Snd xm M pc (pc + 1) (x_aret T) := by
  rintro n0 oa D p l e R s m args below meth c Γ Z J q h0 ⟨ls, st, h⟩ C - hf - - H locs fl hR hle hL h1 h2 hS hc hs
  obtain ⟨hx, hb, hml, hown, hts, hr, hlocks, -⟩ := C
  unfold x_aret at hf
  dsimp only at hf hR hle hL h1 h2 hc hs ⊢
  split at hf
  · rename_i t j
    refine W.widen hc hs (vx_ret (W.aret hx hb (hr.trans hrt) hrr (x_cr_or n0 oa h t j) (fun t' ht hW => ?_) (x_fl hS) hd hlocks))
    exact ⟨some (.inr (.inr (t, j))), h, hf.2, rfl, by rw [ht]; exact hR, hle, fun w hw => by cases hw; exact h2 _ List.mem_cons_self, hS.F ht⟩
  · exact hf.elim
end XS4
end
section
/-! SOUND INSTRUCTIONS: throws and calls -/
theorem x_goodIn {l : List Cond} (h : ∀ w ∈ l, w ∈ x_big) : GoodIn x_big l := fun w hw => ⟨h w hw, good_of_word (List.mem_filter.mp (h w hw)).2⟩
theorem x_ws_in {M : xM} (h : Cond.code M.y M.cd M.mL M.rt ∈ x_big) : ∀ w ∈ x_ws M, w ∈ x_big := fun w hw => (List.mem_cons.mp hw).elim (fun e => e ▸ h) id
theorem x_Pc_blind {n0 : Nat} {oa : Nat → Nat → Nat} {D : (Nat → ClassId) × (Nat → Nat → Nat) × (Nat → ClassId)} {a : List xV} {h : xH} : FrameBlind (x_Pc n0 oa D a h) := by
  intro args U g mk ⟨q1, q2, q3, q4, q5⟩
  exact ⟨q1, q2, x_K.moved (u := U) (U := U.calling g mk args) (Vm.Alike.refl U.vm) q3, x_St.moved (u := U) (U := U.calling g mk args) (State.WarmedH.refl U) q4, q5⟩
section XS5
variable {xm : Nat → xM} {M : xM} {pc : Nat}
theorem snd_throw {E ik ic bc bs : Nat} (hbc : bc = M.mc) (hbs : bs = M.ms) (hfr : 6 ≤ M.fr) (hlo : 89 ≤ M.lo) (hcls : Bundle.fit (x_en E) = true) (hnames : ∀ n ∈ x_chain, Bundle.fit n = true)
    (hk : Cond.classLink M.own ik (x_en E) ∈ x_big) (hini : Cond.initialized (x_en E) ∈ x_big) (h1g : ∀ w ∈ (vx_at0 M.own ic (x_en E) x_chain).filter goodWord, w ∈ x_big) (h2g : ∀ w ∈ (vx_at0 M.own ic (x_en E) x_chain).filter (fun w => !goodWord w), w ∈ Cond.castable (x_en E) (x_en E) :: x_nw)
    (hgood : ∀ w ∈ Cond.classLink M.own ik (x_en E) :: Cond.initialized (x_en E) :: vx_at0 M.own ic (x_en E) x_chain, vx_ot w = true)
    (d0 : decode M.cd pc = .ok (.new ik, 3)) (d3 : decode M.cd (pc + 3) = .ok (.dup, 1)) (d4 : decode M.cd (pc + 4) = .ok (.invokespecial ic, 3)) (d7 : decode M.cd (pc + 7) = .ok (.athrow, 1)) {nx : Nat} : x_Snd xm M pc nx (x_throw E bc bs) := by
  rintro n0 oa D p l e R s m args below meth c Γ Z J q h0 ⟨ls, st, h⟩ C - hf - - H locs fl hR hle hL h1 h2 hS hc hs
  obtain ⟨hx, hb, hml, hown, hts, hr, hlocks, -, htab, hKn, hSt, hn0, hRm, hl⟩ := C
  unfold x_throw at hf
  dsimp only at hf hR hle hL h1 h2 hc hs ⊢
  obtain ⟨t1, t2, t3, hf⟩ := hf
  subst hbc; subst hbs; subst hRm
  have hcats := x_cats_eq (n0 := n0) (oa := oa) (h := h) st
  refine vx_throw0 (names := x_chain) (A := fun q => n0 ≤ q) hx hb hl hown hcls hnames (hts _ hk) (hts _ hini) (vx_hat (B := Cond.castable (x_en E) (x_en E) :: x_nw) (fun w hw => hts w (h1g w hw)) h2g (fun w hw => ?_)) hgood hSt.2.2.1 hSt.2.2.2.1 hS (by rw [hml]; exact hL.2.1) d0 d3 d4 d7 (by rw [htab]; exact fun x hx => nomatch hx) ?_ ?_ t2 t3 hlocks (fun t hal hz ho => ?_) (x_fl hS) t2 t3
  · rcases List.mem_cons.mp hw with rfl | hw
    · exact va_Nw.use rfl (hSt.2.2.2.2.2.2.2 E)
    · have h9 := hSt.2.2.2.2.2.2.1 w hw
      simp only [x_nw, List.mem_cons, List.not_mem_nil, or_false] at hw
      rcases hw with rfl | rfl | rfl <;> exact va_Nw.use rfl h9
  · show 2 + 3 < M.fr
    omega
  · show _ + (13 * (2 + 1) + 42) ≤ M.lo
    omega
  · refine ⟨E, x_exc h (t.heap.size - H.size), hf _, rfl, ?_, hle.tr x_le.exc, ?_⟩
    · obtain ⟨a1, a2, a3, a4, a5, a6, a7⟩ := hR
      refine ⟨?_, fun K j hK hj => ?_, fun K j hK hj => ?_, a4, a5, a6, a7⟩
      · show t.heap.size = n0 + (x_sz h + (t.heap.size - H.size))
        omega
      · have q9 := a2 K j hK hj
        exact ⟨Nat.lt_of_lt_of_le q9.1 (Nat.le_add_right _ _), q9.2.kept (ho _ (by have := q9.1; omega))⟩
      · have q9 := a3 K j hK hj
        exact ⟨Nat.lt_of_lt_of_le q9.1 (Nat.le_add_right _ _), (ho (n0 + x_ad h K j) (by have := q9.1; omega)).trans q9.2⟩
    · exact ⟨Nat.le_trans hS.1 hz, fun x a b => (ho x (Nat.lt_of_lt_of_le a hS.1)).trans (hS.2.1 x a b)⟩
/-- behind a call -/
theorem x_after {n0 : Nat} {oa : Nat → Nat → Nat} {D : (Nat → ClassId) × (Nat → Nat → Nat) × (Nat → ClassId)} {p : Program} {l : Launch} {e : Env} {R : Room} {s : State} {m : MethodId} {args : Array Value} {below : List Frame} {meth : Method} {c : Code} {h0 : xH} {Z Zc : xO → xH → Prop}
    (C : x_Cx n0 oa D M h0 p l R s m args meth c) {h : xH} {H : Heap} {locs : List Loc} {fl : Array Slot} {ls rest : List xV} {st0 : List Value} {mc ms : Nat}
    (hR : x_Rep n0 oa D h H) (hle : x_le h0 h) (hL : x_Loc (x_cv n0 oa h) fl M.mL ls) (h1 : ∀ v ∈ ls, x_lv h v) (h2 : ∀ v ∈ rest, x_lv h v) (hS : va_S (fun q => n0 ≤ q) s.heap H locs) (b1 : x_ce h + mc ≤ M.mc) (b2 : x_so h + ms ≤ M.ms)
    (hrun : vx_Run p l e R s m args below meth c H locs (x_ce h) (x_so h) mc ms (F0 m pc fl st0) (rest.map (x_cv n0 oa h)) (fun st o t => x_Qc n0 oa D (x_setc h 0 0) Zc #[] st o t) (x_XC n0 oa D (x_setc h 0 0) Zc) (fun q => n0 ≤ q))
    (kq : ∀ v h1, Zc (.inl v) h1 → x_At n0 oa D p l e R s m args below meth c M h0 (x_MQ n0 oa D s args below M h0 Z) (pc + 3) (ls, v.toList ++ rest, x_setc h1 (x_ce h + mc) (x_so h + ms)))
    (kx : ∀ k h1, Zc (.inr k) h1 → Z (.inr k) (x_setc h1 (x_ce h + mc) (x_so h + ms))) :
    W p l e R s m args below meth c H locs (x_ce h) (x_so h) (x_MQ n0 oa D s args below M h0 Z) (F0 m pc fl st0) := by
  obtain ⟨hx, hb, hml, hown, hts, hr, hlocks, -, htab, hKn, hSt, hn0, hRm, hl⟩ := C
  intro T hT X
  rcases hrun T hT X with ⟨v, st₀, t, T', L, e0, X', hL', e1, e2, ⟨v', h9, hz, ho, hR1, hle1, hlv, hF⟩, go⟩ | ⟨q, st₀, t, T', L, E, ce, e0, X', hL', e1, e2, ⟨k, h9, hz, hE, hR1, hle1, hF⟩, hce, hcv, hcl, go⟩
  · have hv : v = v'.map (x_cv n0 oa h9) := by cases ho; rfl
    subst hv
    have hl9 : x_le h h9 := x_le.tr x_le.setc hle1
    have hl8 : x_le h (x_setc h9 (x_ce h + mc) (x_so h + ms)) := hl9.tr x_le.setc
    obtain ⟨hz1, hk1⟩ := hF
    rw [e0] at hz1 hk1
    have hS1 : va_S (fun q => n0 ≤ q) s.heap T'.heap (locs ++ L) := ⟨Nat.le_trans hS.1 (by rw [e1]; exact hz1), fun x a b => by rw [e1, hk1 x (Nat.lt_of_lt_of_le a hS.1) b]; exact hS.2.1 x a b, fun x hx => (List.mem_append.mp hx).elim (hS.2.2 x) (hL' x)⟩
    have := kq v' h9 hz T'.heap (locs ++ L) fl (by rw [e1]; exact hR1) (hle.tr hl8) (hL.le hl8 h1) (x_lvs_le hl8 h1) (fun w hw => (List.mem_append.mp hw).elim (fun h => hlv w (Option.mem_toList.mp h)) (fun h => x_lvs_le hl8 h2 w h)) hS1 b1 b2 T' rfl X'
    obtain ⟨t2, c1, c2⟩ := this
    refine ⟨t2, go t2 ?_, c2⟩
    have e9 : (v'.toList ++ rest).map (x_cv n0 oa (x_setc h9 (x_ce h + mc) (x_so h + ms))) = (v'.map (x_cv n0 oa h9)).toList ++ rest.map (x_cv n0 oa h) := by
      rw [List.map_append, x_cvs_le hl8 h2]
      cases v' <;> rfl
    dsimp only at c1
    rw [e9] at c1
    exact c1
  · have hl9 : x_le h h9 := x_le.tr x_le.setc hle1
    obtain ⟨hz1, hk1⟩ := hF
    rw [e0] at hz1 hk1
    have hS1 : va_S (fun q => n0 ≤ q) s.heap T'.heap (locs ++ L) := ⟨Nat.le_trans hS.1 (by rw [e1]; exact hz1), fun x a b => by rw [e1, hk1 x (Nat.lt_of_lt_of_le a hS.1) b]; exact hS.2.1 x a b, fun x hx => (List.mem_append.mp hx).elim (hS.2.2 x) (hL' x)⟩
    have hout := vx_out (p := p) (l := l) (e := e) (R := R) (s := s) (m := m) (args := args) (below := below) (meth := meth) (c := c) (H := T'.heap) (locs := locs ++ L) (cells := x_ce h + mc) (slots := x_so h + ms) (ls := fl) (rest := rest.map (x_cv n0 oa h)) (Qc := x_Qc n0 oa D h0 Z) (XC := x_XC n0 oa D h0 Z) (free := fun q => n0 ≤ q) (pc := pc) (E := E) (ce := ce) (q := q) (mc := M.mc) (ms := M.ms)
      (by rw [htab]; exact fun x hx => nomatch hx) hlocks (by rw [e1]; exact hce) hcv hcl (fun t9 ht9 hal => ⟨k, x_setc h9 (x_ce h + mc) (x_so h + ms), kx k h9 hz, hE, by rw [ht9, e1]; exact hR1, hle.tr (hl9.tr x_le.setc), hS1.F ht9⟩) (x_fl hS1) b1 b2
    obtain ⟨t2, c1, c2⟩ := hout T' rfl X'
    exact ⟨t2, go.trans c1, c2⟩
theorem x_take_drop {st : List xV} {n : Nat} : st = ((st.take n).reverse).reverse ++ st.drop n := by rw [List.reverse_reverse, List.take_append_drop]
theorem snd_calls {y n mc ms bc bs idx : Nat} {M' : xM} (hy : xm y = M') (hmc : mc = M'.mc) (hms : ms = M'.ms) (hbc : bc = M.mc) (hbs : bs = M.ms) (w1 : Cond.code M'.y M'.cd M'.mL M'.rt ∈ x_big) (w2 : Cond.methodLink M.own idx M'.y ∈ x_big) (w3 : Cond.static M'.y ∈ x_big) (w4 : Cond.initialized M'.y.cls ∈ x_big)
    (hd0 : M'.y.cls ≠ "java/lang/invoke/MethodHandle" ∧ M'.y.cls ≠ "java/lang/invoke/VarHandle" ∧ (parseMethodDescriptor M'.y.desc).map (fun d => d.parameters.length) = some n) (hfr : M'.fr + 1 ≤ M.fr) (hlo : 8 + (M'.mL + 11) + M'.lo ≤ M.lo)
    (hd : decode M.cd pc = .ok (.invokestatic idx, 3)) : x_Snd xm M pc (pc + 3) (x_call y n mc ms bc bs) := by
  rintro n0 oa D p l e R s m args below meth c Γ Z J q h0 ⟨ls, st, h⟩ C hΓ hf hq - H locs fl hR hle hL h1 h2 hS hc hs
  unfold x_call at hf
  dsimp only at hf hR hle hL h1 h2 hc hs ⊢
  obtain ⟨t1, t2, t3, t4, hf⟩ := hf
  have hcon := hΓ _ _ _ _ hf
  rw [hy] at hcon
  subst hmc; subst hms; subst hbc; subst hbs
  obtain ⟨hx, hb, hml, hown, hts, hr, hlocks, hini, htab, hKn, hSt, hn0, hRm, hl⟩ := id C
  have hlv : ∀ v ∈ (st.take n).reverse, x_lv (x_setc h 0 0) v := fun v hv => h2 v (List.mem_of_mem_take (List.mem_reverse.mp hv))
  have hM := hcon l hl hlv
  refine x_after (Zc := fun o h9 => match o with
    | .inl v => q (ls, v.toList ++ st.drop n, x_setc h9 (x_ce h + M'.mc) (x_so h + M'.ms))
    | .inr k => Z (.inr k) (x_setc h9 (x_ce h + M'.mc) (x_so h + M'.ms))) C hR hle hL h1 (fun v hv => h2 v (List.mem_of_mem_drop hv)) hS t3 t4 ?_ (fun v h9 hz => hq _ hz) (fun k h9 hz => hz)
  refine vx_runS (n := n) (As := (st.take n).reverse.map (x_cv n0 oa h)) (Ts := x_big) (own := M.own) ⟨hx, hb, hml, hown, hts⟩ hM ⟨callB_of n hts (x_goodIn (x_ws_in w1)) rfl rfl rfl (hts _ w4) (hts _ w2) hd0 ⟨by rw [hRm]; exact hfr, by rw [hRm]; exact hlo⟩, hts _ w3⟩ ⟨x_Pc_blind, fun U hU hW => ?_⟩ rfl (by simp [t1]) hL.2.1 ?_ ?_ hd ⟨by rw [hRm]; exact t3, by rw [hRm]; exact t4⟩
  · refine ⟨rfl, by rw [hU]; exact hR, x_K.moved hW.alike hKn, ?_, by rw [hU]; exact Nat.le_trans hn0 hS.1⟩
    rw [hU]
    have e1 : x_ln (x_setc h 0 0) 10 1 = x_ln h0 10 1 := congrFun hle.2.2.2 1
    have e2 : x_vi (x_setc h 0 0) 10 1 = x_vi h0 10 1 := congrFun hle.2.2.1 1
    rw [e1, e2]
    exact x_St.moved hW (hSt.kept hn0 hS.2.1)
  · show st.map (x_cv n0 oa h) = _
    rw [← List.map_reverse, ← List.map_append, ← x_take_drop]
  · have := x_cats_eq (n0 := n0) (oa := oa) (h := h) (st.drop n)
    show 2 * 0 + _ ≤ 8
    omega
theorem x_head_drop {st : List xV} {n : Nat} (h1 : 1 ≤ n) (hn : n ≤ st.length) {v : xV} (hv : (st.drop (n - 1)).head? = some v) : (st.take n).reverse = v :: (st.take (n - 1)).reverse ∧ st = (st.take (n - 1)) ++ v :: st.drop n ∧ v ∈ st := by
  obtain ⟨k, rfl⟩ : ∃ k, n = k + 1 := ⟨n - 1, by omega⟩
  rw [Nat.add_sub_cancel] at hv ⊢
  have hlt : k < st.length := by omega
  rw [List.head?_drop, List.getElem?_eq_getElem hlt] at hv
  have hv := Option.some.inj hv
  refine ⟨?_, ?_, ?_⟩
  · rw [List.take_succ, List.getElem?_eq_getElem hlt, hv, List.reverse_append]
    rfl
  · rw [← hv, List.getElem_cons_drop, List.take_append_drop]
  · rw [← hv]; exact List.getElem_mem hlt
theorem snd_callv {K y n mc ms bc bs idx : Nat} {M' : xM} (hy : xm y = M') (hK : xk_o K) (hmc : mc = M'.mc) (hms : ms = M'.ms) (hbc : bc = M.mc) (hbs : bs = M.ms) (w1 : Cond.code M'.y M'.cd M'.mL M'.rt ∈ x_big) (w2 : Cond.methodLink M.own idx M'.y ∈ x_big) (w3 : Cond.instanceMethod M'.y ∈ x_big) (w4 : Cond.initialized M'.y.cls ∈ x_big) (w5 : Cond.selects (xk_C K) M'.y M'.y ∈ x_big)
    (hd0 : M'.y.cls ≠ "java/lang/invoke/MethodHandle" ∧ M'.y.cls ≠ "java/lang/invoke/VarHandle" ∧ (parseMethodDescriptor M'.y.desc).map (fun d => d.parameters.length) = some (n - 1)) (hfr : M'.fr + 1 ≤ M.fr) (hlo : 8 + (M'.mL + 11) + M'.lo ≤ M.lo)
    (hd : decode M.cd pc = .ok (.invokevirtual idx, 3)) : x_Snd xm M pc (pc + 3) (x_callv K y n mc ms bc bs) := by
  rintro n0 oa D p l e R s m args below meth c Γ Z J q h0 ⟨ls, st, h⟩ C hΓ hf hq - H locs fl hR hle hL h1 h2 hS hc hs
  unfold x_callv x_call at hf
  dsimp only at hf hR hle hL h1 h2 hc hs ⊢
  obtain ⟨hrecv, t1, t2, t3, t4, hf⟩ := hf
  have hcon := hΓ _ _ _ _ hf
  rw [hy] at hcon
  subst hmc; subst hms; subst hbc; subst hbs
  obtain ⟨hx, hb, hml, hown, hts, hr, hlocks, hini, htab, hKn, hSt, hn0, hRm, hl⟩ := id C
  split at hrecv
  · rename_i t j hhd
    obtain ⟨hn1, rfl, hj⟩ := hrecv
    obtain ⟨d1, d2, d3⟩ := x_head_drop hn1 t1 hhd
    have hlv : ∀ v ∈ (st.take n).reverse, x_lv (x_setc h 0 0) v := fun v hv => h2 v (List.mem_of_mem_take (List.mem_reverse.mp hv))
    have hM := hcon l hl hlv
    have e9 : x_cv n0 oa h (.inr (.inr (t, j))) = .ref (n0 + x_ad h t j) := x_cr_in (Or.inl hK) hj
    obtain ⟨-, cellB, p1, p2, p3, -⟩ := hR.2.1 t j hK hj
    refine x_after (Zc := fun o h9 => match o with
    | .inl v => q (ls, v.toList ++ st.drop n, x_setc h9 (x_ce h + M'.mc) (x_so h + M'.ms))
    | .inr k => Z (.inr k) (x_setc h9 (x_ce h + M'.mc) (x_so h + M'.ms))) C hR hle hL h1 (fun v hv => h2 v (List.mem_of_mem_drop hv)) hS t3 t4 ?_ (fun v h9 hz => hq _ hz) (fun k h9 hz => hz)
    refine vx_runV (n := n - 1) (As := (st.take (n - 1)).reverse.map (x_cv n0 oa h)) (b := n0 + x_ad h t j) (C := xk_C t) (Ts := x_big) (own := M.own) ⟨hx, hb, hml, hown, hts⟩ hM ⟨callB_of (n - 1) hts (x_goodIn (x_ws_in w1)) rfl rfl rfl (hts _ w4) (hts _ w2) hd0 ⟨by rw [hRm]; exact hfr, by rw [hRm]; exact hlo⟩, hts _ w3, hts _ w5⟩ ⟨x_Pc_blind, ⟨cellB, p1, by rw [p3]; rfl, by rw [p2]; exact (hKn.1 t hK).2.1⟩, fun U hU hW => ?_⟩ rfl (by simp; omega) hL.2.1 ?_ ?_ hd ⟨by rw [hRm]; exact t3, by rw [hRm]; exact t4⟩
    · refine ⟨?_, by rw [hU]; exact hR, x_K.moved hW.alike hKn, ?_, by rw [hU]; exact Nat.le_trans hn0 hS.1⟩
      · rw [d1, List.map_cons]
        show _ = (x_cv n0 oa h (.inr (.inr (t, j))) :: _).toArray
        rw [e9]
        rfl
      · rw [hU]
        have e1 : x_ln (x_setc h 0 0) 10 1 = x_ln h0 10 1 := congrFun hle.2.2.2 1
        have e2 : x_vi (x_setc h 0 0) 10 1 = x_vi h0 10 1 := congrFun hle.2.2.1 1
        rw [e1, e2]
        exact x_St.moved hW (hSt.kept hn0 hS.2.1)
    · show st.map (x_cv n0 oa h) = _
      rw [← List.map_reverse, List.reverse_reverse, ← e9, ← List.map_cons, ← List.map_append, ← d2]
    · have := x_cats_eq (n0 := n0) (oa := oa) (h := h) (st.drop n)
      show 2 * 0 + _ ≤ 8
      omega
  · exact hrecv.elim
theorem x_noThrow {l : Launch} {y : MethodName} {ws : List Cond} {rm : Room} {Pc : Array Value → State → Prop} {Qc : Array Value → State → Outcome → State → Prop} {XC : String → State → State → Prop} {mc ms : Nat} {free : Addr → Prop} (hX : ∀ E st t, ¬ XC E st t) (h : vx_Met l y ws rm Pc Qc XC mc ms free) : Met l y ws rm Pc Qc mc ms free := by
  intro p e a1 a2 a3 s m args below a4 a5 a6 a7
  obtain ⟨n, o, b1, b2, b3, b4⟩ := h p e a1 a2 a3 s m args below a4 a5 a6 a7
  refine ⟨n, o, b1, b2, b3, ?_⟩
  rcases b4 with b4 | ⟨q, -, E, ce, L, hx, -⟩
  · exact b4
  · exact (hX _ _ _ hx).elim
theorem snd_calli {y n mc ms bc bs idx : Nat} {M' : xM} (hy : xm y = M') (hmc : mc = M'.mc) (hms : ms = M'.ms) (hbc : bc = M.mc) (hbs : bs = M.ms) (hrt : M'.rt = none) (hnm : M'.y.name = "<init>") (w1 : Cond.code M'.y M'.cd M'.mL M'.rt ∈ x_big) (w2 : Cond.methodLink M.own idx M'.y ∈ x_big) (w3 : Cond.instanceMethod M'.y ∈ x_big) (w4 : Cond.initialized M'.y.cls ∈ x_big)
    (hd0 : M'.y.cls ≠ "java/lang/invoke/MethodHandle" ∧ M'.y.cls ≠ "java/lang/invoke/VarHandle" ∧ (parseMethodDescriptor M'.y.desc).map (fun d => d.parameters.length) = some (n - 1)) (hfr : M'.fr + 1 ≤ M.fr) (hlo : 8 + (M'.mL + 11) + M'.lo ≤ M.lo)
    (hd : decode M.cd pc = .ok (.invokespecial idx, 3)) : x_Snd xm M pc (pc + 3) (x_calli y n mc ms bc bs) := by
  rintro n0 oa D p l e R s m args below meth c Γ Z J q h0 ⟨ls, st, h⟩ C hΓ hf hq - H locs fl hR hle hL h1 h2 hS hc hs
  unfold x_calli at hf
  dsimp only at hf hR hle hL h1 h2 hc hs ⊢
  obtain ⟨t1, hn1, t2, t3, t4, hrecv, hf⟩ := hf
  have hcon := hΓ _ _ _ _ hf
  rw [hy] at hcon
  subst hmc; subst hms; subst hbc; subst hbs
  obtain ⟨hx, hb, hml, hown, hts, hr, hlocks, hini, htab, hKn, hSt, hn0, hRm, hl⟩ := id C
  split at hrecv
  · rename_i t j hhd
    obtain ⟨d1, d2, d3⟩ := x_head_drop hn1 t1 hhd
    have hlv : ∀ v ∈ (st.take n).reverse, x_lv (x_setc h 0 0) v := fun v hv => h2 v (List.mem_of_mem_take (List.mem_reverse.mp hv))
    have hM := x_noThrow (fun E st9 t9 hX => by obtain ⟨k, h9, hz, -⟩ := hX; exact hz) (hcon l hl hlv)
    have e9 : x_cv n0 oa h (.inr (.inr (t, j))) = .ref (x_addr n0 oa h t j) := by
      show x_cr n0 oa h t j = _
      unfold x_cr
      rw [if_neg (by omega)]
    refine x_after (Zc := fun o h9 => match o with
    | .inl v => q (ls, v.toList ++ st.drop n, x_setc h9 (x_ce h + M'.mc) (x_so h + M'.ms))
    | .inr _ => False) C hR hle hL h1 (fun v hv => h2 v (List.mem_of_mem_drop hv)) hS t3 t4 ?_ (fun v h9 hz => hq _ hz) (fun k h9 hz => hz.elim)
    rw [hrt] at w1
    have hws : x_ws M' = Cond.code M'.y M'.cd M'.mL none :: x_big := by unfold x_ws; rw [hrt]
    have hrun := va_runI (R := R) (n := n - 1) (As := (st.take (n - 1)).reverse.map (x_cv n0 oa h)) (rest := (st.drop n).map (x_cv n0 oa h)) (b := x_addr n0 oa h t j) (Ts := x_big) (own := M.own) (H := H) (locs := locs) (cells := x_ce h) (slots := x_so h) (e := e) (below := below) (meth := meth) (g := F0 m pc fl (st.map (x_cv n0 oa h))) ⟨hx, hb, hml, hown, hts⟩ hM ⟨callB_of (n - 1) hts (x_goodIn (x_ws_in (by rw [hrt]; exact w1))) hws rfl rfl (hts _ w4) (hts _ w2) hd0 ⟨by rw [hRm]; exact hfr, by rw [hRm]; exact hlo⟩, hnm, hts _ w3⟩ ⟨x_Pc_blind, fun U hU hW => ⟨by
        rw [d1, List.map_cons]
        show _ = (x_cv n0 oa h (.inr (.inr (t, j))) :: _).toArray
        rw [e9]
        rfl, by rw [hU]; exact hR, x_K.moved hW.alike hKn, by
        rw [hU]
        have e1 : x_ln (x_setc h 0 0) 10 1 = x_ln h0 10 1 := congrFun hle.2.2.2 1
        have e2 : x_vi (x_setc h 0 0) 10 1 = x_vi h0 10 1 := congrFun hle.2.2.1 1
        rw [e1, e2]
        exact x_St.moved hW (hSt.kept hn0 hS.2.1), by rw [hU]; exact Nat.le_trans hn0 hS.1⟩⟩ rfl (by simp; omega) hL.2.1 (by
        show st.map (x_cv n0 oa h) = _
        rw [← List.map_reverse, List.reverse_reverse, ← e9, ← List.map_cons, ← List.map_append, ← d2]) (by
        have := x_cats_eq (n0 := n0) (oa := oa) (h := h) (st.drop n)
        show 2 * 0 + _ ≤ 8
        omega) hd ⟨by rw [hRm]; exact t3, by rw [hRm]; exact t4⟩
    intro T hT X
    obtain ⟨v, st₀, t', T', L, e0, X', hL', e1, e2, hQ, go⟩ := hrun T hT X
    exact Or.inl ⟨v, st₀, t', T', L, e0, X', hL', e1, e2, hQ, go⟩
  · exact hrecv.elim
end XS5
end
section
/-! THE MACHINE IS SOUND -/
def x_argok (n : Nat) (a : List xV) : Bool := decide (a.length ≤ n) && a.all (fun v => x_cat v == 1)
def x_init (n : Nat) (a : List xV) : List xV := a ++ List.replicate (n - a.length) (.inr (.inr (0, 0)))
/-- the method μ from pc on comes to an end with Z, within n blocks -/
def x_wp (xm : Nat → xM) (cd : Nat → Nat → List (Nat × xI)) : Nat → Nat → Nat → xS → (xO → xH → Prop) → Prop
  | 0, _, _, _, _ => False
  | n + 1, μ, pc, S, Z => x_seq (cd μ pc) (fun μ' a h Z' => x_argok (xm μ').mL a = true ∧ x_ce h = 0 ∧ x_so h = 0 ∧ x_wp xm cd n μ' 0 (x_init (xm μ').mL a, [], h) Z') Z (fun pc' S' => x_wp xm cd n μ pc' S' Z) S
def x_okL (xm : Nat → xM) (M : xM) : Nat → List (Nat × xI) → Prop
  | _, [] => True
  | pc, f :: r => x_Snd xm M pc f.1 f.2 ∧ x_okL xm M f.1 r
/-- a method whose name and class are as they must be -/
def x_okM (M : xM) : Prop := plainName M.y.cls = true ∧ M.own = M.y.cls ∧ (M.ini = true → M.y.name = "<init>")
theorem x_seq_snd {xm : Nat → xM} {M : xM} {n0 : Nat} {oa : Nat → Nat → Nat} {D : (Nat → ClassId) × (Nat → Nat → Nat) × (Nat → ClassId)} {p : Program} {l : Launch} {e : Env} {R : Room} {s : State} {m : MethodId} {args : Array Value} {below : List Frame} {meth : Method} {c : Code} {Γ : xG} {Z : xO → xH → Prop} {J : Nat → xS → Prop} {h0 : xH}
    (C : x_Cx n0 oa D M h0 p l R s m args meth c) (hΓ : ∀ μ a h Z', Γ μ a h Z' → x_Con n0 oa D (xm μ) a h Z') (hJ : ∀ pc' S', J pc' S' → x_At n0 oa D p l e R s m args below meth c M h0 (x_MQ n0 oa D s args below M h0 Z) pc' S') :
    ∀ (L : List (Nat × xI)) (pc : Nat) (S : xS), x_okL xm M pc L → x_seq L Γ Z J S → x_At n0 oa D p l e R s m args below meth c M h0 (x_MQ n0 oa D s args below M h0 Z) pc S
  | [], _, _, _, h => h.elim
  | f :: r, pc, S, hok, h => hok.1 n0 oa D p l e R s m args below meth c Γ Z J _ h0 S C hΓ h (fun S' h' => x_seq_snd C hΓ hJ r f.1 S' hok.2 h') hJ
theorem x_args_at : ∀ (vs : List Value) (k i : Nat) (v : Value), (∀ w ∈ vs, w.category = 1) → vs[i]? = some v → (k + i, v) ∈ lv_args k vs
  | [], _, _, _, _, h => by simp at h
  | w :: r, k, i, v, hc, h => by
    have hw := hc w List.mem_cons_self
    unfold lv_args
    match i, h with
    | 0, h =>
      cases h
      exact List.mem_cons_self
    | i + 1, h =>
      refine List.mem_cons_of_mem _ ?_
      have := x_args_at r (k + 1) i v (fun w hw => hc w (List.mem_cons_of_mem _ hw)) (by simpa using h)
      rw [hw]
      rw [show k + (i + 1) = k + 1 + i by omega]
      exact this
theorem x_entry {n0 : Nat} {oa : Nat → Nat → Nat} {h : xH} {n : Nat} {a : List xV} (hok : x_argok n a = true) (m : MethodId) :
    ∃ fl : Array Slot, entryFrame m ((a.map (x_cv n0 oa h)).toArray) n = F0 m 0 fl [] ∧ x_Loc (x_cv n0 oa h) fl n (x_init n a) := by
  simp only [x_argok, Bool.and_eq_true, decide_eq_true_eq, List.all_eq_true, beq_iff_eq] at hok
  have hcat : ∀ w ∈ a.map (x_cv n0 oa h), w.category = 1 := by
    intro w hw
    obtain ⟨v, hv, rfl⟩ := List.mem_map.mp hw
    rw [x_cv_cat]
    exact hok.2 v hv
  have hsl : ∀ vs : List Value, (∀ w ∈ vs, w.category = 1) → (lg_sl vs).length = vs.length := by
    intro vs
    induction vs with
    | nil => intro _; rfl
    | cons v r ih =>
      intro hc
      have hv := hc v List.mem_cons_self
      have := ih (fun w hw => hc w (List.mem_cons_of_mem _ hw))
      simp only [lg_sl, List.flatMap_cons, hv] at this ⊢
      simp at this ⊢
      omega
  have hlen := hsl _ hcat
  rw [List.length_map] at hlen
  rw [lg_entry_eq]
  refine ⟨_, rfl, ?_, ?_⟩
  · unfold x_init
    rw [List.length_append, List.length_replicate]
    omega
  · have hl := lv_entry (a.map (x_cv n0 oa h)) (n := n) (by rw [hlen]; exact hok.1)
    refine ⟨hl.1, hl.2.1, ?_⟩
    rintro ⟨i, w⟩ hq
    obtain ⟨v, hv, hs, rfl⟩ := x_prs_mem.mp hq
    unfold x_init at hv
    by_cases hi : i < a.length
    · rw [List.getElem?_append_left hi] at hv
      refine hl.2.2 (i, x_cv n0 oa h v) ?_
      have := x_args_at (a.map (x_cv n0 oa h)) 0 i (x_cv n0 oa h v) hcat (by rw [List.getElem?_map, hv]; rfl)
      rw [Nat.zero_add] at this
      exact this
    · rw [List.getElem?_append_right (by omega)] at hv
      have := List.mem_of_getElem? hv
      rw [List.eq_of_mem_replicate this] at hs
      cases hs
theorem x_con_of {M : xM} {n0 : Nat} {oa : Nat → Nat → Nat} {D : (Nat → ClassId) × (Nat → Nat → Nat) × (Nat → ClassId)} {a : List xV} {h : xH} {Z : xO → xH → Prop} (hM : x_okM M) (hok : x_argok M.mL a = true) (hc0 : x_ce h = 0) (hs0 : x_so h = 0)
    (body : ∀ (p : Program) (l : Launch) (e : Env) (R : Room) (s : State) (m : MethodId) (args : Array Value) (below : List Frame) (meth : Method) (c : Code), x_Cx n0 oa D M h p l R s m args meth c → x_At n0 oa D p l e R s m args below meth c M h (x_MQ n0 oa D s args below M h Z) 0 (x_init M.mL a, [], h)) : x_Con n0 oa D M a h Z := by
  intro l hl hlv
  refine vx_ofW (cc := M.cd) (maxL := M.mL) (ret := M.rt) hM.1 rfl ?_
  intro p e s m args below meth c s₁ B hml htab hPc
  obtain ⟨rfl, hR, hK, hSt, hn0⟩ := hPc
  have hts : ∀ w ∈ x_ws M, w.before _ s = true := atoms_spec (ws := x_ws M) B.pre
  have hown : s.vm.findClass M.y.cls = some m.cls := findClass_of_methodNamed B.named
  have hnm : meth.name = M.y.name := (name_of_methodNamed B.named B.method).1
  have C : x_Cx n0 oa D M h p l (headSpec (x_ws M) (x_rm M)).room s m ((a.map (x_cv n0 oa h)).toArray) meth c :=
    ⟨B.exec, B.bytes, hml, by rw [hM.2.1]; exact hown, fun w hw => hts w (List.mem_cons_of_mem _ hw), B.returns, B.notSynchronized, fun q => hnm.trans (hM.2.2 q), List.eq_nil_iff_forall_not_mem.mpr htab, hK, hSt, hn0, rfl, hl⟩
  obtain ⟨fl, e1, hL⟩ := x_entry (n0 := n0) (oa := oa) (h := h) hok m
  rw [e1]
  have := body p l e _ s m _ below meth c C s.heap [] fl hR x_le.rf hL (fun v hv => ?_) (fun v hv => by cases hv) va_S.rf (by show x_ce h ≤ _; omega) (by show x_so h ≤ _; omega)
  · dsimp only at this
    rw [hc0, hs0] at this
    exact this
  · rcases List.mem_append.mp hv with hv | hv
    · exact hlv v hv
    · rw [List.eq_of_mem_replicate hv]
      exact Nat.zero_le _
theorem x_main {xm : Nat → xM} {cd : Nat → Nat → List (Nat × xI)} (hM : ∀ μ, x_okM (xm μ)) (hcd : ∀ μ pc, x_okL xm (xm μ) pc (cd μ pc)) :
    ∀ (n μ pc : Nat) (S : xS) (Z : xO → xH → Prop), x_wp xm cd n μ pc S Z → ∀ (n0 : Nat) (oa : Nat → Nat → Nat) (D : (Nat → ClassId) × (Nat → Nat → Nat) × (Nat → ClassId)) (p : Program) (l : Launch) (e : Env) (R : Room) (s : State) (m : MethodId) (args : Array Value) (below : List Frame) (meth : Method) (c : Code) (h0 : xH),
      x_Cx n0 oa D (xm μ) h0 p l R s m args meth c → x_At n0 oa D p l e R s m args below meth c (xm μ) h0 (x_MQ n0 oa D s args below (xm μ) h0 Z) pc S
  | 0, _, _, _, _, h => h.elim
  | n + 1, μ, pc, S, Z, h => fun n0 oa D p l e R s m args below meth c h0 C =>
    x_seq_snd C (fun μ' a h' Z' hΓ => x_con_of (hM μ') hΓ.1 hΓ.2.1 hΓ.2.2.1 (fun p l e R s m args below meth c C' => x_main hM hcd n μ' 0 _ Z' hΓ.2.2.2 n0 oa D p l e R s m args below meth c h' C')) (fun pc' S' hJ => x_main hM hcd n μ pc' S' Z hJ n0 oa D p l e R s m args below meth c h0 C) (cd μ pc) pc S (hcd μ pc) h
end
