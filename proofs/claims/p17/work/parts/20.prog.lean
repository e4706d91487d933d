/-! THE PROGRAM: methods, blocks of instructions (printed by gen_code.py out of the decoded listing) -/
theorem ko_1 : xk_o 1 := ⟨by decide, by decide⟩
theorem ko_2 : xk_o 2 := ⟨by decide, by decide⟩
theorem ko_3 : xk_o 3 := ⟨by decide, by decide⟩
theorem ko_4 : xk_o 4 := ⟨by decide, by decide⟩
theorem ko_5 : xk_o 5 := ⟨by decide, by decide⟩
theorem ko_6 : xk_o 6 := ⟨by decide, by decide⟩
theorem ko_7 : xk_o 7 := ⟨by decide, by decide⟩
theorem ko_8 : xk_o 8 := ⟨by decide, by decide⟩
theorem ka_11 : xk_a 11 := ⟨by decide, by decide⟩
theorem ka_12 : xk_a 12 := ⟨by decide, by decide⟩
theorem ka_13 : xk_a 13 := ⟨by decide, by decide⟩
theorem ka_14 : xk_a 14 := ⟨by decide, by decide⟩
theorem ka_15 : xk_a 15 := ⟨by decide, by decide⟩
theorem ka_16 : xk_a 16 := ⟨by decide, by decide⟩
theorem ka_17 : xk_a 17 := ⟨by decide, by decide⟩
theorem ka_18 : xk_a 18 := ⟨by decide, by decide⟩
theorem ka_19 : xk_a 19 := ⟨by decide, by decide⟩
theorem ka_20 : xk_a 20 := ⟨by decide, by decide⟩
theorem ka_21 : xk_a 21 := ⟨by decide, by decide⟩
theorem ka_22 : xk_a 22 := ⟨by decide, by decide⟩
theorem ka_23 : xk_a 23 := ⟨by decide, by decide⟩
theorem ka_24 : xk_a 24 := ⟨by decide, by decide⟩
theorem ka_25 : xk_a 25 := ⟨by decide, by decide⟩
theorem ka_26 : xk_a 26 := ⟨by decide, by decide⟩
theorem ka_27 : xk_a 27 := ⟨by decide, by decide⟩
theorem ka_28 : xk_a 28 := ⟨by decide, by decide⟩
theorem ka_29 : xk_a 29 := ⟨by decide, by decide⟩
theorem ka_30 : xk_a 30 := ⟨by decide, by decide⟩
theorem ka_31 : xk_a 31 := ⟨by decide, by decide⟩
theorem ka_32 : xk_a 32 := ⟨by decide, by decide⟩
theorem ka_33 : xk_a 33 := ⟨by decide, by decide⟩
theorem ka_34 : xk_a 34 := ⟨by decide, by decide⟩
theorem ka_35 : xk_a 35 := ⟨by decide, by decide⟩
theorem ka_36 : xk_a 36 := ⟨by decide, by decide⟩
theorem ka_37 : xk_a 37 := ⟨by decide, by decide⟩
theorem ka_38 : xk_a 38 := ⟨by decide, by decide⟩
theorem ka_39 : xk_a 39 := ⟨by decide, by decide⟩
theorem ka_40 : xk_a 40 := ⟨by decide, by decide⟩
theorem ka_41 : xk_a 41 := ⟨by decide, by decide⟩
theorem ka_42 : xk_a 42 := ⟨by decide, by decide⟩
theorem ka_43 : xk_a 43 := ⟨by decide, by decide⟩
theorem ka_44 : xk_a 44 := ⟨by decide, by decide⟩
theorem ka_45 : xk_a 45 := ⟨by decide, by decide⟩
theorem ka_46 : xk_a 46 := ⟨by decide, by decide⟩
theorem ka_47 : xk_a 47 := ⟨by decide, by decide⟩
theorem ka_48 : xk_a 48 := ⟨by decide, by decide⟩
theorem ka_49 : xk_a 49 := ⟨by decide, by decide⟩
theorem ka_50 : xk_a 50 := ⟨by decide, by decide⟩
theorem ka_51 : xk_a 51 := ⟨by decide, by decide⟩
theorem ka_52 : xk_a 52 := ⟨by decide, by decide⟩
theorem ka_53 : xk_a 53 := ⟨by decide, by decide⟩
theorem ka_54 : xk_a 54 := ⟨by decide, by decide⟩
theorem ka_55 : xk_a 55 := ⟨by decide, by decide⟩
theorem ka_56 : xk_a 56 := ⟨by decide, by decide⟩
theorem ka_57 : xk_a 57 := ⟨by decide, by decide⟩
theorem ka_58 : xk_a 58 := ⟨by decide, by decide⟩
theorem ka_59 : xk_a 59 := ⟨by decide, by decide⟩
theorem ka_60 : xk_a 60 := ⟨by decide, by decide⟩
theorem ka_61 : xk_a 61 := ⟨by decide, by decide⟩
theorem ka_62 : xk_a 62 := ⟨by decide, by decide⟩
theorem ka_63 : xk_a 63 := ⟨by decide, by decide⟩
theorem ka_64 : xk_a 64 := ⟨by decide, by decide⟩
def xm_0 : xM := (yX4_init, cX4_init, 2, none, RX4, 1, 20, 1, 24, true)
def xm_1 : xM := (yX0_init, cX0_init, 2, none, RX0, 2, 41, 2, 26, true)
def xm_2 : xM := (yX0_goTo, cX0_goTo, 2, none, RX0, 0, 0, 0, 0, false)
def xm_3 : xM := (yX0_startAnew, cX0_startAnew, 2, none, RX0, 1, 21, 0, 0, false)
def xm_4 : xM := (yX0_hasBeenAt, cX0_hasBeenAt, 2, (some .boolean), RX0, 0, 0, 0, 0, false)
def xm_5 : xM := (yX0_calledIsLifted, cX0_calledIsLifted, 1, (some .boolean), RX0, 0, 0, 0, 0, false)
def xm_6 : xM := (yX0_units, cX0_units, 1, (some .int), RX0, 0, 0, 0, 0, false)
def xm_7 : xM := (yX0_period, cX0_period, 1, (some .int), RX0, 0, 0, 0, 0, false)
def xm_8 : xM := (yX1_init, cX1_init, 3, none, RX1, 1, 20, 0, 0, true)
def xm_9 : xM := (yX1_name, cX1_name, 1, (some .int), RX1, 0, 0, 0, 0, false)
def xm_10 : xM := (yX1_firstLink, cX1_firstLink, 1, (some .int), RX1, 0, 0, 0, 0, false)
def xm_11 : xM := (yX1_isFree, cX1_isFree, 1, (some .boolean), RX1, 0, 0, 0, 0, false)
def xm_12 : xM := (yX1_leaveCall, cX1_leaveCall, 2, none, RX1, 0, 0, 0, 0, false)
def xm_13 : xM := (yX2_init, cX2_init, 3, none, RX2, 2, 42, 40, 373, true)
def xm_14 : xM := (yX2_code, cX2_code, 2, (some .int), RX2, 0, 0, 0, 0, false)
def xm_15 : xM := (yX2_routeNamed, cX2_routeNamed, 3, (some (.object "CrossbarNet$Route")), RX2, 0, 0, 0, 0, false)
def xm_16 : xM := (yX7_beginsWith, cX7_beginsWith, 3, (some .boolean), RX7, 0, 0, 0, 0, false)
def xm_17 : xM := (yX2_routeOf, cX2_routeOf, 3, (some (.object "CrossbarNet$Route")), RX2, 1, 22, 0, 0, false)
def xm_18 : xM := (yX2_canBecomePrefix, cX2_canBecomePrefix, 3, (some .boolean), RX2, 1, 22, 0, 0, false)
def xm_19 : xM := (yX2_hasRoomFor, cX2_hasRoomFor, 2, (some .boolean), RX2, 2, 44, 0, 0, false)
def xm_20 : xM := (yX2_addRoute, cX2_addRoute, 2, none, RX2, 0, 0, 0, 0, false)
def xm_21 : xM := (yX4_has, cX4_has, 3, (some .boolean), RX4, 0, 0, 0, 0, false)
def xm_22 : xM := (yX2_isInAHunt, cX2_isInAHunt, 3, (some .boolean), RX2, 1, 22, 0, 0, false)
def xm_23 : xM := (yX4_at, cX4_at, 2, (some .int), RX4, 0, 0, 0, 0, false)
def xm_24 : xM := (yX4_size, cX4_size, 1, (some .int), RX4, 0, 0, 0, 0, false)
def xm_25 : xM := (yX7_isWithin, cX7_isWithin, 3, (some .boolean), RX7, 0, 0, 0, 0, false)
def xm_26 : xM := (yX7_isLine, cX7_isLine, 1, (some .boolean), RX7, 1, 22, 0, 0, false)
def xm_27 : xM := (yX2_firstFree, cX2_firstFree, 5, (some .int), RX2, 2, 42, 0, 0, false)
def xm_28 : xM := (yX2_huntFrom, cX2_huntFrom, 3, (some .int), RX2, 3, 66, 0, 0, false)
def xm_29 : xM := (yX2_firstIdle, cX2_firstIdle, 4, (some .int), RX2, 0, 0, 0, 0, false)
def xm_30 : xM := (yX2_countIdle, cX2_countIdle, 5, (some .int), RX2, 0, 0, 0, 0, false)
def xm_31 : xM := (yX2_idleLink, cX2_idleLink, 6, (some .int), RX2, 1, 20, 0, 0, false)
def xm_32 : xM := (yX3_init, cX3_init, 3, none, RX3, 2, 41, 2, 26, true)
def xm_33 : xM := (yX3_canHave, cX3_canHave, 2, (some .boolean), RX3, 1, 22, 0, 0, false)
def xm_34 : xM := (yX7_countDigits, cX7_countDigits, 3, (some .int), RX7, 0, 0, 0, 0, false)
def xm_35 : xM := (yX3_digitsBehind, cX3_digitsBehind, 2, (some .int), RX3, 1, 22, 0, 0, false)
def xm_36 : xM := (yX3_lineBehind, cX3_lineBehind, 4, (some .int), RX3, 2, 43, 0, 0, false)
def xm_37 : xM := (yX4_add, cX4_add, 2, none, RX4, 0, 0, 0, 0, false)
def xm_38 : xM := (yX4_remove, cX4_remove, 4, none, RX4, 0, 0, 0, 0, false)
def xm_39 : xM := (yX4_clear, cX4_clear, 1, none, RX4, 0, 0, 0, 0, false)
def xm_40 : xM := (yX6_init, cX6_init, 3, none, RX6, 1, 20, 0, 0, true)
def xm_41 : xM := (yX6_isReady, cX6_isReady, 1, (some .boolean), RX6, 0, 0, 0, 0, false)
def xm_42 : xM := (yX6_endsAt, cX6_endsAt, 2, (some .boolean), RX6, 0, 0, 0, 0, false)
def xm_43 : xM := (yX7_init, cX7_init, 3, none, RX7, 3, 64, 1000, 6000, true)
def xm_44 : xM := (yX7_isOffice, cX7_isOffice, 1, (some .boolean), RX7, 1, 22, 0, 0, false)
def xm_45 : xM := (yX7_need, cX7_need, 1, none, RX7, 6, 89, 1, 6, false)
def xm_46 : xM := (yX7_allow, cX7_allow, 1, none, RX7, 6, 89, 1, 6, false)
def xm_47 : xM := (yX7_trunk, cX7_trunk, 3, (some .int), RX7, 7, 109, 3, 16, false)
def xm_48 : xM := (yX7_isPrefix, cX7_isPrefix, 1, (some .boolean), RX7, 1, 22, 0, 0, false)
def xm_49 : xM := (yX7_route, cX7_route, 8, (some .int), RX7, 7, 109, 7, 55, false)
def xm_50 : xM := (yX7_hunt, cX7_hunt, 5, (some .int), RX7, 7, 109, 2, 12, false)
def xm_51 : xM := (yX7_lineOf, cX7_lineOf, 3, (some (.object "CrossbarNet$Line")), RX7, 7, 109, 1, 6, false)
def xm_52 : xM := (yX7_setHolder, cX7_setHolder, 5, none, RX7, 0, 0, 0, 0, false)
def xm_53 : xM := (yX7_seize, cX7_seize, 3, none, RX7, 1, 24, 0, 0, false)
def xm_54 : xM := (yX7_beginCall, cX7_beginCall, 5, none, RX7, 2, 46, 0, 0, false)
def xm_55 : xM := (yX7_askForRegister, cX7_askForRegister, 4, none, RX7, 3, 70, 0, 0, false)
def xm_56 : xM := (yX7_charge, cX7_charge, 2, none, RX7, 1, 20, 0, 0, false)
def xm_57 : xM := (yX7_answer, cX7_answer, 2, none, RX7, 2, 41, 0, 0, false)
def xm_58 : xM := (yX7_lift, cX7_lift, 5, none, RX7, 8, 131, 2, 12, false)
def xm_59 : xM := (yX7_end, cX7_end, 4, none, RX7, 1, 24, 0, 0, false)
def xm_60 : xM := (yX7_hang, cX7_hang, 5, none, RX7, 8, 131, 2, 12, false)
def xm_61 : xM := (yX7_makeJob, cX7_makeJob, 3, none, RX7, 1, 21, 0, 0, false)
def xm_62 : xM := (yX7_takeDigit, cX7_takeDigit, 5, none, RX7, 2, 47, 0, 0, false)
def xm_63 : xM := (yX7_dial, cX7_dial, 6, (some .boolean), RX7, 8, 131, 3, 18, false)
def xm_64 : xM := (yX7_seizeLink, cX7_seizeLink, 4, (some .boolean), RX7, 2, 46, 0, 0, false)
def xm_65 : xM := (yX7_seizeWayWithin, cX7_seizeWayWithin, 8, (some .boolean), RX7, 3, 69, 0, 0, false)
def xm_66 : xM := (yX7_release, cX7_release, 3, none, RX7, 1, 24, 0, 0, false)
def xm_67 : xM := (yX7_callLine, cX7_callLine, 6, none, RX7, 4, 96, 0, 0, false)
def xm_68 : xM := (yX7_firstIdleTrunk, cX7_firstIdleTrunk, 4, (some .int), RX7, 1, 21, 0, 0, false)
def xm_69 : xM := (yX7_seizeOnward, cX7_seizeOnward, 6, (some .boolean), RX7, 3, 69, 0, 0, false)
def xm_70 : xM := (yX7_sendOnward, cX7_sendOnward, 6, none, RX7, 4, 94, 0, 0, false)
def xm_71 : xM := (yX7_doOldestJob, cX7_doOldestJob, 5, none, RX7, 5, 121, 0, 0, false)
def xm_72 : xM := (yX7_sendDigit, cX7_sendDigit, 2, none, RX7, 2, 46, 0, 0, false)
def xm_73 : xM := (yX7_sendDigits, cX7_sendDigits, 4, none, RX7, 3, 67, 0, 0, false)
def xm_74 : xM := (yX7_waitForDigit, cX7_waitForDigit, 2, none, RX7, 2, 47, 0, 0, false)
def xm_75 : xM := (yX7_spendTalkTick, cX7_spendTalkTick, 3, none, RX7, 2, 47, 0, 0, false)
def xm_76 : xM := (yX7_letTimePass, cX7_letTimePass, 3, none, RX7, 3, 69, 0, 0, false)
def xm_77 : xM := (yX7_giveRegisters, cX7_giveRegisters, 5, none, RX7, 3, 70, 0, 0, false)
def xm_78 : xM := (yX7_tick, cX7_tick, 4, none, RX7, 7, 145, 1, 6, false)
def xm_79 : xM := (yX7_out, cX7_out, 5, (some .boolean), RX7, 7, 109, 1, 6, false)
def xm_80 : xM := (yX7_hold, cX7_hold, 6, (some .boolean), RX7, 8, 131, 1, 6, false)
def xm_81 : xM := (yX7_tone, cX7_tone, 3, (some .int), RX7, 8, 131, 1, 6, false)
def xm_82 : xM := (yX7_rings, cX7_rings, 5, (some .boolean), RX7, 8, 131, 1, 6, false)
def xm_83 : xM := (yX7_talks, cX7_talks, 5, (some .int), RX7, 8, 131, 1, 6, false)
def xm_84 : xM := (yX7_meter, cX7_meter, 3, (some .int), RX7, 8, 131, 1, 6, false)
def xm_85 : xM := (yX7_seized, cX7_seized, 6, (some .int), RX7, 8, 131, 2, 12, false)
def xm_86 : xM := (yX7_countIdleTrunks, cX7_countIdleTrunks, 4, (some .int), RX7, 1, 21, 0, 0, false)
def xm_87 : xM := (yX7_idle, cX7_idle, 4, (some .int), RX7, 7, 109, 2, 12, false)
def xm_88 : xM := (yX7_overflow, cX7_overflow, 3, (some .int), RX7, 7, 109, 1, 6, false)
def xm_89 : xM := (yX8_init, cX8_init, 2, none, RX8, 1, 20, 43, 3970, true)
def xm_90 : xM := (yX8_thrown, cX8_thrown, 1, (some .int), RX8, 0, 0, 0, 0, false)
def xm_91 : xM := (yX8_refused, cX8_refused, 2, (some .boolean), RX8, 0, 0, 0, 0, false)
def xm_92 : xM := (yX8_isIn, cX8_isIn, 3, (some .boolean), RX8, 0, 0, 0, 0, false)
def xm_93 : xM := (yX8_isLine, cX8_isLine, 2, (some .boolean), RX8, 1, 22, 0, 0, false)
def xm_94 : xM := (yX8_trunk, cX8_trunk, 3, (some .int), RX8, 1, 22, 0, 0, false)
def xm_95 : xM := (yX8_sizeOf, cX8_sizeOf, 1, (some .int), RX8, 0, 0, 0, 0, false)
def xm_96 : xM := (yX8_overlap, cX8_overlap, 4, (some .boolean), RX8, 1, 20, 0, 0, false)
def xm_97 : xM := (yX8_route, cX8_route, 12, (some .int), RX8, 2, 43, 0, 0, false)
def xm_98 : xM := (yX8_hunt, cX8_hunt, 7, (some .int), RX8, 2, 43, 0, 0, false)
def xm_99 : xM := (yX8_give, cX8_give, 5, none, RX8, 0, 0, 0, 0, false)
def xm_100 : xM := (yX8_seize, cX8_seize, 3, none, RX8, 1, 24, 0, 0, false)
def xm_101 : xM := (yX8_release, cX8_release, 5, none, RX8, 1, 24, 0, 0, false)
def xm_102 : xM := (yX8_dropJob, cX8_dropJob, 5, none, RX8, 0, 0, 0, 0, false)
def xm_103 : xM := (yX8_addJob, cX8_addJob, 3, none, RX8, 0, 0, 0, 0, false)
def xm_104 : xM := (yX8_end, cX8_end, 2, none, RX8, 2, 48, 0, 0, false)
def xm_105 : xM := (yX8_fail, cX8_fail, 3, none, RX8, 3, 69, 0, 0, false)
def xm_106 : xM := (yX8_over, cX8_over, 4, none, RX8, 3, 69, 0, 0, false)
def xm_107 : xM := (yX8_idleRegister, cX8_idleRegister, 4, (some .int), RX8, 0, 0, 0, 0, false)
def xm_108 : xM := (yX8_doesWait, cX8_doesWait, 4, (some .boolean), RX8, 0, 0, 0, 0, false)
def xm_109 : xM := (yX8_begin, cX8_begin, 4, none, RX8, 2, 46, 0, 0, false)
def xm_110 : xM := (yX8_lift, cX8_lift, 5, none, RX8, 3, 69, 0, 0, false)
def xm_111 : xM := (yX8_hang, cX8_hang, 4, none, RX8, 4, 92, 0, 0, false)
def xm_112 : xM := (yX8_fits, cX8_fits, 7, (some .boolean), RX8, 1, 20, 0, 0, false)
def xm_113 : xM := (yX8_mayBecome, cX8_mayBecome, 4, (some .boolean), RX8, 2, 46, 0, 0, false)
def xm_114 : xM := (yX8_prefixFor, cX8_prefixFor, 5, (some .int), RX8, 2, 46, 0, 0, false)
def xm_115 : xM := (yX8_dial, cX8_dial, 9, (some .boolean), RX8, 4, 91, 0, 0, false)
def xm_116 : xM := (yX8_isFree, cX8_isFree, 2, (some .boolean), RX8, 0, 0, 0, 0, false)
def xm_117 : xM := (yX8_hunted, cX8_hunted, 5, (some .int), RX8, 1, 21, 0, 0, false)
def xm_118 : xM := (yX8_link, cX8_link, 3, (some .int), RX8, 0, 0, 0, 0, false)
def xm_119 : xM := (yX8_findWay, cX8_findWay, 10, (some .boolean), RX8, 1, 22, 0, 0, false)
def xm_120 : xM := (yX8_idleJunctor, cX8_idleJunctor, 4, (some .int), RX8, 0, 0, 0, 0, false)
def xm_121 : xM := (yX8_complete, cX8_complete, 7, none, RX8, 4, 91, 0, 0, false)
def xm_122 : xM := (yX8_idleTrunk, cX8_idleTrunk, 6, (some .int), RX8, 0, 0, 0, 0, false)
def xm_123 : xM := (yX8_forward, cX8_forward, 9, none, RX8, 4, 91, 0, 0, false)
def xm_124 : xM := (yX8_doJob, cX8_doJob, 5, none, RX8, 5, 119, 0, 0, false)
def xm_125 : xM := (yX8_send, cX8_send, 4, none, RX8, 2, 48, 0, 0, false)
def xm_126 : xM := (yX8_pass, cX8_pass, 3, none, RX8, 4, 92, 0, 0, false)
def xm_127 : xM := (yX8_hand, cX8_hand, 4, none, RX8, 3, 69, 0, 0, false)
def xm_128 : xM := (yX8_one, cX8_one, 2, none, RX8, 6, 143, 0, 0, false)
def xm_129 : xM := (yX8_tick, cX8_tick, 3, none, RX8, 7, 164, 0, 0, false)
def xm_130 : xM := (yX8_out, cX8_out, 4, (some .boolean), RX8, 4, 92, 0, 0, false)
def xm_131 : xM := (yX8_hold, cX8_hold, 5, (some .boolean), RX8, 4, 92, 0, 0, false)
def xm_132 : xM := (yX8_tone, cX8_tone, 4, (some .int), RX8, 2, 43, 0, 0, false)
def xm_133 : xM := (yX8_rings, cX8_rings, 4, (some .boolean), RX8, 2, 43, 0, 0, false)
def xm_134 : xM := (yX8_talks, cX8_talks, 6, (some .int), RX8, 2, 43, 0, 0, false)
def xm_135 : xM := (yX8_meter, cX8_meter, 3, (some .int), RX8, 2, 43, 0, 0, false)
def xm_136 : xM := (yX8_seized, cX8_seized, 5, (some .int), RX8, 2, 43, 0, 0, false)
def xm_137 : xM := (yX8_idle, cX8_idle, 5, (some .int), RX8, 1, 22, 0, 0, false)
def xm_138 : xM := (yX8_overflow, cX8_overflow, 3, (some .int), RX8, 1, 22, 0, 0, false)
def x_ml : List xM := [xm_0, xm_1, xm_2, xm_3, xm_4, xm_5, xm_6, xm_7, xm_8, xm_9, xm_10, xm_11, xm_12, xm_13, xm_14, xm_15, xm_16, xm_17, xm_18, xm_19, xm_20, xm_21, xm_22, xm_23, xm_24, xm_25, xm_26, xm_27, xm_28, xm_29, xm_30, xm_31, xm_32, xm_33, xm_34, xm_35, xm_36, xm_37, xm_38, xm_39, xm_40, xm_41, xm_42, xm_43, xm_44, xm_45, xm_46, xm_47, xm_48, xm_49, xm_50, xm_51, xm_52, xm_53, xm_54, xm_55, xm_56, xm_57, xm_58, xm_59, xm_60, xm_61, xm_62, xm_63, xm_64, xm_65, xm_66, xm_67, xm_68, xm_69, xm_70, xm_71, xm_72, xm_73, xm_74, xm_75, xm_76, xm_77, xm_78, xm_79, xm_80, xm_81, xm_82, xm_83, xm_84, xm_85, xm_86, xm_87, xm_88, xm_89, xm_90, xm_91, xm_92, xm_93, xm_94, xm_95, xm_96, xm_97, xm_98, xm_99, xm_100, xm_101, xm_102, xm_103, xm_104, xm_105, xm_106, xm_107, xm_108, xm_109, xm_110, xm_111, xm_112, xm_113, xm_114, xm_115, xm_116, xm_117, xm_118, xm_119, xm_120, xm_121, xm_122, xm_123, xm_124, xm_125, xm_126, xm_127, xm_128, xm_129, xm_130, xm_131, xm_132, xm_133, xm_134, xm_135, xm_136, xm_137, xm_138]
def x_xm (μ : Nat) : xM := (x_ml[μ]?).getD xm_0
def b0_0 : List (Nat × xI) := [(1, x_aload 0), (4, x_objinit), (5, x_aload 0), (6, x_iload 1), (8, x_newr 20 1 24), (11, x_pfr 5 0 20), (12, x_ret)]
def t0 : List (Nat × List (Nat × xI)) := [(0, b0_0)]
def b1_0 : List (Nat × xI) := [(1, x_aload 0), (4, x_objinit), (5, x_aload 0), (8, x_newo 5 2 2 26), (9, x_dup), (11, x_iconst 8), (14, x_calli 0 2 1 24 2 26), (17, x_pfr 1 1 5), (18, x_aload 0), (21, x_stage 1), (24, x_pfr 1 2 9), (25, x_aload 0), (26, x_aload 1), (29, x_pfr 1 0 2), (30, x_ret)]
def t1 : List (Nat × List (Nat × xI)) := [(0, b1_0)]
def b2_0 : List (Nat × xI) := [(1, x_aload 0), (2, x_iload 1), (5, x_pfi 1 7), (6, x_aload 0), (7, x_dup), (10, x_gfi 1 8), (11, x_iconst 1), (12, x_iload 1), (13, x_bin (fun x y => x <<< (y &&& 31))), (14, x_bin (fun x y => x ||| y)), (17, x_pfi 1 8), (18, x_ret)]
def t2 : List (Nat × List (Nat × xI)) := [(0, b2_0)]
def b3_0 : List (Nat × xI) := [(1, x_aload 0), (4, x_stage 2), (7, x_pfr 1 2 9), (8, x_aload 0), (9, x_null 4), (12, x_pfr 1 4 4), (13, x_aload 0), (14, x_iconst 1), (17, x_pfi 1 6), (18, x_aload 0), (19, x_iconst 0), (22, x_pfi 1 8), (23, x_aload 0), (24, x_aload 0), (27, x_gfr 1 0 2), (30, x_gfi 2 0), (33, x_callv 1 2 2 0 0 0 0), (34, x_aload 0), (35, x_iload 1), (38, x_pfi 1 9), (39, x_aload 0), (40, x_iconst 0), (43, x_pfi 1 12), (44, x_ret)]
def t3 : List (Nat × List (Nat × xI)) := [(0, b3_0)]
def b4_0 : List (Nat × xI) := [(1, x_aload 0), (4, x_gfi 1 8), (5, x_iload 1), (6, x_bin (fun x y => x >>> (y &&& 31))), (7, x_iconst 1), (8, x_bin (fun x y => x &&& y)), (11, x_if (fun x => x = 0) 15), (12, x_iconst 1), (15, x_goto 16)]
def b4_15 : List (Nat × xI) := [(16, x_iconst 0), (16, x_goto 16)]
def b4_16 : List (Nat × xI) := [(17, x_zret)]
def t4 : List (Nat × List (Nat × xI)) := [(0, b4_0), (15, b4_15), (16, b4_16)]
def b5_0 : List (Nat × xI) := [(1, x_aload 0), (4, x_gfr 1 3 2), (7, x_ifnull 21), (8, x_aload 0), (11, x_gfr 1 3 2), (14, x_gfi 2 2), (17, x_if (fun x => x = 0) 21), (18, x_iconst 1), (21, x_goto 22)]
def b5_21 : List (Nat × xI) := [(22, x_iconst 0), (22, x_goto 22)]
def b5_22 : List (Nat × xI) := [(23, x_zret)]
def t5 : List (Nat × List (Nat × xI)) := [(0, b5_0), (21, b5_21), (22, b5_22)]
def b6_0 : List (Nat × xI) := [(1, x_aload 0), (4, x_gfr 1 4 4), (7, x_ifnonnull 11), (8, x_iconst 0), (11, x_goto 18)]
def b6_11 : List (Nat × xI) := [(12, x_aload 0), (15, x_gfr 1 4 4), (18, x_gfi 4 3), (18, x_goto 18)]
def b6_18 : List (Nat × xI) := [(19, x_iret)]
def t6 : List (Nat × List (Nat × xI)) := [(0, b6_0), (11, b6_11), (18, b6_18)]
def b7_0 : List (Nat × xI) := [(1, x_aload 0), (4, x_gfr 1 4 4), (7, x_ifnonnull 11), (8, x_iconst 0), (11, x_goto 18)]
def b7_11 : List (Nat × xI) := [(12, x_aload 0), (15, x_gfr 1 4 4), (18, x_gfi 4 4), (18, x_goto 18)]
def b7_18 : List (Nat × xI) := [(19, x_iret)]
def t7 : List (Nat × List (Nat × xI)) := [(0, b7_0), (11, b7_11), (18, b7_18)]
def b8_0 : List (Nat × xI) := [(1, x_aload 0), (4, x_objinit), (5, x_aload 0), (6, x_iconst 0), (9, x_pfi 2 3), (10, x_aload 0), (11, x_iload 1), (14, x_pfi 2 0), (15, x_aload 0), (16, x_iload 2), (19, x_pfi 2 1), (20, x_ret)]
def t8 : List (Nat × List (Nat × xI)) := [(0, b8_0)]
def b9_0 : List (Nat × xI) := [(1, x_aload 0), (4, x_gfi 2 0), (6, x_iconst 24), (7, x_bin (fun x y => x * y)), (8, x_aload 0), (11, x_gfi 2 1), (12, x_bin (fun x y => x + y)), (13, x_iret)]
def t9 : List (Nat × List (Nat × xI)) := [(0, b9_0)]
def b10_0 : List (Nat × xI) := [(1, x_aload 0), (4, x_gfi 2 1), (6, x_iconst 8), (7, x_idiv), (8, x_iconst 4), (9, x_bin (fun x y => x * y)), (10, x_iret)]
def t10 : List (Nat × List (Nat × xI)) := [(0, b10_0)]
def b11_0 : List (Nat × xI) := [(1, x_aload 0), (4, x_gfi 2 2), (7, x_if (fun x => ¬ x = 0) 18), (8, x_aload 0), (11, x_gfr 2 5 1), (14, x_ifnonnull 18), (15, x_iconst 1), (18, x_goto 19)]
def b11_18 : List (Nat × xI) := [(19, x_iconst 0), (19, x_goto 19)]
def b11_19 : List (Nat × xI) := [(20, x_zret)]
def t11 : List (Nat × List (Nat × xI)) := [(0, b11_0), (18, b11_18), (19, b11_19)]
def b12_0 : List (Nat × xI) := [(1, x_aload 0), (2, x_null 1), (5, x_pfr 2 5 1), (6, x_aload 0), (7, x_aload 0), (10, x_gfi 2 2), (13, x_if (fun x => x = 0) 17), (14, x_iload 1), (17, x_goto 18)]
def b12_17 : List (Nat × xI) := [(18, x_iconst 0), (18, x_goto 18)]
def b12_18 : List (Nat × xI) := [(21, x_pfi 2 3), (22, x_ret)]
def t12 : List (Nat × List (Nat × xI)) := [(0, b12_0), (17, b12_17), (18, b12_18)]
def b13_0 : List (Nat × xI) := [(1, x_aload 0), (4, x_objinit), (5, x_aload 0), (7, x_iconst 24), (10, x_newr 16 40 373), (13, x_pfr 3 1 16), (14, x_aload 0), (16, x_iconst 33), (19, x_newr 17 40 373), (22, x_pfr 3 2 17), (23, x_aload 0), (25, x_iconst 12), (28, x_newr 18 40 373), (31, x_pfr 3 3 18), (32, x_aload 0), (33, x_iconst 4), (36, x_newr 19 40 373), (39, x_pfr 3 4 19), (40, x_aload 0), (43, x_newo 5 2 40 373), (44, x_dup), (46, x_iconst 24), (49, x_calli 0 2 1 24 40 373), (52, x_pfr 3 5 5), (53, x_aload 0), (56, x_newo 5 2 40 373), (57, x_dup), (58, x_iconst 3), (61, x_calli 0 2 1 24 40 373), (64, x_pfr 3 6 5), (65, x_aload 0), (66, x_iload 1), (69, x_pfi 3 0), (70, x_iconst 0), (71, x_istore 2), (71, x_goto 71)]
def b13_71 : List (Nat × xI) := [(72, x_iload 2), (74, x_iconst 24), (77, x_icmp (fun x y => y ≤ x) 98), (78, x_aload 0), (81, x_gfr 3 1 16), (82, x_iload 2), (85, x_newo 2 6 40 373), (86, x_dup), (87, x_iload 1), (88, x_iload 2), (91, x_calli 8 3 0 0 40 373), (92, x_aast 16 2), (95, x_iinc 2 1), (98, x_goto 71)]
def b13_98 : List (Nat × xI) := [(99, x_iconst 0), (100, x_istore 2), (100, x_goto 100)]
def b13_100 : List (Nat × xI) := [(101, x_iload 2), (102, x_iconst 4), (105, x_icmp (fun x y => y ≤ x) 126), (106, x_aload 0), (109, x_gfr 3 4 19), (110, x_iload 2), (113, x_newo 5 2 40 373), (114, x_dup), (116, x_iconst 6), (119, x_calli 0 2 1 24 40 373), (120, x_aast 19 5), (123, x_iinc 2 1), (126, x_goto 100)]
def b13_126 : List (Nat × xI) := [(127, x_ret)]
def t13 : List (Nat × List (Nat × xI)) := [(0, b13_0), (71, b13_71), (98, b13_98), (100, b13_100), (126, b13_126)]
def b14_0 : List (Nat × xI) := [(3, x_iconst 1000), (4, x_aload 0), (7, x_gfi 3 0), (8, x_bin (fun x y => x * y)), (9, x_iload 1), (10, x_bin (fun x y => x + y)), (11, x_iret)]
def t14 : List (Nat × List (Nat × xI)) := [(0, b14_0)]
def b15_0 : List (Nat × xI) := [(1, x_iconst 0), (2, x_istore 2), (2, x_goto 2)]
def b15_2 : List (Nat × xI) := [(3, x_iload 2), (4, x_aload 0), (7, x_gfi 3 7), (10, x_icmp (fun x y => y ≤ x) 36), (11, x_aload 0), (14, x_gfr 3 3 18), (15, x_iload 2), (16, x_aald 18 4), (19, x_gfi 4 0), (20, x_iload 1), (23, x_icmp (fun x y => ¬ x = y) 30), (24, x_aload 0), (27, x_gfr 3 3 18), (28, x_iload 2), (29, x_aald 18 4), (30, x_aret 4)]
def b15_30 : List (Nat × xI) := [(33, x_iinc 2 1), (36, x_goto 2)]
def b15_36 : List (Nat × xI) := [(37, x_null 4), (38, x_aret 4)]
def t15 : List (Nat × List (Nat × xI)) := [(0, b15_0), (2, b15_2), (30, b15_30), (36, b15_36)]
def b16_0 : List (Nat × xI) := [(1, x_iload 0), (2, x_istore 2), (2, x_goto 2)]
def b16_2 : List (Nat × xI) := [(3, x_iload 2), (4, x_iload 1), (7, x_icmp (fun x y => x < y) 26), (8, x_iload 2), (11, x_if (fun x => x ≤ 0) 26), (12, x_iload 2), (13, x_iload 1), (16, x_icmp (fun x y => ¬ x = y) 18), (17, x_iconst 1), (18, x_zret)]
def b16_18 : List (Nat × xI) := [(19, x_iload 2), (21, x_iconst 10), (22, x_idiv), (23, x_istore 2), (26, x_goto 2)]
def b16_26 : List (Nat × xI) := [(27, x_iconst 0), (28, x_zret)]
def t16 : List (Nat × List (Nat × xI)) := [(0, b16_0), (2, b16_2), (18, b16_18), (26, b16_26)]
def b17_0 : List (Nat × xI) := [(1, x_iconst 0), (2, x_istore 2), (2, x_goto 2)]
def b17_2 : List (Nat × xI) := [(3, x_iload 2), (4, x_aload 0), (7, x_gfi 3 7), (10, x_icmp (fun x y => y ≤ x) 39), (11, x_iload 1), (12, x_aload 0), (15, x_gfr 3 3 18), (16, x_iload 2), (17, x_aald 18 4), (20, x_gfi 4 0), (23, x_calln 16 2 0 0 0 0), (26, x_if (fun x => x = 0) 33), (27, x_aload 0), (30, x_gfr 3 3 18), (31, x_iload 2), (32, x_aald 18 4), (33, x_aret 4)]
def b17_33 : List (Nat × xI) := [(36, x_iinc 2 1), (39, x_goto 2)]
def b17_39 : List (Nat × xI) := [(40, x_null 4), (41, x_aret 4)]
def t17 : List (Nat × List (Nat × xI)) := [(0, b17_0), (2, b17_2), (33, b17_33), (39, b17_39)]
def b18_0 : List (Nat × xI) := [(1, x_iconst 0), (2, x_istore 2), (2, x_goto 2)]
def b18_2 : List (Nat × xI) := [(3, x_iload 2), (4, x_aload 0), (7, x_gfi 3 7), (10, x_icmp (fun x y => y ≤ x) 34), (11, x_aload 0), (14, x_gfr 3 3 18), (15, x_iload 2), (16, x_aald 18 4), (19, x_gfi 4 0), (20, x_iload 1), (23, x_calln 16 2 0 0 0 0), (26, x_if (fun x => x = 0) 28), (27, x_iconst 1), (28, x_zret)]
def b18_28 : List (Nat × xI) := [(31, x_iinc 2 1), (34, x_goto 2)]
def b18_34 : List (Nat × xI) := [(35, x_iconst 0), (36, x_zret)]
def t18 : List (Nat × List (Nat × xI)) := [(0, b18_0), (2, b18_2), (28, b18_28), (34, b18_34)]
def b19_0 : List (Nat × xI) := [(1, x_aload 0), (4, x_gfi 3 7), (6, x_iconst 12), (9, x_icmp (fun x y => y ≤ x) 29), (10, x_aload 0), (11, x_iload 1), (14, x_callv 3 17 2 0 0 0 0), (17, x_ifnonnull 29), (18, x_aload 0), (19, x_iload 1), (22, x_callv 3 18 2 0 0 0 0), (25, x_if (fun x => ¬ x = 0) 29), (26, x_iconst 1), (29, x_goto 30)]
def b19_29 : List (Nat × xI) := [(30, x_iconst 0), (30, x_goto 30)]
def b19_30 : List (Nat × xI) := [(31, x_zret)]
def t19 : List (Nat × List (Nat × xI)) := [(0, b19_0), (29, b19_29), (30, b19_30)]
def b20_0 : List (Nat × xI) := [(1, x_aload 0), (4, x_gfi 3 7), (6, x_iconst 12), (9, x_icmp (fun x y => y ≤ x) 29), (10, x_aload 0), (13, x_gfr 3 3 18), (14, x_aload 0), (17, x_gfi 3 7), (18, x_aload 1), (19, x_aast 18 4), (20, x_aload 0), (21, x_dup), (24, x_gfi 3 7), (25, x_iconst 1), (26, x_bin (fun x y => x + y)), (29, x_pfi 3 7), (29, x_goto 29)]
def b20_29 : List (Nat × xI) := [(30, x_ret)]
def t20 : List (Nat × List (Nat × xI)) := [(0, b20_0), (29, b20_29)]
def b21_0 : List (Nat × xI) := [(1, x_iconst 0), (2, x_istore 2), (2, x_goto 2)]
def b21_2 : List (Nat × xI) := [(3, x_iload 2), (4, x_aload 0), (7, x_gfi 5 1), (10, x_icmp (fun x y => y ≤ x) 28), (11, x_aload 0), (14, x_gfr 5 0 20), (15, x_iload 2), (16, x_ald 20), (17, x_iload 1), (20, x_icmp (fun x y => ¬ x = y) 22), (21, x_iconst 1), (22, x_zret)]
def b21_22 : List (Nat × xI) := [(25, x_iinc 2 1), (28, x_goto 2)]
def b21_28 : List (Nat × xI) := [(29, x_iconst 0), (30, x_zret)]
def t21 : List (Nat × List (Nat × xI)) := [(0, b21_0), (2, b21_2), (22, b21_22), (28, b21_28)]
def b22_0 : List (Nat × xI) := [(1, x_iconst 0), (2, x_istore 2), (2, x_goto 2)]
def b22_2 : List (Nat × xI) := [(3, x_iload 2), (4, x_iconst 4), (7, x_icmp (fun x y => y ≤ x) 28), (8, x_aload 0), (11, x_gfr 3 4 19), (12, x_iload 2), (13, x_aald 19 5), (14, x_iload 1), (17, x_callv 5 21 2 0 0 0 0), (20, x_if (fun x => x = 0) 22), (21, x_iconst 1), (22, x_zret)]
def b22_22 : List (Nat × xI) := [(25, x_iinc 2 1), (28, x_goto 2)]
def b22_28 : List (Nat × xI) := [(29, x_iconst 0), (30, x_zret)]
def t22 : List (Nat × List (Nat × xI)) := [(0, b22_0), (2, b22_2), (22, b22_22), (28, b22_28)]
def b23_0 : List (Nat × xI) := [(1, x_iload 1), (4, x_if (fun x => x < 0) 21), (5, x_iload 1), (6, x_aload 0), (9, x_gfi 5 1), (12, x_icmp (fun x y => y ≤ x) 21), (13, x_aload 0), (16, x_gfr 5 0 20), (17, x_iload 1), (18, x_ald 20), (21, x_goto 22)]
def b23_21 : List (Nat × xI) := [(22, x_iconst (-1)), (22, x_goto 22)]
def b23_22 : List (Nat × xI) := [(23, x_iret)]
def t23 : List (Nat × List (Nat × xI)) := [(0, b23_0), (21, b23_21), (22, b23_22)]
def b24_0 : List (Nat × xI) := [(1, x_aload 0), (4, x_gfi 5 1), (5, x_iret)]
def t24 : List (Nat × List (Nat × xI)) := [(0, b24_0)]
def b25_0 : List (Nat × xI) := [(1, x_iload 0), (2, x_iload 1), (5, x_icmp (fun x y => x < y) 14), (6, x_iload 0), (7, x_iload 2), (10, x_icmp (fun x y => y < x) 14), (11, x_iconst 1), (14, x_goto 15)]
def b25_14 : List (Nat × xI) := [(15, x_iconst 0), (15, x_goto 15)]
def b25_15 : List (Nat × xI) := [(16, x_zret)]
def t25 : List (Nat × List (Nat × xI)) := [(0, b25_0), (14, b25_14), (15, b25_15)]
def b26_0 : List (Nat × xI) := [(1, x_iload 0), (2, x_iconst 0), (4, x_iconst 23), (7, x_call 25 3 0 0 0 0), (8, x_zret)]
def t26 : List (Nat × List (Nat × xI)) := [(0, b26_0)]
def b27_0 : List (Nat × xI) := [(1, x_iconst 0), (2, x_istore 3), (2, x_goto 2)]
def b27_2 : List (Nat × xI) := [(3, x_iload 3), (4, x_aload 1), (7, x_callv 5 24 1 0 0 0 0), (10, x_icmp (fun x y => y ≤ x) 47), (11, x_aload 1), (12, x_iload 3), (15, x_callv 5 23 2 0 0 0 0), (17, x_istore 4), (19, x_iload 4), (22, x_calln 26 1 0 0 0 0), (25, x_if (fun x => x = 0) 41), (26, x_aload 0), (29, x_gfr 3 1 16), (31, x_iload 4), (32, x_aald 16 2), (35, x_callv 2 11 1 0 0 0 0), (38, x_if (fun x => x = 0) 41), (40, x_iload 4), (41, x_iret)]
def b27_41 : List (Nat × xI) := [(44, x_iinc 3 1), (47, x_goto 2)]
def b27_47 : List (Nat × xI) := [(48, x_iload 2), (49, x_iret)]
def t27 : List (Nat × List (Nat × xI)) := [(0, b27_0), (2, b27_2), (41, b27_41), (47, b27_47)]
def b28_0 : List (Nat × xI) := [(1, x_iconst 0), (2, x_istore 2), (2, x_goto 2)]
def b28_2 : List (Nat × xI) := [(3, x_iload 2), (4, x_iconst 4), (7, x_icmp (fun x y => y ≤ x) 39), (8, x_aload 0), (11, x_gfr 3 4 19), (12, x_iload 2), (13, x_aald 19 5), (14, x_iconst 0), (17, x_callv 5 23 2 0 0 0 0), (18, x_iload 1), (21, x_icmp (fun x y => ¬ x = y) 33), (22, x_aload 0), (23, x_aload 0), (26, x_gfr 3 4 19), (27, x_iload 2), (28, x_aald 19 5), (29, x_iload 1), (32, x_callv 3 27 3 0 0 0 0), (33, x_iret)]
def b28_33 : List (Nat × xI) := [(36, x_iinc 2 1), (39, x_goto 2)]
def b28_39 : List (Nat × xI) := [(40, x_iload 1), (41, x_iret)]
def t28 : List (Nat × List (Nat × xI)) := [(0, b28_0), (2, b28_2), (33, b28_33), (39, b28_39)]
def b29_0 : List (Nat × xI) := [(1, x_iload 1), (2, x_istore 3), (2, x_goto 2)]
def b29_2 : List (Nat × xI) := [(3, x_iload 3), (4, x_iload 2), (7, x_icmp (fun x y => y ≤ x) 24), (8, x_aload 0), (11, x_gfr 3 2 17), (12, x_iload 3), (13, x_aald 17 1), (16, x_ifnonnull 18), (17, x_iload 3), (18, x_iret)]
def b29_18 : List (Nat × xI) := [(21, x_iinc 3 1), (24, x_goto 2)]
def b29_24 : List (Nat × xI) := [(25, x_iconst (-1)), (26, x_iret)]
def t29 : List (Nat × List (Nat × xI)) := [(0, b29_0), (2, b29_2), (18, b29_18), (24, b29_24)]
def b30_0 : List (Nat × xI) := [(1, x_iconst 0), (2, x_istore 3), (3, x_iload 1), (5, x_istore 4), (5, x_goto 5)]
def b30_5 : List (Nat × xI) := [(7, x_iload 4), (8, x_iload 2), (11, x_icmp (fun x y => y ≤ x) 30), (12, x_aload 0), (15, x_gfr 3 2 17), (17, x_iload 4), (18, x_aald 17 1), (21, x_ifnonnull 24), (24, x_iinc 3 1), (24, x_goto 24)]
def b30_24 : List (Nat × xI) := [(27, x_iinc 4 1), (30, x_goto 5)]
def b30_30 : List (Nat × xI) := [(31, x_iload 3), (32, x_iret)]
def t30 : List (Nat × List (Nat × xI)) := [(0, b30_0), (5, b30_5), (24, b30_24), (30, b30_30)]
def b31_0 : List (Nat × xI) := [(1, x_iload 2), (3, x_istore 4), (3, x_goto 3)]
def b31_3 : List (Nat × xI) := [(5, x_iload 4), (6, x_iconst 4), (9, x_icmp (fun x y => y ≤ x) 50), (10, x_aload 1), (13, x_callv 2 10 1 0 0 0 0), (14, x_aload 0), (17, x_gfi 3 8), (19, x_iload 4), (20, x_bin (fun x y => x + y)), (21, x_iconst 4), (22, x_irem), (23, x_bin (fun x y => x + y)), (25, x_istore 5), (27, x_iload 5), (28, x_iload 3), (31, x_icmp (fun x y => x = y) 44), (32, x_aload 0), (35, x_gfr 3 2 17), (37, x_iload 5), (38, x_aald 17 1), (41, x_ifnonnull 44), (43, x_iload 5), (44, x_iret)]
def b31_44 : List (Nat × xI) := [(47, x_iinc 4 1), (50, x_goto 3)]
def b31_50 : List (Nat × xI) := [(51, x_iconst (-1)), (52, x_iret)]
def t31 : List (Nat × List (Nat × xI)) := [(0, b31_0), (3, b31_3), (44, b31_44), (50, b31_50)]
def b32_0 : List (Nat × xI) := [(1, x_aload 0), (4, x_objinit), (5, x_aload 0), (8, x_newo 5 2 2 26), (9, x_dup), (10, x_iconst 3), (13, x_calli 0 2 1 24 2 26), (16, x_pfr 4 2 5), (17, x_aload 0), (18, x_iload 1), (21, x_pfi 4 0), (22, x_aload 0), (23, x_iload 2), (26, x_pfz 4 1), (27, x_ret)]
def t32 : List (Nat × List (Nat × xI)) := [(0, b32_0)]
def b33_0 : List (Nat × xI) := [(1, x_aload 0), (4, x_gfi 4 1), (7, x_if (fun x => ¬ x = 0) 33), (8, x_aload 0), (11, x_gfr 4 2 5), (14, x_callv 5 24 1 0 0 0 0), (15, x_iconst 3), (18, x_icmp (fun x y => y ≤ x) 33), (19, x_aload 0), (22, x_gfr 4 2 5), (23, x_iload 1), (26, x_callv 5 21 2 0 0 0 0), (29, x_if (fun x => ¬ x = 0) 33), (30, x_iconst 1), (33, x_goto 34)]
def b33_33 : List (Nat × xI) := [(34, x_iconst 0), (34, x_goto 34)]
def b33_34 : List (Nat × xI) := [(35, x_zret)]
def t33 : List (Nat × List (Nat × xI)) := [(0, b33_0), (33, b33_33), (34, b33_34)]
def b34_0 : List (Nat × xI) := [(1, x_iconst 0), (2, x_istore 1), (3, x_iload 0), (4, x_istore 2), (4, x_goto 4)]
def b34_4 : List (Nat × xI) := [(5, x_iload 2), (7, x_iconst 10), (10, x_icmp (fun x y => x < y) 21), (13, x_iinc 1 1), (14, x_iload 2), (16, x_iconst 10), (17, x_idiv), (18, x_istore 2), (21, x_goto 4)]
def b34_21 : List (Nat × xI) := [(22, x_iload 1), (23, x_iret)]
def t34 : List (Nat × List (Nat × xI)) := [(0, b34_0), (4, b34_4), (21, b34_21)]
def b35_0 : List (Nat × xI) := [(1, x_iload 1), (4, x_calln 34 1 0 0 0 0), (5, x_aload 0), (8, x_gfi 4 0), (11, x_calln 34 1 0 0 0 0), (12, x_bin (fun x y => x - y)), (13, x_iret)]
def t35 : List (Nat × List (Nat × xI)) := [(0, b35_0)]
def b36_0 : List (Nat × xI) := [(1, x_iload 1), (2, x_istore 2), (3, x_aload 0), (4, x_iload 1), (7, x_callv 4 35 2 0 0 0 0), (8, x_istore 3), (8, x_goto 8)]
def b36_8 : List (Nat × xI) := [(9, x_iload 3), (10, x_iconst 2), (13, x_icmp (fun x y => x ≤ y) 24), (14, x_iload 2), (16, x_iconst 10), (17, x_idiv), (18, x_istore 2), (21, x_iinc 3 (-1)), (24, x_goto 8)]
def b36_24 : List (Nat × xI) := [(25, x_iload 2), (27, x_iconst 100), (28, x_irem), (29, x_iret)]
def t36 : List (Nat × List (Nat × xI)) := [(0, b36_0), (8, b36_8), (24, b36_24)]
def b37_0 : List (Nat × xI) := [(1, x_aload 0), (4, x_gfi 5 1), (5, x_aload 0), (8, x_gfr 5 0 20), (9, x_alen 20), (12, x_icmp (fun x y => y ≤ x) 32), (13, x_aload 0), (16, x_gfr 5 0 20), (17, x_aload 0), (20, x_gfi 5 1), (21, x_iload 1), (22, x_ast 20), (23, x_aload 0), (24, x_dup), (27, x_gfi 5 1), (28, x_iconst 1), (29, x_bin (fun x y => x + y)), (32, x_pfi 5 1), (32, x_goto 32)]
def b37_32 : List (Nat × xI) := [(33, x_ret)]
def t37 : List (Nat × List (Nat × xI)) := [(0, b37_0), (32, b37_32)]
def b38_0 : List (Nat × xI) := [(1, x_iconst 0), (2, x_istore 2), (3, x_iconst 0), (4, x_istore 3), (4, x_goto 4)]
def b38_4 : List (Nat × xI) := [(5, x_iload 3), (6, x_aload 0), (9, x_gfi 5 1), (12, x_icmp (fun x y => y ≤ x) 43), (13, x_aload 0), (16, x_gfr 5 0 20), (17, x_iload 3), (18, x_ald 20), (19, x_iload 1), (22, x_icmp (fun x y => x = y) 37), (23, x_aload 0), (26, x_gfr 5 0 20), (27, x_iload 2), (28, x_aload 0), (31, x_gfr 5 0 20), (32, x_iload 3), (33, x_ald 20), (34, x_ast 20), (37, x_iinc 2 1), (37, x_goto 37)]
def b38_37 : List (Nat × xI) := [(40, x_iinc 3 1), (43, x_goto 4)]
def b38_43 : List (Nat × xI) := [(44, x_aload 0), (45, x_iload 2), (48, x_pfi 5 1), (49, x_ret)]
def t38 : List (Nat × List (Nat × xI)) := [(0, b38_0), (4, b38_4), (37, b38_37), (43, b38_43)]
def b39_0 : List (Nat × xI) := [(1, x_aload 0), (2, x_iconst 0), (5, x_pfi 5 1), (6, x_ret)]
def t39 : List (Nat × List (Nat × xI)) := [(0, b39_0)]
def b40_0 : List (Nat × xI) := [(1, x_aload 0), (4, x_objinit), (5, x_aload 0), (6, x_iload 1), (9, x_pfi 6 0), (10, x_aload 0), (11, x_iload 2), (14, x_pfi 6 1), (15, x_ret)]
def t40 : List (Nat × List (Nat × xI)) := [(0, b40_0)]
def b41_0 : List (Nat × xI) := [(1, x_aload 0), (4, x_gfi 6 2), (7, x_if (fun x => ¬ x = 0) 18), (8, x_aload 0), (11, x_gfr 6 3 1), (14, x_ifnonnull 18), (15, x_iconst 1), (18, x_goto 19)]
def b41_18 : List (Nat × xI) := [(19, x_iconst 0), (19, x_goto 19)]
def b41_19 : List (Nat × xI) := [(20, x_zret)]
def t41 : List (Nat × List (Nat × xI)) := [(0, b41_0), (18, b41_18), (19, b41_19)]
def b42_0 : List (Nat × xI) := [(1, x_aload 0), (4, x_gfi 6 0), (5, x_iload 1), (8, x_icmp (fun x y => x = y) 16), (9, x_aload 0), (12, x_gfi 6 1), (13, x_iload 1), (16, x_icmp (fun x y => ¬ x = y) 20), (16, x_goto 16)]
def b42_16 : List (Nat × xI) := [(17, x_iconst 1), (20, x_goto 21)]
def b42_20 : List (Nat × xI) := [(21, x_iconst 0), (21, x_goto 21)]
def b42_21 : List (Nat × xI) := [(22, x_zret)]
def t42 : List (Nat × List (Nat × xI)) := [(0, b42_0), (16, b42_16), (20, b42_20), (21, b42_21)]
def b43_0 : List (Nat × xI) := [(1, x_aload 0), (4, x_objinit), (5, x_aload 0), (6, x_iconst 3), (9, x_newr 11 1000 6000), (12, x_pfr 7 0 11), (13, x_aload 0), (15, x_iconst 72), (18, x_newr 12 1000 6000), (21, x_pfr 7 1 12), (22, x_aload 0), (24, x_iconst 16), (27, x_newr 13 1000 6000), (30, x_pfr 7 2 13), (31, x_aload 0), (32, x_iconst 3), (33, x_iconst 3), (37, x_newm 14 15 1000 6000), (40, x_pfr 7 3 14), (41, x_iconst 0), (42, x_istore 1), (42, x_goto 42)]
def b43_42 : List (Nat × xI) := [(43, x_iload 1), (44, x_iconst 3), (47, x_icmp (fun x y => y ≤ x) 110), (48, x_aload 0), (51, x_gfr 7 0 11), (52, x_iload 1), (55, x_newo 3 9 1000 6000), (56, x_dup), (57, x_iload 1), (60, x_calli 13 2 40 373 1000 6000), (61, x_aast 11 3), (62, x_iconst 0), (63, x_istore 2), (63, x_goto 63)]
def b43_63 : List (Nat × xI) := [(64, x_iload 2), (66, x_iconst 24), (69, x_icmp (fun x y => y ≤ x) 104), (70, x_aload 0), (73, x_gfr 7 1 12), (74, x_iload 1), (76, x_iconst 24), (77, x_bin (fun x y => x * y)), (78, x_iload 2), (79, x_bin (fun x y => x + y)), (82, x_newo 1 15 1000 6000), (83, x_dup), (84, x_aload 0), (87, x_gfr 7 0 11), (88, x_iload 1), (89, x_aald 11 3), (92, x_gfr 3 1 16), (93, x_iload 2), (94, x_aald 16 2), (97, x_calli 1 2 2 26 1000 6000), (98, x_aast 12 1), (101, x_iinc 2 1), (104, x_goto 63)]
def b43_104 : List (Nat × xI) := [(107, x_iinc 1 1), (110, x_goto 42)]
def b43_110 : List (Nat × xI) := [(111, x_ret)]
def t43 : List (Nat × List (Nat × xI)) := [(0, b43_0), (42, b43_42), (63, b43_63), (104, b43_104), (110, b43_110)]
def b44_0 : List (Nat × xI) := [(1, x_iload 0), (2, x_iconst 0), (3, x_iconst 2), (6, x_call 25 3 0 0 0 0), (7, x_zret)]
def t44 : List (Nat × List (Nat × xI)) := [(0, b44_0)]
def b45_0 : List (Nat × xI) := [(1, x_iload 0), (4, x_if (fun x => ¬ x = 0) 12), (7, x_throw 1 1 6)]
def b45_12 : List (Nat × xI) := [(13, x_ret)]
def t45 : List (Nat × List (Nat × xI)) := [(0, b45_0), (12, b45_12)]
def b46_0 : List (Nat × xI) := [(1, x_iload 0), (4, x_if (fun x => ¬ x = 0) 12), (7, x_throw 2 1 6)]
def b46_12 : List (Nat × xI) := [(13, x_ret)]
def t46 : List (Nat × List (Nat × xI)) := [(0, b46_0), (12, b46_12)]
def b47_0 : List (Nat × xI) := [(1, x_iload 1), (4, x_call 44 1 0 0 3 16), (7, x_if (fun x => x = 0) 23), (8, x_iload 2), (11, x_call 44 1 0 0 3 16), (14, x_if (fun x => x = 0) 23), (15, x_iload 1), (16, x_iload 2), (19, x_icmp (fun x y => x = y) 23), (20, x_iconst 1), (23, x_goto 24)]
def b47_23 : List (Nat × xI) := [(24, x_iconst 0), (24, x_goto 24)]
def b47_24 : List (Nat × xI) := [(27, x_call 45 1 1 6 3 16), (28, x_aload 0), (31, x_gfi 7 4), (33, x_iconst 16), (36, x_icmp (fun x y => y ≤ x) 40), (37, x_iconst 1), (40, x_goto 41)]
def b47_40 : List (Nat × xI) := [(41, x_iconst 0), (41, x_goto 41)]
def b47_41 : List (Nat × xI) := [(44, x_call 46 1 1 6 3 16), (45, x_aload 0), (48, x_gfr 7 2 13), (49, x_aload 0), (52, x_gfi 7 4), (55, x_newo 6 4 3 16), (56, x_dup), (57, x_iload 1), (58, x_iload 2), (61, x_calli 40 3 0 0 3 16), (62, x_aast 13 6), (63, x_aload 0), (64, x_dup), (67, x_gfi 7 4), (68, x_iconst 1), (69, x_bin (fun x y => x + y)), (72, x_pfi 7 4), (73, x_aload 0), (76, x_gfi 7 4), (77, x_iconst 1), (78, x_bin (fun x y => x - y)), (79, x_iret)]
def t47 : List (Nat × List (Nat × xI)) := [(0, b47_0), (23, b47_23), (24, b47_24), (40, b47_40), (41, b47_41)]
def b48_0 : List (Nat × xI) := [(1, x_iload 0), (3, x_iconst 10), (5, x_iconst 19), (8, x_call 25 3 0 0 0 0), (11, x_if (fun x => ¬ x = 0) 36), (12, x_iload 0), (14, x_iconst 100), (17, x_iconst 199), (20, x_call 25 3 0 0 0 0), (23, x_if (fun x => ¬ x = 0) 36), (24, x_iload 0), (27, x_iconst 1000), (30, x_iconst 1999), (33, x_call 25 3 0 0 0 0), (36, x_if (fun x => x = 0) 40), (36, x_goto 36)]
def b48_36 : List (Nat × xI) := [(37, x_iconst 1), (40, x_goto 41)]
def b48_40 : List (Nat × xI) := [(41, x_iconst 0), (41, x_goto 41)]
def b48_41 : List (Nat × xI) := [(42, x_zret)]
def t48 : List (Nat × List (Nat × xI)) := [(0, b48_0), (36, b48_36), (40, b48_40), (41, b48_41)]
def b49_0 : List (Nat × xI) := [(1, x_iload 1), (4, x_call 44 1 0 0 7 55), (7, x_if (fun x => x = 0) 25), (8, x_iload 3), (11, x_call 44 1 0 0 7 55), (14, x_if (fun x => x = 0) 25), (15, x_iload 2), (18, x_call 48 1 0 0 7 55), (21, x_if (fun x => x = 0) 25), (22, x_iconst 1), (25, x_goto 26)]
def b49_25 : List (Nat × xI) := [(26, x_iconst 0), (26, x_goto 26)]
def b49_26 : List (Nat × xI) := [(29, x_call 45 1 1 6 7 55), (31, x_iload 4), (32, x_iconst 0), (34, x_iconst 99), (37, x_call 25 3 0 0 7 55), (40, x_if (fun x => x = 0) 56), (42, x_iload 5), (43, x_iconst 0), (46, x_iconst 1000), (49, x_call 25 3 0 0 7 55), (52, x_if (fun x => x = 0) 56), (53, x_iconst 1), (56, x_goto 57)]
def b49_56 : List (Nat × xI) := [(57, x_iconst 0), (57, x_goto 57)]
def b49_57 : List (Nat × xI) := [(60, x_call 45 1 1 6 7 55), (61, x_aload 0), (64, x_gfr 7 0 11), (65, x_iload 1), (66, x_aald 11 3), (68, x_astore 6), (70, x_aload 6), (71, x_iload 2), (74, x_callv 3 15 2 0 0 7 55), (76, x_astore 7), (78, x_aload 7), (81, x_ifnonnull 120), (83, x_aload 6), (84, x_iload 2), (87, x_callv 3 19 2 0 0 7 55), (90, x_call 46 1 1 6 7 55), (93, x_newo 4 5 7 55), (94, x_dup), (95, x_iload 2), (96, x_iload 3), (97, x_iload 1), (100, x_icmp (fun x y => ¬ x = y) 104), (101, x_iconst 1), (104, x_goto 105)]
def b49_104 : List (Nat × xI) := [(105, x_iconst 0), (105, x_goto 105)]
def b49_105 : List (Nat × xI) := [(108, x_calli 32 3 2 26 7 55), (110, x_astore 7), (112, x_aload 6), (114, x_aload 7), (117, x_callv 3 20 2 0 0 7 55), (120, x_goto 142)]
def b49_120 : List (Nat × xI) := [(121, x_iload 3), (122, x_iload 1), (125, x_icmp (fun x y => x = y) 138), (127, x_aload 7), (128, x_iload 3), (131, x_callv 4 33 2 0 0 7 55), (134, x_if (fun x => x = 0) 138), (135, x_iconst 1), (138, x_goto 139)]
def b49_138 : List (Nat × xI) := [(139, x_iconst 0), (139, x_goto 139)]
def b49_139 : List (Nat × xI) := [(142, x_call 46 1 1 6 7 55), (142, x_goto 142)]
def b49_142 : List (Nat × xI) := [(144, x_aload 7), (147, x_gfi 4 1), (150, x_if (fun x => ¬ x = 0) 159), (152, x_aload 7), (155, x_gfr 4 2 5), (156, x_iload 3), (159, x_callv 5 37 2 0 0 7 55), (159, x_goto 159)]
def b49_159 : List (Nat × xI) := [(161, x_aload 7), (163, x_iload 4), (166, x_pfi 4 3), (168, x_aload 7), (170, x_iload 5), (173, x_pfi 4 4), (175, x_aload 7), (178, x_gfr 4 2 5), (181, x_callv 5 24 1 0 0 7 55), (182, x_iret)]
def t49 : List (Nat × List (Nat × xI)) := [(0, b49_0), (25, b49_25), (26, b49_26), (56, b49_56), (57, b49_57), (104, b49_104), (105, b49_105), (120, b49_120), (138, b49_138), (139, b49_139), (142, b49_142), (159, b49_159)]
def b50_0 : List (Nat × xI) := [(1, x_iload 1), (4, x_call 44 1 0 0 2 12), (7, x_if (fun x => x = 0) 27), (8, x_iload 2), (9, x_iconst 0), (10, x_iconst 3), (13, x_call 25 3 0 0 2 12), (16, x_if (fun x => x = 0) 27), (17, x_iload 3), (20, x_call 26 1 0 0 2 12), (23, x_if (fun x => x = 0) 27), (24, x_iconst 1), (27, x_goto 28)]
def b50_27 : List (Nat × xI) := [(28, x_iconst 0), (28, x_goto 28)]
def b50_28 : List (Nat × xI) := [(31, x_call 45 1 1 6 2 12), (32, x_aload 0), (35, x_gfr 7 0 11), (36, x_iload 1), (37, x_aald 11 3), (40, x_gfr 3 4 19), (41, x_iload 2), (42, x_aald 19 5), (44, x_astore 4), (46, x_aload 4), (49, x_callv 5 24 1 0 0 2 12), (51, x_iconst 6), (54, x_icmp (fun x y => y ≤ x) 71), (55, x_aload 0), (58, x_gfr 7 0 11), (59, x_iload 1), (60, x_aald 11 3), (61, x_iload 3), (64, x_callv 3 22 2 0 0 2 12), (67, x_if (fun x => ¬ x = 0) 71), (68, x_iconst 1), (71, x_goto 72)]
def b50_71 : List (Nat × xI) := [(72, x_iconst 0), (72, x_goto 72)]
def b50_72 : List (Nat × xI) := [(75, x_call 46 1 1 6 2 12), (77, x_aload 4), (78, x_iload 3), (81, x_callv 5 37 2 0 0 2 12), (83, x_aload 4), (86, x_callv 5 24 1 0 0 2 12), (87, x_iret)]
def t50 : List (Nat × List (Nat × xI)) := [(0, b50_0), (27, b50_27), (28, b50_28), (71, b50_71), (72, b50_72)]
def b51_0 : List (Nat × xI) := [(1, x_iload 1), (4, x_call 44 1 0 0 1 6), (7, x_if (fun x => x = 0) 18), (8, x_iload 2), (11, x_call 26 1 0 0 1 6), (14, x_if (fun x => x = 0) 18), (15, x_iconst 1), (18, x_goto 19)]
def b51_18 : List (Nat × xI) := [(19, x_iconst 0), (19, x_goto 19)]
def b51_19 : List (Nat × xI) := [(22, x_call 45 1 1 6 1 6), (23, x_aload 0), (26, x_gfr 7 0 11), (27, x_iload 1), (28, x_aald 11 3), (31, x_gfr 3 1 16), (32, x_iload 2), (33, x_aald 16 2), (34, x_aret 2)]
def t51 : List (Nat × List (Nat × xI)) := [(0, b51_0), (18, b51_18), (19, b51_19)]
def b52_0 : List (Nat × xI) := [(1, x_iload 1), (4, x_iconst 1000), (5, x_idiv), (6, x_istore 3), (7, x_iload 1), (10, x_iconst 1000), (11, x_irem), (13, x_istore 4), (14, x_iload 1), (17, x_iconst 5000), (20, x_icmp (fun x y => x < y) 49), (21, x_iload 1), (24, x_iconst 5000), (25, x_bin (fun x y => x - y)), (26, x_aload 0), (29, x_gfi 7 4), (32, x_icmp (fun x y => y ≤ x) 78), (33, x_aload 0), (36, x_gfr 7 2 13), (37, x_iload 1), (40, x_iconst 5000), (41, x_bin (fun x y => x - y)), (42, x_aald 13 6), (43, x_aload 2), (46, x_pfr 6 3 1), (49, x_goto 78)]
def b52_49 : List (Nat × xI) := [(50, x_iload 1), (53, x_if (fun x => x < 0) 78), (54, x_iload 3), (55, x_iconst 3), (58, x_icmp (fun x y => y ≤ x) 78), (60, x_iload 4), (62, x_iconst 33), (65, x_icmp (fun x y => y ≤ x) 78), (66, x_aload 0), (69, x_gfr 7 0 11), (70, x_iload 3), (71, x_aald 11 3), (74, x_gfr 3 2 17), (76, x_iload 4), (77, x_aload 2), (78, x_aast 17 1), (78, x_goto 78)]
def b52_78 : List (Nat × xI) := [(79, x_ret)]
def t52 : List (Nat × List (Nat × xI)) := [(0, b52_0), (49, b52_49), (78, b52_78)]
def b53_0 : List (Nat × xI) := [(1, x_aload 0), (2, x_iload 2), (3, x_aload 1), (6, x_callv 7 52 3 0 0 0 0), (7, x_aload 1), (10, x_gfr 1 1 5), (11, x_iload 2), (14, x_callv 5 37 2 0 0 0 0), (15, x_ret)]
def t53 : List (Nat × List (Nat × xI)) := [(0, b53_0)]
def b54_0 : List (Nat × xI) := [(1, x_aload 0), (4, x_gfr 7 1 12), (5, x_aload 2), (8, x_callv 2 9 1 0 0 0 0), (9, x_aald 12 1), (11, x_astore 4), (13, x_aload 4), (14, x_aload 1), (15, x_iload 3), (18, x_callv 3 14 2 0 0 0 0), (21, x_callv 1 3 2 0 0 0 0), (22, x_aload 2), (24, x_aload 4), (27, x_pfr 2 5 1), (28, x_aload 2), (29, x_iconst 1), (32, x_pfi 2 3), (33, x_aload 0), (35, x_aload 4), (37, x_aload 4), (40, x_gfi 1 9), (43, x_callv 7 53 3 0 0 0 0), (44, x_ret)]
def t54 : List (Nat × List (Nat × xI)) := [(0, b54_0)]
def b55_0 : List (Nat × xI) := [(1, x_aload 1), (3, x_iconst 30), (5, x_iconst 33), (8, x_callv 3 29 3 0 0 0 0), (9, x_istore 3), (10, x_iload 3), (11, x_iconst (-1)), (14, x_icmp (fun x y => x = y) 24), (15, x_aload 1), (18, x_gfr 3 5 5), (21, x_callv 5 24 1 0 0 0 0), (24, x_if (fun x => x ≤ 0) 38), (24, x_goto 24)]
def b55_24 : List (Nat × xI) := [(25, x_aload 1), (28, x_gfr 3 5 5), (29, x_aload 2), (32, x_gfi 2 1), (35, x_callv 5 37 2 0 0 0 0), (38, x_goto 45)]
def b55_38 : List (Nat × xI) := [(39, x_aload 0), (40, x_aload 1), (41, x_aload 2), (42, x_iload 3), (45, x_callv 7 54 4 0 0 0 0), (45, x_goto 45)]
def b55_45 : List (Nat × xI) := [(46, x_ret)]
def t55 : List (Nat × List (Nat × xI)) := [(0, b55_0), (24, b55_24), (38, b55_38), (45, b55_45)]
def b56_0 : List (Nat × xI) := [(1, x_aload 1), (4, x_gfr 1 0 2), (5, x_dup), (8, x_gfi 2 4), (9, x_aload 1), (12, x_callv 1 6 1 0 0 0 0), (13, x_bin (fun x y => x + y)), (16, x_pfi 2 4), (17, x_aload 1), (18, x_iconst 0), (21, x_pfi 1 13), (22, x_ret)]
def t56 : List (Nat × List (Nat × xI)) := [(0, b56_0)]
def b57_0 : List (Nat × xI) := [(1, x_aload 1), (4, x_gfr 1 2 9), (7, x_stage 5), (10, x_ane 9 30), (11, x_aload 1), (14, x_stage 6), (17, x_pfr 1 2 9), (18, x_aload 1), (21, x_gfr 1 0 2), (22, x_iconst 0), (25, x_pfi 2 3), (26, x_aload 0), (27, x_aload 1), (30, x_callv 7 56 2 0 0 0 0), (30, x_goto 30)]
def b57_30 : List (Nat × xI) := [(31, x_ret)]
def t57 : List (Nat × List (Nat × xI)) := [(0, b57_0), (30, b57_30)]
def b58_0 : List (Nat × xI) := [(1, x_aload 0), (2, x_iload 1), (3, x_iload 2), (6, x_callv 7 51 3 1 6 2 12), (7, x_astore 3), (8, x_aload 3), (11, x_gfi 2 2), (14, x_if (fun x => ¬ x = 0) 18), (15, x_iconst 1), (18, x_goto 19)]
def b58_18 : List (Nat × xI) := [(19, x_iconst 0), (19, x_goto 19)]
def b58_19 : List (Nat × xI) := [(22, x_call 46 1 1 6 2 12), (23, x_aload 3), (24, x_iconst 1), (27, x_pfz 2 2), (28, x_aload 3), (31, x_gfr 2 5 1), (33, x_astore 4), (35, x_aload 4), (38, x_ifnonnull 52), (39, x_aload 0), (40, x_aload 0), (43, x_gfr 7 0 11), (44, x_iload 1), (45, x_aald 11 3), (46, x_aload 3), (49, x_callv 7 55 3 0 0 2 12), (52, x_goto 67)]
def b58_52 : List (Nat × xI) := [(54, x_aload 4), (57, x_gfr 1 3 2), (58, x_aload 3), (61, x_ane 2 67), (62, x_aload 0), (64, x_aload 4), (67, x_callv 7 57 2 0 0 2 12), (67, x_goto 67)]
def b58_67 : List (Nat × xI) := [(68, x_ret)]
def t58 : List (Nat × List (Nat × xI)) := [(0, b58_0), (18, b58_18), (19, b58_19), (52, b58_52), (67, b58_67)]
def b59_0 : List (Nat × xI) := [(1, x_iconst 0), (2, x_istore 3), (2, x_goto 2)]
def b59_2 : List (Nat × xI) := [(3, x_iload 3), (4, x_aload 1), (7, x_gfr 1 1 5), (10, x_callv 5 24 1 0 0 0 0), (13, x_icmp (fun x y => y ≤ x) 32), (14, x_aload 0), (15, x_aload 1), (18, x_gfr 1 1 5), (19, x_iload 3), (22, x_callv 5 23 2 0 0 0 0), (23, x_null 1), (26, x_callv 7 52 3 0 0 0 0), (29, x_iinc 3 1), (32, x_goto 2)]
def b59_32 : List (Nat × xI) := [(33, x_aload 1), (36, x_gfr 1 1 5), (39, x_callv 5 39 1 0 0 0 0), (40, x_aload 0), (43, x_gfr 7 0 11), (44, x_aload 1), (47, x_gfi 1 7), (48, x_aald 11 3), (51, x_gfr 3 6 5), (52, x_aload 1), (55, x_gfr 1 0 2), (58, x_callv 2 9 1 0 0 0 0), (61, x_callv 5 38 2 0 0 0 0), (62, x_aload 1), (65, x_gfr 1 0 2), (66, x_iload 2), (69, x_callv 2 12 2 0 0 0 0), (70, x_aload 1), (73, x_gfr 1 3 2), (76, x_ifnull 84), (77, x_aload 1), (80, x_gfr 1 3 2), (81, x_iconst 3), (84, x_callv 2 12 2 0 0 0 0), (84, x_goto 84)]
def b59_84 : List (Nat × xI) := [(85, x_aload 1), (86, x_null 2), (89, x_pfr 1 3 2), (90, x_aload 1), (91, x_iconst 0), (94, x_pfz 1 5), (95, x_aload 1), (98, x_stage 1), (101, x_pfr 1 2 9), (102, x_ret)]
def t59 : List (Nat × List (Nat × xI)) := [(0, b59_0), (2, b59_2), (32, b59_32), (84, b59_84)]
def b60_0 : List (Nat × xI) := [(1, x_aload 0), (2, x_iload 1), (3, x_iload 2), (6, x_callv 7 51 3 1 6 2 12), (7, x_astore 3), (8, x_aload 3), (11, x_gfi 2 2), (14, x_call 46 1 1 6 2 12), (15, x_aload 3), (16, x_iconst 0), (19, x_pfz 2 2), (20, x_aload 3), (21, x_iconst 0), (24, x_pfi 2 3), (25, x_aload 3), (28, x_gfr 2 5 1), (30, x_astore 4), (32, x_aload 4), (35, x_ifnonnull 51), (36, x_aload 0), (39, x_gfr 7 0 11), (40, x_iload 1), (41, x_aald 11 3), (44, x_gfr 3 5 5), (45, x_iload 2), (48, x_callv 5 38 2 0 0 2 12), (51, x_goto 84)]
def b60_51 : List (Nat × xI) := [(53, x_aload 4), (56, x_gfr 1 3 2), (57, x_aload 3), (60, x_ane 2 69), (62, x_aload 4), (63, x_iconst 0), (66, x_pfi 1 14), (69, x_goto 84)]
def b60_69 : List (Nat × xI) := [(71, x_aload 4), (74, x_gfi 1 5), (77, x_if (fun x => ¬ x = 0) 84), (78, x_aload 0), (80, x_aload 4), (81, x_iconst 3), (84, x_callv 7 59 3 0 0 2 12), (84, x_goto 84)]
def b60_84 : List (Nat × xI) := [(85, x_ret)]
def t60 : List (Nat × List (Nat × xI)) := [(0, b60_0), (51, b60_51), (69, b60_69), (84, b60_84)]
def b61_0 : List (Nat × xI) := [(1, x_aload 2), (4, x_stage 3), (7, x_pfr 1 2 9), (8, x_aload 1), (11, x_gfr 3 6 5), (12, x_aload 2), (15, x_gfr 1 0 2), (18, x_callv 2 9 1 0 0 0 0), (21, x_callv 5 37 2 0 0 0 0), (22, x_ret)]
def t61 : List (Nat × List (Nat × xI)) := [(0, b61_0)]
def b62_0 : List (Nat × xI) := [(1, x_aload 2), (2, x_aload 2), (5, x_gfi 1 6), (7, x_iconst 10), (8, x_bin (fun x y => x * y)), (9, x_iload 3), (10, x_bin (fun x y => x + y)), (13, x_pfi 1 6), (14, x_aload 2), (15, x_iconst 0), (18, x_pfi 1 12), (19, x_aload 2), (22, x_gfr 1 0 2), (23, x_iconst 0), (26, x_pfi 2 3), (27, x_aload 1), (28, x_aload 2), (31, x_gfi 1 6), (34, x_callv 3 17 2 0 0 0 0), (36, x_astore 4), (38, x_aload 4), (41, x_ifnonnull 61), (42, x_aload 1), (43, x_aload 2), (46, x_gfi 1 6), (49, x_callv 3 18 2 0 0 0 0), (52, x_if (fun x => ¬ x = 0) 86), (53, x_aload 0), (54, x_aload 2), (55, x_iconst 5), (58, x_callv 7 59 3 0 0 0 0), (61, x_goto 86)]
def b62_61 : List (Nat × xI) := [(63, x_aload 4), (64, x_aload 2), (67, x_gfi 1 6), (70, x_callv 4 35 2 0 0 0 0), (71, x_iconst 2), (74, x_icmp (fun x y => x < y) 86), (75, x_aload 2), (77, x_aload 4), (80, x_pfr 1 4 4), (81, x_aload 0), (82, x_aload 1), (83, x_aload 2), (86, x_callv 7 61 3 0 0 0 0), (86, x_goto 86)]
def b62_86 : List (Nat × xI) := [(87, x_ret)]
def t62 : List (Nat × List (Nat × xI)) := [(0, b62_0), (61, b62_61), (86, b62_86)]
def b63_0 : List (Nat × xI) := [(1, x_aload 0), (2, x_iload 1), (3, x_iload 2), (6, x_callv 7 51 3 1 6 3 18), (8, x_astore 4), (9, x_iload 3), (10, x_iconst 0), (12, x_iconst 9), (15, x_call 25 3 0 0 3 18), (18, x_call 45 1 1 6 3 18), (20, x_aload 4), (23, x_gfi 2 2), (26, x_call 46 1 1 6 3 18), (28, x_aload 4), (31, x_gfr 2 5 1), (33, x_astore 5), (35, x_aload 5), (38, x_ifnull 49), (40, x_aload 5), (43, x_gfr 1 2 9), (46, x_stage 2), (49, x_aeq 9 51), (49, x_goto 49)]
def b63_49 : List (Nat × xI) := [(50, x_iconst 0), (51, x_zret)]
def b63_51 : List (Nat × xI) := [(52, x_aload 0), (53, x_aload 0), (56, x_gfr 7 0 11), (57, x_iload 1), (58, x_aald 11 3), (60, x_aload 5), (61, x_iload 3), (64, x_callv 7 62 4 0 0 3 18), (65, x_iconst 1), (66, x_zret)]
def t63 : List (Nat × List (Nat × xI)) := [(0, b63_0), (49, b63_49), (51, b63_51)]
def b64_0 : List (Nat × xI) := [(1, x_iload 3), (2, x_iconst (-1)), (5, x_icmp (fun x y => ¬ x = y) 7), (6, x_iconst 0), (7, x_zret)]
def b64_7 : List (Nat × xI) := [(8, x_aload 0), (9, x_aload 2), (10, x_aload 1), (11, x_iload 3), (14, x_callv 3 14 2 0 0 0 0), (17, x_callv 7 53 3 0 0 0 0), (18, x_aload 1), (19, x_iload 3), (20, x_iconst 1), (21, x_bin (fun x y => x + y)), (22, x_iconst 4), (23, x_irem), (26, x_pfi 3 8), (27, x_iconst 1), (28, x_zret)]
def t64 : List (Nat × List (Nat × xI)) := [(0, b64_0), (7, b64_7)]
def b65_0 : List (Nat × xI) := [(1, x_aload 1), (3, x_iconst 20), (5, x_iconst 25), (8, x_callv 3 29 3 0 0 0 0), (10, x_istore 4), (12, x_iload 4), (13, x_iconst (-1)), (16, x_icmp (fun x y => ¬ x = y) 18), (17, x_iconst 0), (18, x_zret)]
def b65_18 : List (Nat × xI) := [(19, x_iconst 0), (21, x_istore 5), (21, x_goto 21)]
def b65_21 : List (Nat × xI) := [(23, x_iload 5), (24, x_iconst 4), (27, x_icmp (fun x y => y ≤ x) 105), (28, x_aload 1), (29, x_aload 2), (32, x_gfr 1 0 2), (34, x_iload 5), (35, x_iconst (-1)), (38, x_callv 3 31 4 0 0 0 0), (40, x_istore 6), (42, x_iload 6), (43, x_iconst (-1)), (46, x_icmp (fun x y => ¬ x = y) 50), (47, x_iconst (-1)), (50, x_goto 58)]
def b65_50 : List (Nat × xI) := [(51, x_aload 1), (52, x_aload 3), (53, x_iconst 0), (55, x_iload 6), (58, x_callv 3 31 4 0 0 0 0), (58, x_goto 58)]
def b65_58 : List (Nat × xI) := [(60, x_istore 7), (62, x_iload 7), (63, x_iconst (-1)), (66, x_icmp (fun x y => x = y) 99), (67, x_aload 0), (68, x_aload 1), (69, x_aload 2), (71, x_iload 6), (74, x_callv 7 64 4 0 0 0 0), (75, x_pop), (76, x_aload 0), (77, x_aload 2), (78, x_aload 1), (80, x_iload 4), (83, x_callv 3 14 2 0 0 0 0), (86, x_callv 7 53 3 0 0 0 0), (87, x_aload 0), (88, x_aload 2), (89, x_aload 1), (91, x_iload 7), (94, x_callv 3 14 2 0 0 0 0), (97, x_callv 7 53 3 0 0 0 0), (98, x_iconst 1), (99, x_zret)]
def b65_99 : List (Nat × xI) := [(102, x_iinc 5 1), (105, x_goto 21)]
def b65_105 : List (Nat × xI) := [(106, x_iconst 0), (107, x_zret)]
def t65 : List (Nat × List (Nat × xI)) := [(0, b65_0), (18, b65_18), (21, b65_21), (50, b65_50), (58, b65_58), (99, b65_99), (105, b65_105)]
def b66_0 : List (Nat × xI) := [(1, x_aload 0), (2, x_iload 2), (3, x_null 1), (6, x_callv 7 52 3 0 0 0 0), (7, x_aload 1), (10, x_gfr 1 1 5), (11, x_iload 2), (14, x_callv 5 38 2 0 0 0 0), (15, x_ret)]
def t66 : List (Nat × List (Nat × xI)) := [(0, b66_0)]
def b67_0 : List (Nat × xI) := [(1, x_iload 3), (4, x_call 26 1 0 0 0 0), (7, x_if (fun x => ¬ x = 0) 14), (8, x_aload 0), (9, x_aload 2), (10, x_iconst 5), (13, x_callv 7 59 3 0 0 0 0), (14, x_ret)]
def b67_14 : List (Nat × xI) := [(15, x_aload 1), (18, x_gfr 3 1 16), (19, x_aload 1), (20, x_iload 3), (23, x_callv 3 28 2 0 0 0 0), (24, x_aald 16 2), (26, x_astore 4), (28, x_aload 4), (31, x_callv 2 11 1 0 0 0 0), (34, x_if (fun x => ¬ x = 0) 41), (35, x_aload 0), (36, x_aload 2), (37, x_iconst 3), (40, x_callv 7 59 3 0 0 0 0), (41, x_ret)]
def b67_41 : List (Nat × xI) := [(42, x_aload 2), (45, x_gfr 1 0 2), (48, x_gfi 2 0), (49, x_aload 1), (52, x_gfi 3 0), (55, x_icmp (fun x y => ¬ x = y) 66), (56, x_aload 0), (57, x_aload 1), (58, x_aload 2), (60, x_aload 4), (63, x_callv 7 65 4 0 0 0 0), (66, x_goto 80)]
def b67_66 : List (Nat × xI) := [(67, x_aload 0), (68, x_aload 1), (69, x_aload 2), (70, x_aload 1), (72, x_aload 4), (73, x_iconst 0), (74, x_iconst (-1)), (77, x_callv 3 31 4 0 0 0 0), (80, x_callv 7 64 4 0 0 0 0), (80, x_goto 80)]
def b67_80 : List (Nat × xI) := [(82, x_istore 5), (84, x_iload 5), (87, x_if (fun x => ¬ x = 0) 94), (88, x_aload 0), (89, x_aload 2), (90, x_iconst 4), (93, x_callv 7 59 3 0 0 0 0), (94, x_ret)]
def b67_94 : List (Nat × xI) := [(95, x_aload 0), (96, x_aload 2), (97, x_aload 2), (100, x_gfi 1 9), (103, x_callv 7 66 3 0 0 0 0), (104, x_aload 2), (107, x_stage 5), (110, x_pfr 1 2 9), (111, x_aload 2), (113, x_aload 4), (116, x_pfr 1 3 2), (118, x_aload 4), (119, x_aload 2), (122, x_pfr 2 5 1), (123, x_aload 2), (126, x_gfr 1 0 2), (127, x_iconst 2), (130, x_pfi 2 3), (131, x_ret)]
def t67 : List (Nat × List (Nat × xI)) := [(0, b67_0), (14, b67_14), (41, b67_41), (66, b67_66), (80, b67_80), (94, b67_94)]
def b68_0 : List (Nat × xI) := [(1, x_iconst 0), (2, x_istore 3), (2, x_goto 2)]
def b68_2 : List (Nat × xI) := [(3, x_iload 3), (4, x_aload 0), (7, x_gfi 7 4), (10, x_icmp (fun x y => y ≤ x) 56), (11, x_aload 0), (14, x_gfr 7 2 13), (15, x_iload 3), (16, x_aald 13 6), (19, x_callv 6 41 1 0 0 0 0), (22, x_if (fun x => x = 0) 50), (23, x_aload 0), (26, x_gfr 7 2 13), (27, x_iload 3), (28, x_aald 13 6), (29, x_iload 1), (32, x_callv 6 42 2 0 0 0 0), (35, x_if (fun x => x = 0) 50), (36, x_aload 0), (39, x_gfr 7 2 13), (40, x_iload 3), (41, x_aald 13 6), (42, x_iload 2), (45, x_callv 6 42 2 0 0 0 0), (48, x_if (fun x => x = 0) 50), (49, x_iload 3), (50, x_iret)]
def b68_50 : List (Nat × xI) := [(53, x_iinc 3 1), (56, x_goto 2)]
def b68_56 : List (Nat × xI) := [(57, x_iconst (-1)), (58, x_iret)]
def t68 : List (Nat × List (Nat × xI)) := [(0, b68_0), (2, b68_2), (50, b68_50), (56, b68_56)]
def b69_0 : List (Nat × xI) := [(1, x_aload 0), (2, x_aload 1), (5, x_gfi 3 0), (6, x_aload 3), (9, x_gfi 3 0), (12, x_callv 7 68 3 0 0 0 0), (14, x_istore 4), (16, x_iload 4), (17, x_iconst (-1)), (20, x_icmp (fun x y => ¬ x = y) 40), (21, x_aload 0), (24, x_gfr 7 3 14), (25, x_aload 1), (28, x_gfi 3 0), (29, x_aald 14 15), (30, x_aload 3), (33, x_gfi 3 0), (34, x_dup2), (35, x_ald 15), (36, x_iconst 1), (37, x_bin (fun x y => x + y)), (38, x_ast 15), (39, x_iconst 0), (40, x_zret)]
def b69_40 : List (Nat × xI) := [(41, x_aload 3), (43, x_iconst 30), (45, x_iconst 33), (48, x_callv 3 29 3 0 0 0 0), (50, x_istore 5), (52, x_iload 5), (53, x_iconst (-1)), (56, x_icmp (fun x y => ¬ x = y) 58), (57, x_iconst 0), (58, x_zret)]
def b69_58 : List (Nat × xI) := [(59, x_aload 2), (62, x_gfr 1 0 2), (65, x_gfi 2 0), (66, x_aload 1), (69, x_gfi 3 0), (72, x_icmp (fun x y => ¬ x = y) 93), (73, x_aload 0), (74, x_aload 1), (75, x_aload 2), (76, x_aload 1), (77, x_aload 2), (80, x_gfr 1 0 2), (81, x_iconst 0), (82, x_iconst (-1)), (85, x_callv 3 31 4 0 0 0 0), (88, x_callv 7 64 4 0 0 0 0), (91, x_if (fun x => ¬ x = 0) 93), (92, x_iconst 0), (93, x_zret)]
def b69_93 : List (Nat × xI) := [(94, x_aload 0), (95, x_aload 2), (98, x_iconst 5000), (100, x_iload 4), (101, x_bin (fun x y => x + y)), (104, x_callv 7 53 3 0 0 0 0), (105, x_aload 2), (106, x_aload 3), (108, x_iload 5), (111, x_callv 3 14 2 0 0 0 0), (114, x_pfi 1 10), (115, x_aload 0), (116, x_aload 2), (117, x_aload 2), (120, x_gfi 1 10), (123, x_callv 7 53 3 0 0 0 0), (124, x_aload 2), (125, x_aload 3), (128, x_gfi 3 0), (131, x_callv 1 2 2 0 0 0 0), (132, x_iconst 1), (133, x_zret)]
def t69 : List (Nat × List (Nat × xI)) := [(0, b69_0), (40, b69_40), (58, b69_58), (93, b69_93)]
def b70_0 : List (Nat × xI) := [(1, x_iconst 0), (3, x_istore 4), (3, x_goto 3)]
def b70_3 : List (Nat × xI) := [(5, x_iload 4), (6, x_aload 3), (9, x_gfr 4 2 5), (12, x_callv 5 24 1 0 0 0 0), (15, x_icmp (fun x y => y ≤ x) 84), (16, x_aload 3), (19, x_gfr 4 2 5), (21, x_iload 4), (24, x_callv 5 23 2 0 0 0 0), (26, x_istore 5), (28, x_iload 5), (31, x_call 44 1 0 0 0 0), (34, x_if (fun x => x = 0) 78), (35, x_aload 2), (37, x_iload 5), (40, x_callv 1 4 2 0 0 0 0), (43, x_if (fun x => ¬ x = 0) 78), (44, x_aload 0), (45, x_aload 1), (46, x_aload 2), (47, x_aload 0), (50, x_gfr 7 0 11), (52, x_iload 5), (53, x_aald 11 3), (56, x_callv 7 69 4 0 0 0 0), (59, x_if (fun x => x = 0) 78), (60, x_aload 2), (61, x_aload 2), (64, x_gfi 1 6), (67, x_call 34 1 0 0 0 0), (70, x_pfi 1 11), (71, x_aload 2), (74, x_stage 4), (77, x_pfr 1 2 9), (78, x_ret)]
def b70_78 : List (Nat × xI) := [(81, x_iinc 4 1), (84, x_goto 3)]
def b70_84 : List (Nat × xI) := [(85, x_aload 0), (86, x_aload 2), (87, x_iconst 4), (90, x_callv 7 59 3 0 0 0 0), (91, x_ret)]
def t70 : List (Nat × List (Nat × xI)) := [(0, b70_0), (3, b70_3), (78, b70_78), (84, b70_84)]
def b71_0 : List (Nat × xI) := [(1, x_aload 1), (4, x_gfr 3 6 5), (5, x_iconst 0), (8, x_callv 5 23 2 0 0 0 0), (9, x_istore 2), (10, x_iload 2), (13, x_if (fun x => x < 0) 22), (14, x_iload 2), (15, x_aload 0), (18, x_gfr 7 1 12), (19, x_alen 12), (22, x_icmp (fun x y => x < y) 23), (22, x_goto 22)]
def b71_22 : List (Nat × xI) := [(23, x_ret)]
def b71_23 : List (Nat × xI) := [(24, x_aload 1), (27, x_gfr 3 6 5), (28, x_iload 2), (31, x_callv 5 38 2 0 0 0 0), (32, x_aload 0), (35, x_gfr 7 1 12), (36, x_iload 2), (37, x_aald 12 1), (38, x_astore 3), (39, x_aload 1), (40, x_aload 3), (43, x_gfi 1 6), (46, x_callv 3 17 2 0 0 0 0), (48, x_astore 4), (50, x_aload 4), (53, x_ifnull 66), (55, x_aload 4), (56, x_aload 3), (59, x_gfi 1 6), (62, x_callv 4 35 2 0 0 0 0), (63, x_iconst 2), (66, x_icmp (fun x y => y ≤ x) 75), (66, x_goto 66)]
def b71_66 : List (Nat × xI) := [(67, x_aload 0), (68, x_aload 3), (69, x_iconst 5), (72, x_callv 7 59 3 0 0 0 0), (75, x_goto 109)]
def b71_75 : List (Nat × xI) := [(77, x_aload 4), (80, x_gfi 4 1), (83, x_if (fun x => x = 0) 101), (84, x_aload 0), (85, x_aload 1), (86, x_aload 3), (88, x_aload 4), (89, x_aload 3), (92, x_gfi 1 6), (95, x_callv 4 36 2 0 0 0 0), (98, x_callv 7 67 4 0 0 0 0), (101, x_goto 109)]
def b71_101 : List (Nat × xI) := [(102, x_aload 0), (103, x_aload 1), (104, x_aload 3), (106, x_aload 4), (109, x_callv 7 70 4 0 0 0 0), (109, x_goto 109)]
def b71_109 : List (Nat × xI) := [(110, x_ret)]
def t71 : List (Nat × List (Nat × xI)) := [(0, b71_0), (22, b71_22), (23, b71_23), (66, b71_66), (75, b71_75), (101, b71_101), (109, b71_109)]
def b72_0 : List (Nat × xI) := [(1, x_aload 1), (2, x_dup), (5, x_gfi 1 11), (6, x_iconst 1), (7, x_bin (fun x y => x - y)), (10, x_pfi 1 11), (11, x_aload 1), (14, x_gfi 1 11), (17, x_if (fun x => 0 < x) 48), (18, x_aload 0), (19, x_aload 1), (20, x_aload 1), (23, x_gfi 1 9), (26, x_callv 7 66 3 0 0 0 0), (27, x_aload 1), (28, x_aload 1), (31, x_gfi 1 10), (34, x_pfi 1 9), (35, x_aload 0), (36, x_aload 0), (39, x_gfr 7 0 11), (40, x_aload 1), (43, x_gfi 1 7), (44, x_aald 11 3), (45, x_aload 1), (48, x_callv 7 61 3 0 0 0 0), (48, x_goto 48)]
def b72_48 : List (Nat × xI) := [(49, x_ret)]
def t72 : List (Nat × List (Nat × xI)) := [(0, b72_0), (48, b72_48)]
def b73_0 : List (Nat × xI) := [(1, x_iconst 0), (2, x_istore 1), (2, x_goto 2)]
def b73_2 : List (Nat × xI) := [(3, x_iload 1), (4, x_iconst 3), (7, x_icmp (fun x y => y ≤ x) 76), (9, x_iconst 30), (10, x_istore 2), (10, x_goto 10)]
def b73_10 : List (Nat × xI) := [(11, x_iload 2), (13, x_iconst 33), (16, x_icmp (fun x y => y ≤ x) 70), (17, x_aload 0), (20, x_gfr 7 0 11), (21, x_iload 1), (22, x_aald 11 3), (25, x_gfr 3 2 17), (26, x_iload 2), (27, x_aald 17 1), (28, x_astore 3), (29, x_aload 3), (32, x_ifnull 64), (33, x_aload 3), (36, x_gfr 1 2 9), (39, x_stage 4), (42, x_ane 9 64), (43, x_aload 3), (46, x_gfi 1 9), (47, x_aload 0), (50, x_gfr 7 0 11), (51, x_iload 1), (52, x_aald 11 3), (53, x_iload 2), (56, x_callv 3 14 2 0 0 0 0), (59, x_icmp (fun x y => ¬ x = y) 64), (60, x_aload 0), (61, x_aload 3), (64, x_callv 7 72 2 0 0 0 0), (64, x_goto 64)]
def b73_64 : List (Nat × xI) := [(67, x_iinc 2 1), (70, x_goto 10)]
def b73_70 : List (Nat × xI) := [(73, x_iinc 1 1), (76, x_goto 2)]
def b73_76 : List (Nat × xI) := [(77, x_ret)]
def t73 : List (Nat × List (Nat × xI)) := [(0, b73_0), (2, b73_2), (10, b73_10), (64, b73_64), (70, b73_70), (76, b73_76)]
def b74_0 : List (Nat × xI) := [(1, x_aload 1), (2, x_dup), (5, x_gfi 1 12), (6, x_iconst 1), (7, x_bin (fun x y => x + y)), (10, x_pfi 1 12), (11, x_aload 1), (14, x_gfi 1 12), (16, x_iconst 20), (19, x_icmp (fun x y => x < y) 25), (20, x_aload 0), (21, x_aload 1), (22, x_iconst 3), (25, x_callv 7 59 3 0 0 0 0), (25, x_goto 25)]
def b74_25 : List (Nat × xI) := [(26, x_ret)]
def t74 : List (Nat × List (Nat × xI)) := [(0, b74_0), (25, b74_25)]
def b75_0 : List (Nat × xI) := [(1, x_aload 1), (4, x_callv 1 5 1 0 0 0 0), (7, x_if (fun x => x = 0) 42), (8, x_aload 1), (9, x_dup), (12, x_gfi 1 13), (13, x_iconst 1), (14, x_bin (fun x y => x + y)), (17, x_pfi 1 13), (18, x_aload 1), (21, x_callv 1 7 1 0 0 0 0), (22, x_istore 2), (23, x_iload 2), (26, x_if (fun x => x ≤ 0) 39), (27, x_aload 1), (30, x_gfi 1 13), (31, x_iload 2), (34, x_icmp (fun x y => x < y) 39), (35, x_aload 0), (36, x_aload 1), (39, x_callv 7 56 2 0 0 0 0), (39, x_goto 39)]
def b75_39 : List (Nat × xI) := [(42, x_goto 74)]
def b75_42 : List (Nat × xI) := [(43, x_aload 1), (46, x_gfi 1 5), (49, x_if (fun x => ¬ x = 0) 74), (50, x_aload 1), (51, x_dup), (54, x_gfi 1 14), (55, x_iconst 1), (56, x_bin (fun x y => x + y)), (59, x_pfi 1 14), (60, x_aload 1), (63, x_gfi 1 14), (65, x_iconst 12), (68, x_icmp (fun x y => x < y) 74), (69, x_aload 0), (70, x_aload 1), (71, x_iconst 3), (74, x_callv 7 59 3 0 0 0 0), (74, x_goto 74)]
def b75_74 : List (Nat × xI) := [(75, x_ret)]
def t75 : List (Nat × List (Nat × xI)) := [(0, b75_0), (39, b75_39), (42, b75_42), (74, b75_74)]
def b76_0 : List (Nat × xI) := [(1, x_iconst 0), (2, x_istore 1), (2, x_goto 2)]
def b76_2 : List (Nat × xI) := [(3, x_iload 1), (4, x_aload 0), (7, x_gfr 7 1 12), (8, x_alen 12), (11, x_icmp (fun x y => y ≤ x) 57), (12, x_aload 0), (15, x_gfr 7 1 12), (16, x_iload 1), (17, x_aald 12 1), (18, x_astore 2), (19, x_aload 2), (22, x_gfr 1 2 9), (25, x_stage 2), (28, x_ane 9 36), (29, x_aload 0), (30, x_aload 2), (33, x_callv 7 74 2 0 0 0 0), (36, x_goto 51)]
def b76_36 : List (Nat × xI) := [(37, x_aload 2), (40, x_gfr 1 2 9), (43, x_stage 6), (46, x_ane 9 51), (47, x_aload 0), (48, x_aload 2), (51, x_callv 7 75 2 0 0 0 0), (51, x_goto 51)]
def b76_51 : List (Nat × xI) := [(54, x_iinc 1 1), (57, x_goto 2)]
def b76_57 : List (Nat × xI) := [(58, x_ret)]
def t76 : List (Nat × List (Nat × xI)) := [(0, b76_0), (2, b76_2), (36, b76_36), (51, b76_51), (57, b76_57)]
def b77_0 : List (Nat × xI) := [(1, x_iconst 0), (2, x_istore 1), (2, x_goto 2)]
def b77_2 : List (Nat × xI) := [(3, x_iload 1), (4, x_iconst 3), (7, x_icmp (fun x y => y ≤ x) 84), (8, x_aload 0), (11, x_gfr 7 0 11), (12, x_iload 1), (13, x_aald 11 3), (14, x_astore 2), (16, x_iconst 30), (17, x_istore 3), (17, x_goto 17)]
def b77_17 : List (Nat × xI) := [(18, x_iload 3), (20, x_iconst 33), (23, x_icmp (fun x y => y ≤ x) 78), (24, x_aload 2), (27, x_gfr 3 5 5), (28, x_iconst 0), (31, x_callv 5 23 2 0 0 0 0), (33, x_istore 4), (35, x_iload 4), (38, x_call 26 1 0 0 0 0), (41, x_if (fun x => x = 0) 72), (42, x_aload 2), (45, x_gfr 3 2 17), (46, x_iload 3), (47, x_aald 17 1), (50, x_ifnonnull 72), (51, x_aload 2), (54, x_gfr 3 5 5), (56, x_iload 4), (59, x_callv 5 38 2 0 0 0 0), (60, x_aload 0), (61, x_aload 2), (62, x_aload 2), (65, x_gfr 3 1 16), (67, x_iload 4), (68, x_aald 16 2), (69, x_iload 3), (72, x_callv 7 54 4 0 0 0 0), (72, x_goto 72)]
def b77_72 : List (Nat × xI) := [(75, x_iinc 3 1), (78, x_goto 17)]
def b77_78 : List (Nat × xI) := [(81, x_iinc 1 1), (84, x_goto 2)]
def b77_84 : List (Nat × xI) := [(85, x_ret)]
def t77 : List (Nat × List (Nat × xI)) := [(0, b77_0), (2, b77_2), (17, b77_17), (72, b77_72), (78, b77_78), (84, b77_84)]
def b78_0 : List (Nat × xI) := [(1, x_iload 1), (2, x_iconst 1), (4, x_iconst 100), (7, x_call 25 3 0 0 1 6), (10, x_call 45 1 1 6 1 6), (11, x_iconst 0), (12, x_istore 2), (12, x_goto 12)]
def b78_12 : List (Nat × xI) := [(13, x_iload 2), (14, x_iload 1), (17, x_icmp (fun x y => y ≤ x) 58), (18, x_iconst 0), (19, x_istore 3), (19, x_goto 19)]
def b78_19 : List (Nat × xI) := [(20, x_iload 3), (21, x_iconst 3), (24, x_icmp (fun x y => y ≤ x) 40), (25, x_aload 0), (26, x_aload 0), (29, x_gfr 7 0 11), (30, x_iload 3), (31, x_aald 11 3), (34, x_callv 7 71 2 0 0 1 6), (37, x_iinc 3 1), (40, x_goto 19)]
def b78_40 : List (Nat × xI) := [(41, x_aload 0), (44, x_callv 7 73 1 0 0 1 6), (45, x_aload 0), (48, x_callv 7 76 1 0 0 1 6), (49, x_aload 0), (52, x_callv 7 77 1 0 0 1 6), (55, x_iinc 2 1), (58, x_goto 12)]
def b78_58 : List (Nat × xI) := [(59, x_ret)]
def t78 : List (Nat × List (Nat × xI)) := [(0, b78_0), (12, b78_12), (19, b78_19), (40, b78_40), (58, b78_58)]
def b79_0 : List (Nat × xI) := [(1, x_iload 1), (2, x_iconst 0), (3, x_aload 0), (6, x_gfi 7 4), (7, x_iconst 1), (8, x_bin (fun x y => x - y)), (11, x_call 25 3 0 0 1 6), (14, x_call 45 1 1 6 1 6), (15, x_aload 0), (18, x_gfr 7 2 13), (19, x_iload 1), (20, x_aald 13 6), (21, x_astore 3), (22, x_aload 3), (25, x_gfi 6 2), (27, x_istore 4), (28, x_aload 3), (29, x_iload 2), (32, x_pfz 6 2), (33, x_iload 2), (36, x_if (fun x => x = 0) 52), (37, x_aload 3), (40, x_gfr 6 3 1), (43, x_ifnull 52), (44, x_aload 0), (45, x_aload 3), (48, x_gfr 6 3 1), (49, x_iconst 4), (52, x_callv 7 59 3 0 0 1 6), (52, x_goto 52)]
def b79_52 : List (Nat × xI) := [(54, x_iload 4), (55, x_zret)]
def t79 : List (Nat × List (Nat × xI)) := [(0, b79_0), (52, b79_52)]
def b80_0 : List (Nat × xI) := [(1, x_aload 0), (2, x_iload 1), (3, x_iload 2), (6, x_callv 7 51 3 1 6 1 6), (8, x_astore 4), (10, x_aload 4), (13, x_gfr 2 5 1), (15, x_astore 5), (17, x_aload 5), (20, x_ifnull 41), (22, x_aload 5), (25, x_gfr 1 3 2), (27, x_aload 4), (30, x_ane 2 41), (32, x_aload 5), (35, x_gfr 1 2 9), (38, x_stage 6), (41, x_aeq 9 43), (41, x_goto 41)]
def b80_41 : List (Nat × xI) := [(42, x_iconst 0), (43, x_zret)]
def b80_43 : List (Nat × xI) := [(45, x_aload 5), (46, x_iload 3), (49, x_pfz 1 5), (50, x_iload 3), (53, x_if (fun x => ¬ x = 0) 71), (55, x_aload 5), (58, x_gfr 1 0 2), (61, x_gfi 2 2), (64, x_if (fun x => ¬ x = 0) 71), (65, x_aload 0), (67, x_aload 5), (68, x_iconst 3), (71, x_callv 7 59 3 0 0 1 6), (71, x_goto 71)]
def b80_71 : List (Nat × xI) := [(72, x_iconst 1), (73, x_zret)]
def t80 : List (Nat × List (Nat × xI)) := [(0, b80_0), (41, b80_41), (43, b80_43), (71, b80_71)]
def b81_0 : List (Nat × xI) := [(1, x_aload 0), (2, x_iload 1), (3, x_iload 2), (6, x_callv 7 51 3 1 6 1 6), (9, x_gfi 2 3), (10, x_iret)]
def t81 : List (Nat × List (Nat × xI)) := [(0, b81_0)]
def b82_0 : List (Nat × xI) := [(1, x_aload 0), (2, x_iload 1), (3, x_iload 2), (6, x_callv 7 51 3 1 6 1 6), (7, x_astore 3), (8, x_aload 3), (11, x_gfr 2 5 1), (13, x_astore 4), (15, x_aload 4), (18, x_ifnull 42), (20, x_aload 4), (23, x_gfr 1 3 2), (24, x_aload 3), (27, x_ane 2 42), (29, x_aload 4), (32, x_gfr 1 2 9), (35, x_stage 5), (38, x_ane 9 42), (39, x_iconst 1), (42, x_goto 43)]
def b82_42 : List (Nat × xI) := [(43, x_iconst 0), (43, x_goto 43)]
def b82_43 : List (Nat × xI) := [(44, x_zret)]
def t82 : List (Nat × List (Nat × xI)) := [(0, b82_0), (42, b82_42), (43, b82_43)]
def b83_0 : List (Nat × xI) := [(1, x_aload 0), (2, x_iload 1), (3, x_iload 2), (6, x_callv 7 51 3 1 6 1 6), (7, x_astore 3), (8, x_aload 3), (11, x_gfr 2 5 1), (13, x_astore 4), (15, x_aload 4), (18, x_ifnull 48), (20, x_aload 4), (23, x_gfr 1 2 9), (26, x_stage 6), (29, x_ane 9 48), (31, x_aload 4), (34, x_gfr 1 0 2), (37, x_gfi 2 2), (40, x_if (fun x => x = 0) 48), (42, x_aload 4), (45, x_callv 1 5 1 0 0 1 6), (48, x_if (fun x => ¬ x = 0) 50), (48, x_goto 48)]
def b83_48 : List (Nat × xI) := [(49, x_iconst (-1)), (50, x_iret)]
def b83_50 : List (Nat × xI) := [(52, x_aload 4), (55, x_gfr 1 3 2), (56, x_aload 3), (59, x_ane 2 70), (61, x_aload 4), (64, x_gfr 1 0 2), (67, x_callv 2 9 1 0 0 1 6), (70, x_goto 78)]
def b83_70 : List (Nat × xI) := [(72, x_aload 4), (75, x_gfr 1 3 2), (78, x_callv 2 9 1 0 0 1 6), (78, x_goto 78)]
def b83_78 : List (Nat × xI) := [(79, x_iret)]
def t83 : List (Nat × List (Nat × xI)) := [(0, b83_0), (48, b83_48), (50, b83_50), (70, b83_70), (78, b83_78)]
def b84_0 : List (Nat × xI) := [(1, x_aload 0), (2, x_iload 1), (3, x_iload 2), (6, x_callv 7 51 3 1 6 1 6), (9, x_gfi 2 4), (10, x_iret)]
def t84 : List (Nat × List (Nat × xI)) := [(0, b84_0)]
def b85_0 : List (Nat × xI) := [(1, x_aload 0), (2, x_iload 1), (3, x_iload 2), (6, x_callv 7 51 3 1 6 2 12), (8, x_astore 4), (9, x_iload 3), (12, x_if (fun x => x < 0) 16), (13, x_iconst 1), (16, x_goto 17)]
def b85_16 : List (Nat × xI) := [(17, x_iconst 0), (17, x_goto 17)]
def b85_17 : List (Nat × xI) := [(20, x_call 45 1 1 6 2 12), (22, x_aload 4), (25, x_gfr 2 5 1), (27, x_astore 5), (29, x_aload 5), (32, x_ifnull 54), (34, x_aload 5), (37, x_gfr 1 0 2), (39, x_aload 4), (42, x_ane 2 54), (44, x_aload 5), (47, x_gfr 1 1 5), (48, x_iload 3), (51, x_callv 5 23 2 0 0 2 12), (54, x_goto 55)]
def b85_54 : List (Nat × xI) := [(55, x_iconst (-1)), (55, x_goto 55)]
def b85_55 : List (Nat × xI) := [(56, x_iret)]
def t85 : List (Nat × List (Nat × xI)) := [(0, b85_0), (16, b85_16), (17, b85_17), (54, b85_54), (55, b85_55)]
def b86_0 : List (Nat × xI) := [(1, x_iconst 0), (2, x_istore 2), (3, x_iconst 0), (4, x_istore 3), (4, x_goto 4)]
def b86_4 : List (Nat × xI) := [(5, x_iload 3), (6, x_aload 0), (9, x_gfi 7 4), (12, x_icmp (fun x y => y ≤ x) 46), (13, x_aload 0), (16, x_gfr 7 2 13), (17, x_iload 3), (18, x_aald 13 6), (21, x_callv 6 41 1 0 0 0 0), (24, x_if (fun x => x = 0) 40), (25, x_aload 0), (28, x_gfr 7 2 13), (29, x_iload 3), (30, x_aald 13 6), (31, x_iload 1), (34, x_callv 6 42 2 0 0 0 0), (37, x_if (fun x => x = 0) 40), (40, x_iinc 2 1), (40, x_goto 40)]
def b86_40 : List (Nat × xI) := [(43, x_iinc 3 1), (46, x_goto 4)]
def b86_46 : List (Nat × xI) := [(47, x_iload 2), (48, x_iret)]
def t86 : List (Nat × List (Nat × xI)) := [(0, b86_0), (4, b86_4), (40, b86_40), (46, b86_46)]
def b87_0 : List (Nat × xI) := [(1, x_iload 1), (4, x_call 44 1 0 0 2 12), (7, x_call 45 1 1 6 2 12), (8, x_aload 0), (11, x_gfr 7 0 11), (12, x_iload 1), (13, x_aald 11 3), (14, x_astore 3), (15, x_iload 2), (52, x_switch 0 [52, 61, 69, 78, 84, 92] 100)]
def b87_52 : List (Nat × xI) := [(53, x_aload 3), (55, x_iconst 30), (57, x_iconst 33), (60, x_callv 3 30 3 0 0 2 12), (61, x_iret)]
def b87_61 : List (Nat × xI) := [(62, x_aload 3), (63, x_iconst 0), (65, x_iconst 12), (68, x_callv 3 30 3 0 0 2 12), (69, x_iret)]
def b87_69 : List (Nat × xI) := [(70, x_aload 3), (72, x_iconst 20), (74, x_iconst 25), (77, x_callv 3 30 3 0 0 2 12), (78, x_iret)]
def b87_78 : List (Nat × xI) := [(79, x_aload 0), (80, x_iload 1), (83, x_callv 7 86 2 0 0 2 12), (84, x_iret)]
def b87_84 : List (Nat × xI) := [(85, x_aload 3), (88, x_gfr 3 5 5), (91, x_callv 5 24 1 0 0 2 12), (92, x_iret)]
def b87_92 : List (Nat × xI) := [(93, x_aload 3), (96, x_gfr 3 6 5), (99, x_callv 5 24 1 0 0 2 12), (100, x_iret)]
def b87_100 : List (Nat × xI) := [(103, x_throw 1 2 12)]
def t87 : List (Nat × List (Nat × xI)) := [(0, b87_0), (52, b87_52), (61, b87_61), (69, b87_69), (78, b87_78), (84, b87_84), (92, b87_92), (100, b87_100)]
def b88_0 : List (Nat × xI) := [(1, x_iload 1), (4, x_call 44 1 0 0 1 6), (7, x_if (fun x => x = 0) 18), (8, x_iload 2), (11, x_call 44 1 0 0 1 6), (14, x_if (fun x => x = 0) 18), (15, x_iconst 1), (18, x_goto 19)]
def b88_18 : List (Nat × xI) := [(19, x_iconst 0), (19, x_goto 19)]
def b88_19 : List (Nat × xI) := [(22, x_call 45 1 1 6 1 6), (23, x_aload 0), (26, x_gfr 7 3 14), (27, x_iload 1), (28, x_aald 14 15), (29, x_iload 2), (30, x_ald 15), (31, x_iret)]
def t88 : List (Nat × List (Nat × xI)) := [(0, b88_0), (18, b88_18), (19, b88_19)]
def b89_0 : List (Nat × xI) := [(1, x_aload 0), (4, x_objinit), (5, x_aload 0), (7, x_iconst 72), (9, x_newr 22 43 3970), (12, x_pfr 8 3 22), (13, x_aload 0), (15, x_iconst 72), (17, x_newr 23 43 3970), (20, x_pfr 8 4 23), (21, x_aload 0), (23, x_iconst 72), (25, x_newr 24 43 3970), (28, x_pfr 8 5 24), (29, x_aload 0), (31, x_iconst 72), (33, x_newr 25 43 3970), (36, x_pfr 8 6 25), (37, x_aload 0), (39, x_iconst 12), (41, x_newr 26 43 3970), (44, x_pfr 8 7 26), (45, x_aload 0), (47, x_iconst 72), (49, x_newr 27 43 3970), (52, x_pfr 8 8 27), (53, x_aload 0), (55, x_iconst 72), (57, x_newr 28 43 3970), (60, x_pfr 8 9 28), (61, x_aload 0), (62, x_iconst 3), (64, x_newr 29 43 3970), (67, x_pfr 8 10 29), (68, x_aload 0), (70, x_iconst 36), (72, x_newr 30 43 3970), (75, x_pfr 8 11 30), (76, x_aload 0), (78, x_iconst 36), (80, x_newr 31 43 3970), (83, x_pfr 8 12 31), (84, x_aload 0), (86, x_iconst 36), (88, x_newr 32 43 3970), (91, x_pfr 8 13 32), (92, x_aload 0), (94, x_iconst 36), (96, x_newr 33 43 3970), (99, x_pfr 8 14 33), (100, x_aload 0), (102, x_iconst 36), (104, x_newr 34 43 3970), (107, x_pfr 8 15 34), (108, x_aload 0), (110, x_iconst 108), (112, x_newr 35 43 3970), (115, x_pfr 8 16 35), (116, x_aload 0), (118, x_iconst 36), (120, x_newr 36 43 3970), (123, x_pfr 8 17 36), (124, x_aload 0), (126, x_iconst 15), (128, x_newr 37 43 3970), (131, x_pfr 8 18 37), (132, x_aload 0), (134, x_iconst 9), (136, x_newr 38 43 3970), (139, x_pfr 8 19 38), (140, x_aload 0), (142, x_iconst 16), (144, x_newr 39 43 3970), (147, x_pfr 8 21 39), (148, x_aload 0), (150, x_iconst 16), (152, x_newr 40 43 3970), (155, x_pfr 8 22 40), (156, x_aload 0), (158, x_iconst 16), (160, x_newr 41 43 3970), (163, x_pfr 8 23 41), (164, x_aload 0), (166, x_iconst 16), (168, x_newr 42 43 3970), (171, x_pfr 8 24 42), (172, x_aload 0), (173, x_iconst 3), (175, x_newr 43 43 3970), (178, x_pfr 8 25 43), (179, x_aload 0), (181, x_iconst 9), (183, x_newr 44 43 3970), (186, x_pfr 8 26 44), (187, x_aload 0), (188, x_iconst 3), (190, x_newr 45 43 3970), (193, x_pfr 8 27 45), (194, x_aload 0), (197, x_iconst 216), (199, x_newr 46 43 3970), (202, x_pfr 8 28 46), (203, x_aload 0), (205, x_iconst 72), (207, x_newr 47 43 3970), (210, x_pfr 8 29 47), (211, x_aload 0), (213, x_iconst 72), (215, x_newr 48 43 3970), (218, x_pfr 8 30 48), (219, x_aload 0), (222, x_iconst 576), (224, x_newr 49 43 3970), (227, x_pfr 8 31 49), (228, x_aload 0), (230, x_iconst 72), (232, x_newr 50 43 3970), (235, x_pfr 8 32 50), (236, x_aload 0), (238, x_iconst 72), (240, x_newr 51 43 3970), (243, x_pfr 8 33 51), (244, x_aload 0), (246, x_iconst 72), (248, x_newr 52 43 3970), (251, x_pfr 8 34 52), (252, x_aload 0), (254, x_iconst 72), (256, x_newr 53 43 3970), (259, x_pfr 8 35 53), (260, x_aload 0), (262, x_iconst 72), (264, x_newr 54 43 3970), (267, x_pfr 8 36 54), (268, x_aload 0), (270, x_iconst 72), (272, x_newr 55 43 3970), (275, x_pfr 8 37 55), (276, x_aload 0), (278, x_iconst 72), (280, x_newr 56 43 3970), (283, x_pfr 8 38 56), (284, x_aload 0), (286, x_iconst 72), (288, x_newr 57 43 3970), (291, x_pfr 8 39 57), (292, x_aload 0), (294, x_iconst 72), (296, x_newr 58 43 3970), (299, x_pfr 8 40 58), (300, x_aload 0), (302, x_iconst 72), (304, x_newr 59 43 3970), (307, x_pfr 8 41 59), (308, x_aload 0), (310, x_iconst 72), (312, x_newr 60 43 3970), (315, x_pfr 8 42 60), (316, x_aload 0), (318, x_iconst 72), (320, x_newr 61 43 3970), (323, x_pfr 8 43 61), (324, x_aload 0), (326, x_iconst 72), (328, x_newr 62 43 3970), (331, x_pfr 8 44 62), (332, x_aload 0), (334, x_iconst 72), (336, x_newr 63 43 3970), (339, x_pfr 8 45 63), (340, x_aload 0), (343, x_iconst 1152), (345, x_newr 64 43 3970), (348, x_pfr 8 46 64), (349, x_iconst 0), (350, x_istore 1), (350, x_goto 350)]
def b89_350 : List (Nat × xI) := [(351, x_iload 1), (353, x_iconst 72), (356, x_icmp (fun x y => y ≤ x) 383), (357, x_aload 0), (360, x_gfr 8 5 24), (361, x_iload 1), (362, x_iconst (-1)), (363, x_ast 24), (364, x_aload 0), (367, x_gfr 8 9 28), (368, x_iload 1), (369, x_iconst (-1)), (370, x_ast 28), (371, x_aload 0), (374, x_gfr 8 39 57), (375, x_iload 1), (376, x_iconst (-1)), (377, x_ast 57), (380, x_iinc 1 1), (383, x_goto 350)]
def b89_383 : List (Nat × xI) := [(384, x_iconst 0), (385, x_istore 1), (385, x_goto 385)]
def b89_385 : List (Nat × xI) := [(386, x_iload 1), (388, x_iconst 36), (391, x_icmp (fun x y => y ≤ x) 404), (392, x_aload 0), (395, x_gfr 8 17 36), (396, x_iload 1), (397, x_iconst (-1)), (398, x_ast 36), (401, x_iinc 1 1), (404, x_goto 385)]
def b89_404 : List (Nat × xI) := [(405, x_iconst 0), (406, x_istore 1), (406, x_goto 406)]
def b89_406 : List (Nat × xI) := [(407, x_iload 1), (409, x_iconst 15), (412, x_icmp (fun x y => y ≤ x) 425), (413, x_aload 0), (416, x_gfr 8 18 37), (417, x_iload 1), (418, x_iconst (-1)), (419, x_ast 37), (422, x_iinc 1 1), (425, x_goto 406)]
def b89_425 : List (Nat × xI) := [(426, x_iconst 0), (427, x_istore 1), (427, x_goto 427)]
def b89_427 : List (Nat × xI) := [(428, x_iload 1), (430, x_iconst 9), (433, x_icmp (fun x y => y ≤ x) 446), (434, x_aload 0), (437, x_gfr 8 19 38), (438, x_iload 1), (439, x_iconst (-1)), (440, x_ast 38), (443, x_iinc 1 1), (446, x_goto 427)]
def b89_446 : List (Nat × xI) := [(447, x_iconst 0), (448, x_istore 1), (448, x_goto 448)]
def b89_448 : List (Nat × xI) := [(449, x_iload 1), (451, x_iconst 16), (454, x_icmp (fun x y => y ≤ x) 467), (455, x_aload 0), (458, x_gfr 8 23 41), (459, x_iload 1), (460, x_iconst (-1)), (461, x_ast 41), (464, x_iinc 1 1), (467, x_goto 448)]
def b89_467 : List (Nat × xI) := [(468, x_ret)]
def t89 : List (Nat × List (Nat × xI)) := [(0, b89_0), (350, b89_350), (383, b89_383), (385, b89_385), (404, b89_404), (406, b89_406), (425, b89_425), (427, b89_427), (446, b89_446), (448, b89_448), (467, b89_467)]
def b90_0 : List (Nat × xI) := [(1, x_aload 0), (4, x_gfi 8 0), (5, x_iret)]
def t90 : List (Nat × List (Nat × xI)) := [(0, b90_0)]
def b91_0 : List (Nat × xI) := [(1, x_aload 0), (2, x_iload 1), (5, x_pfi 8 0), (6, x_iload 1), (9, x_if (fun x => x ≤ 0) 13), (10, x_iconst 1), (13, x_goto 14)]
def b91_13 : List (Nat × xI) := [(14, x_iconst 0), (14, x_goto 14)]
def b91_14 : List (Nat × xI) := [(15, x_zret)]
def t91 : List (Nat × List (Nat × xI)) := [(0, b91_0), (13, b91_13), (14, b91_14)]
def b92_0 : List (Nat × xI) := [(1, x_iload 0), (2, x_iload 1), (5, x_icmp (fun x y => x < y) 14), (6, x_iload 0), (7, x_iload 2), (10, x_icmp (fun x y => y < x) 14), (11, x_iconst 1), (14, x_goto 15)]
def b92_14 : List (Nat × xI) := [(15, x_iconst 0), (15, x_goto 15)]
def b92_15 : List (Nat × xI) := [(16, x_zret)]
def t92 : List (Nat × List (Nat × xI)) := [(0, b92_0), (14, b92_14), (15, b92_15)]
def b93_0 : List (Nat × xI) := [(1, x_iload 0), (2, x_iconst 0), (3, x_iconst 2), (6, x_call 92 3 0 0 0 0), (9, x_if (fun x => x = 0) 23), (10, x_iload 1), (11, x_iconst 0), (13, x_iconst 23), (16, x_call 92 3 0 0 0 0), (19, x_if (fun x => x = 0) 23), (20, x_iconst 1), (23, x_goto 24)]
def b93_23 : List (Nat × xI) := [(24, x_iconst 0), (24, x_goto 24)]
def b93_24 : List (Nat × xI) := [(25, x_zret)]
def t93 : List (Nat × List (Nat × xI)) := [(0, b93_0), (23, b93_23), (24, b93_24)]
def b94_0 : List (Nat × xI) := [(1, x_aload 0), (2, x_iload 1), (3, x_iconst 0), (4, x_iconst 2), (7, x_call 92 3 0 0 0 0), (10, x_if (fun x => x = 0) 24), (11, x_iload 2), (12, x_iconst 0), (13, x_iconst 2), (16, x_call 92 3 0 0 0 0), (19, x_if (fun x => x = 0) 24), (20, x_iload 1), (21, x_iload 2), (24, x_icmp (fun x y => ¬ x = y) 28), (24, x_goto 24)]
def b94_24 : List (Nat × xI) := [(25, x_iconst 1), (28, x_goto 42)]
def b94_28 : List (Nat × xI) := [(29, x_aload 0), (32, x_gfi 8 20), (34, x_iconst 16), (37, x_icmp (fun x y => ¬ x = y) 41), (38, x_iconst 2), (41, x_goto 42)]
def b94_41 : List (Nat × xI) := [(42, x_iconst 0), (42, x_goto 42)]
def b94_42 : List (Nat × xI) := [(45, x_callv 8 91 2 0 0 0 0), (48, x_if (fun x => x = 0) 50), (49, x_iconst 0), (50, x_iret)]
def b94_50 : List (Nat × xI) := [(51, x_aload 0), (54, x_gfr 8 21 39), (55, x_aload 0), (58, x_gfi 8 20), (59, x_iload 1), (60, x_ast 39), (61, x_aload 0), (64, x_gfr 8 22 40), (65, x_aload 0), (68, x_gfi 8 20), (69, x_iload 2), (70, x_ast 40), (71, x_aload 0), (72, x_dup), (75, x_gfi 8 20), (76, x_iconst 1), (77, x_bin (fun x y => x + y)), (80, x_pfi 8 20), (81, x_aload 0), (84, x_gfi 8 20), (85, x_iconst 1), (86, x_bin (fun x y => x - y)), (87, x_iret)]
def t94 : List (Nat × List (Nat × xI)) := [(0, b94_0), (24, b94_24), (28, b94_28), (41, b94_41), (42, b94_42), (50, b94_50)]
def b95_0 : List (Nat × xI) := [(1, x_iload 0), (4, x_iconst 999), (7, x_icmp (fun x y => x ≤ y) 11), (8, x_iconst 3), (11, x_goto 22)]
def b95_11 : List (Nat × xI) := [(12, x_iload 0), (14, x_iconst 99), (17, x_icmp (fun x y => x ≤ y) 21), (18, x_iconst 2), (21, x_goto 22)]
def b95_21 : List (Nat × xI) := [(22, x_iconst 1), (22, x_goto 22)]
def b95_22 : List (Nat × xI) := [(23, x_iret)]
def t95 : List (Nat × List (Nat × xI)) := [(0, b95_0), (11, b95_11), (21, b95_21), (22, b95_22)]
def b96_0 : List (Nat × xI) := [(1, x_iload 0), (2, x_istore 2), (3, x_iload 1), (4, x_istore 3), (4, x_goto 4)]
def b96_4 : List (Nat × xI) := [(5, x_iload 2), (8, x_call 95 1 0 0 0 0), (9, x_iload 3), (12, x_call 95 1 0 0 0 0), (15, x_icmp (fun x y => x ≤ y) 23), (16, x_iload 2), (18, x_iconst 10), (19, x_idiv), (20, x_istore 2), (23, x_goto 4)]
def b96_23 : List (Nat × xI) := [(24, x_iload 3), (27, x_call 95 1 0 0 0 0), (28, x_iload 2), (31, x_call 95 1 0 0 0 0), (34, x_icmp (fun x y => x ≤ y) 42), (35, x_iload 3), (37, x_iconst 10), (38, x_idiv), (39, x_istore 3), (42, x_goto 23)]
def b96_42 : List (Nat × xI) := [(43, x_iload 2), (44, x_iload 3), (47, x_icmp (fun x y => ¬ x = y) 51), (48, x_iconst 1), (51, x_goto 52)]
def b96_51 : List (Nat × xI) := [(52, x_iconst 0), (52, x_goto 52)]
def b96_52 : List (Nat × xI) := [(53, x_zret)]
def t96 : List (Nat × List (Nat × xI)) := [(0, b96_0), (4, b96_4), (23, b96_23), (42, b96_42), (51, b96_51), (52, b96_52)]
def b97_0 : List (Nat × xI) := [(1, x_iload 2), (3, x_iconst 10), (5, x_iconst 19), (8, x_call 92 3 0 0 0 0), (11, x_if (fun x => ¬ x = 0) 36), (12, x_iload 2), (14, x_iconst 100), (17, x_iconst 199), (20, x_call 92 3 0 0 0 0), (23, x_if (fun x => ¬ x = 0) 36), (24, x_iload 2), (27, x_iconst 1000), (30, x_iconst 1999), (33, x_call 92 3 0 0 0 0), (36, x_if (fun x => x = 0) 40), (36, x_goto 36)]
def b97_36 : List (Nat × xI) := [(37, x_iconst 1), (40, x_goto 41)]
def b97_40 : List (Nat × xI) := [(41, x_iconst 0), (41, x_goto 41)]
def b97_41 : List (Nat × xI) := [(43, x_istore 6), (44, x_iload 1), (45, x_iconst 0), (46, x_iconst 2), (49, x_call 92 3 0 0 0 0), (52, x_if (fun x => x = 0) 93), (54, x_iload 6), (57, x_if (fun x => x = 0) 93), (58, x_iload 3), (59, x_iconst 0), (60, x_iconst 2), (63, x_call 92 3 0 0 0 0), (66, x_if (fun x => x = 0) 93), (68, x_iload 4), (69, x_iconst 0), (71, x_iconst 99), (74, x_call 92 3 0 0 0 0), (77, x_if (fun x => x = 0) 93), (79, x_iload 5), (80, x_iconst 0), (83, x_iconst 1000), (86, x_call 92 3 0 0 0 0), (89, x_if (fun x => x = 0) 93), (90, x_iconst 1), (93, x_goto 94)]
def b97_93 : List (Nat × xI) := [(94, x_iconst 0), (94, x_goto 94)]
def b97_94 : List (Nat × xI) := [(96, x_istore 7), (97, x_aload 0), (99, x_iload 7), (102, x_if (fun x => x = 0) 106), (103, x_iconst 0), (106, x_goto 107)]
def b97_106 : List (Nat × xI) := [(107, x_iconst 1), (107, x_goto 107)]
def b97_107 : List (Nat × xI) := [(110, x_callv 8 91 2 0 0 0 0), (113, x_if (fun x => x = 0) 115), (114, x_iconst 0), (115, x_iret)]
def b97_115 : List (Nat × xI) := [(116, x_iconst (-1)), (118, x_istore 8), (119, x_iconst 0), (121, x_istore 9), (123, x_iconst 12), (124, x_iload 1), (125, x_bin (fun x y => x * y)), (127, x_istore 10), (127, x_goto 127)]
def b97_127 : List (Nat × xI) := [(129, x_iload 10), (131, x_iconst 12), (132, x_iload 1), (133, x_bin (fun x y => x * y)), (134, x_aload 0), (137, x_gfr 8 10 29), (138, x_iload 1), (139, x_ald 29), (140, x_bin (fun x y => x + y)), (143, x_icmp (fun x y => y ≤ x) 206), (144, x_aload 0), (147, x_gfr 8 11 30), (149, x_iload 10), (150, x_ald 30), (151, x_iload 2), (154, x_icmp (fun x y => ¬ x = y) 159), (156, x_iload 10), (159, x_goto 161)]
def b97_159 : List (Nat × xI) := [(161, x_iload 8), (161, x_goto 161)]
def b97_161 : List (Nat × xI) := [(163, x_istore 8), (165, x_iload 9), (168, x_if (fun x => ¬ x = 0) 193), (169, x_aload 0), (172, x_gfr 8 11 30), (174, x_iload 10), (175, x_ald 30), (176, x_iload 2), (179, x_icmp (fun x y => x = y) 197), (180, x_aload 0), (183, x_gfr 8 11 30), (185, x_iload 10), (186, x_ald 30), (187, x_iload 2), (190, x_call 96 2 0 0 0 0), (193, x_if (fun x => x = 0) 197), (193, x_goto 193)]
def b97_193 : List (Nat × xI) := [(194, x_iconst 1), (197, x_goto 198)]
def b97_197 : List (Nat × xI) := [(198, x_iconst 0), (198, x_goto 198)]
def b97_198 : List (Nat × xI) := [(200, x_istore 9), (203, x_iinc 10 1), (206, x_goto 127)]
def b97_206 : List (Nat × xI) := [(208, x_iload 9), (211, x_if (fun x => ¬ x = 0) 227), (213, x_iload 8), (216, x_if (fun x => 0 ≤ x) 231), (217, x_aload 0), (220, x_gfr 8 10 29), (221, x_iload 1), (222, x_ald 29), (224, x_iconst 12), (227, x_icmp (fun x y => ¬ x = y) 231), (227, x_goto 227)]
def b97_227 : List (Nat × xI) := [(228, x_iconst 1), (231, x_goto 232)]
def b97_231 : List (Nat × xI) := [(232, x_iconst 0), (232, x_goto 232)]
def b97_232 : List (Nat × xI) := [(234, x_istore 10), (236, x_iload 8), (239, x_if (fun x => x < 0) 326), (241, x_iload 10), (244, x_if (fun x => ¬ x = 0) 270), (245, x_aload 0), (248, x_gfr 8 15 34), (250, x_iload 8), (251, x_ald 34), (254, x_if (fun x => ¬ x = 0) 270), (255, x_iload 3), (256, x_iload 1), (259, x_icmp (fun x y => x = y) 270), (260, x_aload 0), (263, x_gfr 8 14 33), (265, x_iload 8), (266, x_ald 33), (267, x_iconst 3), (270, x_icmp (fun x y => ¬ x = y) 274), (270, x_goto 270)]
def b97_270 : List (Nat × xI) := [(271, x_iconst 1), (274, x_goto 275)]
def b97_274 : List (Nat × xI) := [(275, x_iconst 0), (275, x_goto 275)]
def b97_275 : List (Nat × xI) := [(277, x_istore 10), (278, x_iconst 0), (280, x_istore 11), (280, x_goto 280)]
def b97_280 : List (Nat × xI) := [(282, x_iload 11), (283, x_aload 0), (286, x_gfr 8 14 33), (288, x_iload 8), (289, x_ald 33), (292, x_icmp (fun x y => y ≤ x) 326), (294, x_iload 10), (297, x_if (fun x => ¬ x = 0) 313), (298, x_aload 0), (301, x_gfr 8 16 35), (302, x_iconst 3), (304, x_iload 8), (305, x_bin (fun x y => x * y)), (307, x_iload 11), (308, x_bin (fun x y => x + y)), (309, x_ald 35), (310, x_iload 3), (313, x_icmp (fun x y => ¬ x = y) 317), (313, x_goto 313)]
def b97_313 : List (Nat × xI) := [(314, x_iconst 1), (317, x_goto 318)]
def b97_317 : List (Nat × xI) := [(318, x_iconst 0), (318, x_goto 318)]
def b97_318 : List (Nat × xI) := [(320, x_istore 10), (323, x_iinc 11 1), (326, x_goto 280)]
def b97_326 : List (Nat × xI) := [(327, x_aload 0), (329, x_iload 10), (332, x_if (fun x => x = 0) 336), (333, x_iconst 2), (336, x_goto 337)]
def b97_336 : List (Nat × xI) := [(337, x_iconst 0), (337, x_goto 337)]
def b97_337 : List (Nat × xI) := [(340, x_callv 8 91 2 0 0 0 0), (343, x_if (fun x => x = 0) 345), (344, x_iconst 0), (345, x_iret)]
def b97_345 : List (Nat × xI) := [(347, x_iload 8), (350, x_if (fun x => 0 ≤ x) 406), (352, x_iconst 12), (353, x_iload 1), (354, x_bin (fun x y => x * y)), (355, x_aload 0), (358, x_gfr 8 10 29), (359, x_iload 1), (360, x_ald 29), (361, x_bin (fun x y => x + y)), (363, x_istore 8), (364, x_aload 0), (367, x_gfr 8 10 29), (368, x_iload 1), (369, x_dup2), (370, x_ald 29), (371, x_iconst 1), (372, x_bin (fun x y => x + y)), (373, x_ast 29), (374, x_aload 0), (377, x_gfr 8 11 30), (379, x_iload 8), (380, x_iload 2), (381, x_ast 30), (382, x_aload 0), (385, x_gfr 8 15 34), (387, x_iload 8), (388, x_iload 3), (389, x_iload 1), (392, x_icmp (fun x y => ¬ x = y) 396), (393, x_iconst 1), (396, x_goto 397)]
def b97_396 : List (Nat × xI) := [(397, x_iconst 0), (397, x_goto 397)]
def b97_397 : List (Nat × xI) := [(398, x_zst 34), (399, x_aload 0), (402, x_gfr 8 14 33), (404, x_iload 8), (405, x_iconst 0), (406, x_ast 33), (406, x_goto 406)]
def b97_406 : List (Nat × xI) := [(407, x_aload 0), (410, x_gfr 8 12 31), (412, x_iload 8), (414, x_iload 4), (415, x_ast 31), (416, x_aload 0), (419, x_gfr 8 13 32), (421, x_iload 8), (423, x_iload 5), (424, x_ast 32), (425, x_iload 3), (426, x_iload 1), (429, x_icmp (fun x y => x = y) 458), (430, x_aload 0), (433, x_gfr 8 16 35), (434, x_iconst 3), (436, x_iload 8), (437, x_bin (fun x y => x * y)), (438, x_aload 0), (441, x_gfr 8 14 33), (443, x_iload 8), (444, x_ald 33), (445, x_bin (fun x y => x + y)), (446, x_iload 3), (447, x_ast 35), (448, x_aload 0), (451, x_gfr 8 14 33), (453, x_iload 8), (454, x_dup2), (455, x_ald 33), (456, x_iconst 1), (457, x_bin (fun x y => x + y)), (458, x_ast 33), (458, x_goto 458)]
def b97_458 : List (Nat × xI) := [(459, x_aload 0), (462, x_gfr 8 14 33), (464, x_iload 8), (465, x_ald 33), (466, x_iret)]
def t97 : List (Nat × List (Nat × xI)) := [(0, b97_0), (36, b97_36), (40, b97_40), (41, b97_41), (93, b97_93), (94, b97_94), (106, b97_106), (107, b97_107), (115, b97_115), (127, b97_127), (159, b97_159), (161, b97_161), (193, b97_193), (197, b97_197), (198, b97_198), (206, b97_206), (227, b97_227), (231, b97_231), (232, b97_232), (270, b97_270), (274, b97_274), (275, b97_275), (280, b97_280), (313, b97_313), (317, b97_317), (318, b97_318), (326, b97_326), (336, b97_336), (337, b97_337), (345, b97_345), (396, b97_396), (397, b97_397), (406, b97_406), (458, b97_458)]
def b98_0 : List (Nat × xI) := [(1, x_aload 0), (2, x_iload 1), (3, x_iload 3), (6, x_call 93 2 0 0 0 0), (9, x_if (fun x => x = 0) 22), (10, x_iload 2), (11, x_iconst 0), (12, x_iconst 3), (15, x_call 92 3 0 0 0 0), (18, x_if (fun x => x = 0) 22), (19, x_iconst 0), (22, x_goto 23)]
def b98_22 : List (Nat × xI) := [(23, x_iconst 1), (23, x_goto 23)]
def b98_23 : List (Nat × xI) := [(26, x_callv 8 91 2 0 0 0 0), (29, x_if (fun x => x = 0) 31), (30, x_iconst 0), (31, x_iret)]
def b98_31 : List (Nat × xI) := [(32, x_iconst 0), (34, x_istore 4), (35, x_iconst 4), (36, x_iload 1), (37, x_bin (fun x y => x * y)), (39, x_istore 5), (39, x_goto 39)]
def b98_39 : List (Nat × xI) := [(41, x_iload 5), (42, x_iconst 4), (43, x_iload 1), (44, x_bin (fun x y => x * y)), (45, x_iconst 4), (46, x_bin (fun x y => x + y)), (49, x_icmp (fun x y => y ≤ x) 105), (50, x_iconst 0), (52, x_istore 6), (52, x_goto 52)]
def b98_52 : List (Nat × xI) := [(54, x_iload 6), (55, x_aload 0), (58, x_gfr 8 7 26), (60, x_iload 5), (61, x_ald 26), (64, x_icmp (fun x y => y ≤ x) 99), (66, x_iload 4), (69, x_if (fun x => ¬ x = 0) 86), (70, x_aload 0), (73, x_gfr 8 8 27), (75, x_iconst 6), (77, x_iload 5), (78, x_bin (fun x y => x * y)), (80, x_iload 6), (81, x_bin (fun x y => x + y)), (82, x_ald 27), (83, x_iload 3), (86, x_icmp (fun x y => ¬ x = y) 90), (86, x_goto 86)]
def b98_86 : List (Nat × xI) := [(87, x_iconst 1), (90, x_goto 91)]
def b98_90 : List (Nat × xI) := [(91, x_iconst 0), (91, x_goto 91)]
def b98_91 : List (Nat × xI) := [(93, x_istore 4), (96, x_iinc 6 1), (99, x_goto 52)]
def b98_99 : List (Nat × xI) := [(102, x_iinc 5 1), (105, x_goto 39)]
def b98_105 : List (Nat × xI) := [(106, x_iconst 4), (107, x_iload 1), (108, x_bin (fun x y => x * y)), (109, x_iload 2), (110, x_bin (fun x y => x + y)), (112, x_istore 5), (113, x_aload 0), (115, x_iload 4), (118, x_if (fun x => ¬ x = 0) 130), (119, x_aload 0), (122, x_gfr 8 7 26), (124, x_iload 5), (125, x_ald 26), (127, x_iconst 6), (130, x_icmp (fun x y => ¬ x = y) 134), (130, x_goto 130)]
def b98_130 : List (Nat × xI) := [(131, x_iconst 2), (134, x_goto 135)]
def b98_134 : List (Nat × xI) := [(135, x_iconst 0), (135, x_goto 135)]
def b98_135 : List (Nat × xI) := [(138, x_callv 8 91 2 0 0 0 0), (141, x_if (fun x => x = 0) 143), (142, x_iconst 0), (143, x_iret)]
def b98_143 : List (Nat × xI) := [(144, x_aload 0), (147, x_gfr 8 8 27), (149, x_iconst 6), (151, x_iload 5), (152, x_bin (fun x y => x * y)), (153, x_aload 0), (156, x_gfr 8 7 26), (158, x_iload 5), (159, x_ald 26), (160, x_bin (fun x y => x + y)), (161, x_iload 3), (162, x_ast 27), (163, x_aload 0), (166, x_gfr 8 7 26), (168, x_iload 5), (169, x_dup2), (170, x_ald 26), (171, x_iconst 1), (172, x_bin (fun x y => x + y)), (173, x_ast 26), (174, x_aload 0), (177, x_gfr 8 7 26), (179, x_iload 5), (180, x_ald 26), (181, x_iret)]
def t98 : List (Nat × List (Nat × xI)) := [(0, b98_0), (22, b98_22), (23, b98_23), (31, b98_31), (39, b98_39), (52, b98_52), (86, b98_86), (90, b98_90), (91, b98_91), (99, b98_99), (105, b98_105), (130, b98_130), (134, b98_134), (135, b98_135), (143, b98_143)]
def b99_0 : List (Nat × xI) := [(1, x_iload 1), (4, x_iconst 5000), (7, x_icmp (fun x y => x < y) 19), (8, x_aload 0), (11, x_gfr 8 23 41), (12, x_iload 1), (15, x_iconst 5000), (16, x_bin (fun x y => x - y)), (17, x_iload 2), (18, x_ast 41), (19, x_ret)]
def b99_19 : List (Nat × xI) := [(20, x_iload 1), (23, x_iconst 1000), (24, x_idiv), (25, x_istore 3), (26, x_iload 1), (29, x_iconst 1000), (30, x_irem), (32, x_istore 4), (34, x_iload 4), (36, x_iconst 30), (39, x_icmp (fun x y => x < y) 57), (40, x_aload 0), (43, x_gfr 8 19 38), (44, x_iconst 3), (45, x_iload 3), (46, x_bin (fun x y => x * y)), (48, x_iload 4), (49, x_bin (fun x y => x + y)), (51, x_iconst 30), (52, x_bin (fun x y => x - y)), (53, x_iload 2), (54, x_ast 38), (57, x_goto 95)]
def b99_57 : List (Nat × xI) := [(59, x_iload 4), (61, x_iconst 20), (64, x_icmp (fun x y => x < y) 82), (65, x_aload 0), (68, x_gfr 8 18 37), (69, x_iconst 5), (70, x_iload 3), (71, x_bin (fun x y => x * y)), (73, x_iload 4), (74, x_bin (fun x y => x + y)), (76, x_iconst 20), (77, x_bin (fun x y => x - y)), (78, x_iload 2), (79, x_ast 37), (82, x_goto 95)]
def b99_82 : List (Nat × xI) := [(83, x_aload 0), (86, x_gfr 8 17 36), (88, x_iconst 12), (89, x_iload 3), (90, x_bin (fun x y => x * y)), (92, x_iload 4), (93, x_bin (fun x y => x + y)), (94, x_iload 2), (95, x_ast 36), (95, x_goto 95)]
def b99_95 : List (Nat × xI) := [(96, x_ret)]
def t99 : List (Nat × List (Nat × xI)) := [(0, b99_0), (19, b99_19), (57, b99_57), (82, b99_82), (95, b99_95)]
def b100_0 : List (Nat × xI) := [(1, x_aload 0), (4, x_gfr 8 46 64), (6, x_iconst 16), (7, x_iload 1), (8, x_bin (fun x y => x * y)), (9, x_aload 0), (12, x_gfr 8 45 63), (13, x_iload 1), (14, x_ald 63), (15, x_bin (fun x y => x + y)), (16, x_iload 2), (17, x_ast 64), (18, x_aload 0), (21, x_gfr 8 45 63), (22, x_iload 1), (23, x_dup2), (24, x_ald 63), (25, x_iconst 1), (26, x_bin (fun x y => x + y)), (27, x_ast 63), (28, x_aload 0), (29, x_iload 2), (30, x_iload 1), (33, x_callv 8 99 3 0 0 0 0), (34, x_ret)]
def t100 : List (Nat × List (Nat × xI)) := [(0, b100_0)]
def b101_0 : List (Nat × xI) := [(1, x_aload 0), (2, x_iload 2), (3, x_iconst (-1)), (6, x_callv 8 99 3 0 0 0 0), (7, x_iconst 0), (8, x_istore 3), (9, x_iconst 0), (11, x_istore 4), (11, x_goto 11)]
def b101_11 : List (Nat × xI) := [(13, x_iload 4), (14, x_aload 0), (17, x_gfr 8 45 63), (18, x_iload 1), (19, x_ald 63), (22, x_icmp (fun x y => y ≤ x) 70), (23, x_aload 0), (26, x_gfr 8 46 64), (28, x_iconst 16), (29, x_iload 1), (30, x_bin (fun x y => x * y)), (32, x_iload 4), (33, x_bin (fun x y => x + y)), (34, x_ald 64), (35, x_iload 2), (38, x_icmp (fun x y => x = y) 64), (39, x_aload 0), (42, x_gfr 8 46 64), (44, x_iconst 16), (45, x_iload 1), (46, x_bin (fun x y => x * y)), (47, x_iload 3), (48, x_bin (fun x y => x + y)), (49, x_aload 0), (52, x_gfr 8 46 64), (54, x_iconst 16), (55, x_iload 1), (56, x_bin (fun x y => x * y)), (58, x_iload 4), (59, x_bin (fun x y => x + y)), (60, x_ald 64), (61, x_ast 64), (64, x_iinc 3 1), (64, x_goto 64)]
def b101_64 : List (Nat × xI) := [(67, x_iinc 4 1), (70, x_goto 11)]
def b101_70 : List (Nat × xI) := [(71, x_aload 0), (74, x_gfr 8 45 63), (75, x_iload 1), (76, x_iload 3), (77, x_ast 63), (78, x_ret)]
def t101 : List (Nat × List (Nat × xI)) := [(0, b101_0), (11, b101_11), (64, b101_64), (70, b101_70)]
def b102_0 : List (Nat × xI) := [(1, x_iconst 0), (2, x_istore 2), (2, x_goto 2)]
def b102_2 : List (Nat × xI) := [(3, x_iload 2), (4, x_iconst 3), (7, x_icmp (fun x y => y ≤ x) 84), (8, x_iconst 0), (9, x_istore 3), (10, x_iconst 0), (12, x_istore 4), (12, x_goto 12)]
def b102_12 : List (Nat × xI) := [(14, x_iload 4), (15, x_aload 0), (18, x_gfr 8 27 45), (19, x_iload 2), (20, x_ald 45), (23, x_icmp (fun x y => y ≤ x) 71), (24, x_aload 0), (27, x_gfr 8 28 46), (29, x_iconst 72), (30, x_iload 2), (31, x_bin (fun x y => x * y)), (33, x_iload 4), (34, x_bin (fun x y => x + y)), (35, x_ald 46), (36, x_iload 1), (39, x_icmp (fun x y => x = y) 65), (40, x_aload 0), (43, x_gfr 8 28 46), (45, x_iconst 72), (46, x_iload 2), (47, x_bin (fun x y => x * y)), (48, x_iload 3), (49, x_bin (fun x y => x + y)), (50, x_aload 0), (53, x_gfr 8 28 46), (55, x_iconst 72), (56, x_iload 2), (57, x_bin (fun x y => x * y)), (59, x_iload 4), (60, x_bin (fun x y => x + y)), (61, x_ald 46), (62, x_ast 46), (65, x_iinc 3 1), (65, x_goto 65)]
def b102_65 : List (Nat × xI) := [(68, x_iinc 4 1), (71, x_goto 12)]
def b102_71 : List (Nat × xI) := [(72, x_aload 0), (75, x_gfr 8 27 45), (76, x_iload 2), (77, x_iload 3), (78, x_ast 45), (81, x_iinc 2 1), (84, x_goto 2)]
def b102_84 : List (Nat × xI) := [(85, x_ret)]
def t102 : List (Nat × List (Nat × xI)) := [(0, b102_0), (2, b102_2), (12, b102_12), (65, b102_65), (71, b102_71), (84, b102_84)]
def b103_0 : List (Nat × xI) := [(1, x_aload 0), (4, x_gfr 8 29 47), (5, x_iload 1), (6, x_iconst 2), (7, x_ast 47), (8, x_aload 0), (11, x_gfr 8 32 50), (12, x_iload 1), (13, x_iload 2), (14, x_ast 50), (15, x_aload 0), (18, x_gfr 8 41 59), (19, x_iload 1), (20, x_aload 0), (23, x_gfi 8 1), (24, x_ast 59), (25, x_aload 0), (28, x_gfr 8 28 46), (30, x_iconst 72), (31, x_iload 2), (32, x_bin (fun x y => x * y)), (33, x_aload 0), (36, x_gfr 8 27 45), (37, x_iload 2), (38, x_ald 45), (39, x_bin (fun x y => x + y)), (40, x_iload 1), (41, x_ast 46), (42, x_aload 0), (45, x_gfr 8 27 45), (46, x_iload 2), (47, x_dup2), (48, x_ald 45), (49, x_iconst 1), (50, x_bin (fun x y => x + y)), (51, x_ast 45), (52, x_ret)]
def t103 : List (Nat × List (Nat × xI)) := [(0, b103_0)]
def b104_0 : List (Nat × xI) := [(1, x_aload 0), (4, x_gfr 8 45 63), (5, x_iload 1), (6, x_ald 63), (9, x_if (fun x => x ≤ 0) 35), (10, x_aload 0), (11, x_iload 1), (12, x_aload 0), (15, x_gfr 8 46 64), (17, x_iconst 16), (18, x_iload 1), (19, x_bin (fun x y => x * y)), (20, x_aload 0), (23, x_gfr 8 45 63), (24, x_iload 1), (25, x_ald 63), (26, x_bin (fun x y => x + y)), (27, x_iconst 1), (28, x_bin (fun x y => x - y)), (29, x_ald 64), (32, x_callv 8 101 3 0 0 0 0), (35, x_goto 0)]
def b104_35 : List (Nat × xI) := [(36, x_aload 0), (37, x_iload 1), (40, x_callv 8 102 2 0 0 0 0), (41, x_aload 0), (44, x_gfr 8 29 47), (45, x_iload 1), (46, x_iconst 0), (47, x_ast 47), (48, x_aload 0), (51, x_gfr 8 39 57), (52, x_iload 1), (53, x_ald 57), (56, x_if (fun x => x < 0) 68), (57, x_aload 0), (60, x_gfr 8 9 28), (61, x_aload 0), (64, x_gfr 8 39 57), (65, x_iload 1), (66, x_ald 57), (67, x_iconst (-1)), (68, x_ast 28), (68, x_goto 68)]
def b104_68 : List (Nat × xI) := [(69, x_ret)]
def t104 : List (Nat × List (Nat × xI)) := [(0, b104_0), (35, b104_35), (68, b104_68)]
def b105_0 : List (Nat × xI) := [(1, x_aload 0), (2, x_iload 1), (5, x_callv 8 104 2 0 0 0 0), (6, x_aload 0), (9, x_gfr 8 39 57), (10, x_iload 1), (11, x_iconst (-1)), (12, x_ast 57), (13, x_aload 0), (16, x_gfr 8 4 23), (17, x_iload 1), (18, x_iload 2), (19, x_ast 23), (20, x_ret)]
def t105 : List (Nat × List (Nat × xI)) := [(0, b105_0)]
def b106_0 : List (Nat × xI) := [(1, x_aload 0), (4, x_gfr 8 39 57), (5, x_iload 1), (6, x_ald 57), (7, x_istore 3), (8, x_aload 0), (9, x_iload 1), (12, x_callv 8 104 2 0 0 0 0), (13, x_aload 0), (16, x_gfr 8 39 57), (17, x_iload 1), (18, x_iconst (-1)), (19, x_ast 57), (20, x_aload 0), (23, x_gfr 8 3 22), (24, x_iload 1), (25, x_ald 22), (28, x_if (fun x => x = 0) 35), (29, x_aload 0), (32, x_gfr 8 4 23), (33, x_iload 1), (34, x_iload 2), (35, x_ast 23), (35, x_goto 35)]
def b106_35 : List (Nat × xI) := [(36, x_iload 3), (39, x_if (fun x => x < 0) 55), (40, x_aload 0), (43, x_gfr 8 3 22), (44, x_iload 3), (45, x_ald 22), (48, x_if (fun x => x = 0) 55), (49, x_aload 0), (52, x_gfr 8 4 23), (53, x_iload 3), (54, x_iconst 3), (55, x_ast 23), (55, x_goto 55)]
def b106_55 : List (Nat × xI) := [(56, x_ret)]
def t106 : List (Nat × List (Nat × xI)) := [(0, b106_0), (35, b106_35), (55, b106_55)]
def b107_0 : List (Nat × xI) := [(1, x_iconst (-1)), (2, x_istore 2), (3, x_iconst 2), (4, x_istore 3), (4, x_goto 4)]
def b107_4 : List (Nat × xI) := [(5, x_iload 3), (8, x_if (fun x => x < 0) 33), (9, x_aload 0), (12, x_gfr 8 19 38), (13, x_iconst 3), (14, x_iload 1), (15, x_bin (fun x y => x * y)), (16, x_iload 3), (17, x_bin (fun x y => x + y)), (18, x_ald 38), (21, x_if (fun x => 0 ≤ x) 25), (22, x_iload 3), (25, x_goto 26)]
def b107_25 : List (Nat × xI) := [(26, x_iload 2), (26, x_goto 26)]
def b107_26 : List (Nat × xI) := [(27, x_istore 2), (30, x_iinc 3 (-1)), (33, x_goto 4)]
def b107_33 : List (Nat × xI) := [(34, x_iload 2), (35, x_iret)]
def t107 : List (Nat × List (Nat × xI)) := [(0, b107_0), (4, b107_4), (25, b107_25), (26, b107_26), (33, b107_33)]
def b108_0 : List (Nat × xI) := [(1, x_iconst 0), (2, x_istore 2), (4, x_iconst 24), (5, x_iload 1), (6, x_bin (fun x y => x * y)), (7, x_istore 3), (7, x_goto 7)]
def b108_7 : List (Nat × xI) := [(8, x_iload 3), (10, x_iconst 24), (11, x_iload 1), (12, x_bin (fun x y => x * y)), (14, x_iconst 24), (15, x_bin (fun x y => x + y)), (18, x_icmp (fun x y => y ≤ x) 43), (19, x_iload 2), (22, x_if (fun x => ¬ x = 0) 31), (23, x_aload 0), (26, x_gfr 8 5 24), (27, x_iload 3), (28, x_ald 24), (31, x_if (fun x => x < 0) 35), (31, x_goto 31)]
def b108_31 : List (Nat × xI) := [(32, x_iconst 1), (35, x_goto 36)]
def b108_35 : List (Nat × xI) := [(36, x_iconst 0), (36, x_goto 36)]
def b108_36 : List (Nat × xI) := [(37, x_istore 2), (40, x_iinc 3 1), (43, x_goto 7)]
def b108_43 : List (Nat × xI) := [(44, x_iload 2), (45, x_zret)]
def t108 : List (Nat × List (Nat × xI)) := [(0, b108_0), (7, b108_7), (31, b108_31), (35, b108_35), (36, b108_36), (43, b108_43)]
def b109_0 : List (Nat × xI) := [(1, x_iload 1), (3, x_iconst 24), (4, x_idiv), (5, x_istore 2), (6, x_aload 0), (7, x_iload 2), (10, x_callv 8 107 2 0 0 0 0), (11, x_istore 3), (12, x_aload 0), (15, x_gfr 8 5 24), (16, x_iload 1), (17, x_iconst (-1)), (18, x_ast 24), (19, x_aload 0), (22, x_gfr 8 29 47), (23, x_iload 1), (24, x_iconst 1), (25, x_ast 47), (26, x_aload 0), (29, x_gfr 8 30 48), (30, x_iload 1), (31, x_iconst 0), (32, x_ast 48), (33, x_aload 0), (36, x_gfr 8 38 56), (37, x_iload 1), (38, x_iconst 0), (39, x_ast 56), (40, x_aload 0), (43, x_gfr 8 32 50), (44, x_iload 1), (45, x_iload 2), (46, x_ast 50), (47, x_aload 0), (50, x_gfr 8 33 51), (51, x_iload 1), (52, x_iload 3), (53, x_ast 51), (54, x_aload 0), (57, x_gfr 8 37 55), (58, x_iload 1), (59, x_iconst 1), (60, x_iload 2), (61, x_bin (fun x y => x <<< (y &&& 31))), (62, x_ast 55), (63, x_aload 0), (66, x_gfr 8 39 57), (67, x_iload 1), (68, x_iconst (-1)), (69, x_ast 57), (70, x_aload 0), (73, x_gfr 8 42 60), (74, x_iload 1), (75, x_iconst 0), (76, x_zst 60), (77, x_aload 0), (80, x_gfr 8 45 63), (81, x_iload 1), (82, x_iconst 0), (83, x_ast 63), (84, x_aload 0), (85, x_iload 1), (88, x_iconst 1000), (89, x_iload 2), (90, x_bin (fun x y => x * y)), (92, x_iconst 30), (93, x_bin (fun x y => x + y)), (94, x_iload 3), (95, x_bin (fun x y => x + y)), (98, x_callv 8 100 3 0 0 0 0), (99, x_ret)]
def t109 : List (Nat × List (Nat × xI)) := [(0, b109_0)]
def b110_0 : List (Nat × xI) := [(1, x_aload 0), (2, x_iload 1), (3, x_iload 2), (6, x_call 93 2 0 0 0 0), (9, x_if (fun x => ¬ x = 0) 13), (10, x_iconst 1), (13, x_goto 32)]
def b110_13 : List (Nat × xI) := [(14, x_aload 0), (17, x_gfr 8 3 22), (19, x_iconst 24), (20, x_iload 1), (21, x_bin (fun x y => x * y)), (22, x_iload 2), (23, x_bin (fun x y => x + y)), (24, x_ald 22), (27, x_if (fun x => x = 0) 31), (28, x_iconst 2), (31, x_goto 32)]
def b110_31 : List (Nat × xI) := [(32, x_iconst 0), (32, x_goto 32)]
def b110_32 : List (Nat × xI) := [(35, x_callv 8 91 2 0 0 0 0), (38, x_if (fun x => x = 0) 39), (39, x_ret)]
def b110_39 : List (Nat × xI) := [(41, x_iconst 24), (42, x_iload 1), (43, x_bin (fun x y => x * y)), (44, x_iload 2), (45, x_bin (fun x y => x + y)), (46, x_istore 3), (47, x_aload 0), (50, x_gfr 8 3 22), (51, x_iload 3), (52, x_iconst 1), (53, x_zst 22), (54, x_aload 0), (57, x_gfr 8 9 28), (58, x_iload 3), (59, x_ald 28), (61, x_istore 4), (63, x_iload 4), (66, x_if (fun x => x < 0) 131), (67, x_aload 0), (70, x_gfr 8 29 47), (72, x_iload 4), (73, x_ald 47), (74, x_iconst 4), (77, x_icmp (fun x y => ¬ x = y) 120), (78, x_aload 0), (81, x_gfr 8 29 47), (83, x_iload 4), (84, x_iconst 5), (85, x_ast 47), (86, x_aload 0), (89, x_gfr 8 43 61), (91, x_iload 4), (92, x_iconst 0), (93, x_ast 61), (94, x_aload 0), (97, x_gfr 8 6 25), (99, x_iload 4), (100, x_aload 0), (103, x_gfr 8 6 25), (105, x_iload 4), (106, x_ald 25), (107, x_aload 0), (110, x_gfr 8 12 31), (111, x_aload 0), (114, x_gfr 8 40 58), (116, x_iload 4), (117, x_ald 58), (118, x_ald 31), (119, x_bin (fun x y => x + y)), (120, x_ast 25), (120, x_goto 120)]
def b110_120 : List (Nat × xI) := [(121, x_aload 0), (124, x_gfr 8 44 62), (126, x_iload 4), (127, x_iconst 0), (128, x_ast 62), (131, x_goto 184)]
def b110_131 : List (Nat × xI) := [(132, x_aload 0), (135, x_gfr 8 29 47), (136, x_iload 3), (137, x_ald 47), (140, x_if (fun x => ¬ x = 0) 184), (141, x_aload 0), (142, x_iload 1), (145, x_callv 8 107 2 0 0 0 0), (148, x_if (fun x => x < 0) 164), (149, x_aload 0), (150, x_iload 1), (153, x_callv 8 108 2 0 0 0 0), (156, x_if (fun x => ¬ x = 0) 164), (157, x_aload 0), (158, x_iload 3), (161, x_callv 8 109 2 0 0 0 0), (164, x_goto 184)]
def b110_164 : List (Nat × xI) := [(165, x_aload 0), (168, x_gfr 8 5 24), (169, x_iload 3), (170, x_aload 0), (173, x_gfi 8 2), (174, x_ast 24), (175, x_aload 0), (176, x_dup), (179, x_gfi 8 2), (180, x_iconst 1), (181, x_bin (fun x y => x + y)), (184, x_pfi 8 2), (184, x_goto 184)]
def b110_184 : List (Nat × xI) := [(185, x_ret)]
def t110 : List (Nat × List (Nat × xI)) := [(0, b110_0), (13, b110_13), (31, b110_31), (32, b110_32), (39, b110_39), (120, b110_120), (131, b110_131), (164, b110_164), (184, b110_184)]
def b111_0 : List (Nat × xI) := [(1, x_aload 0), (2, x_iload 1), (3, x_iload 2), (6, x_call 93 2 0 0 0 0), (9, x_if (fun x => ¬ x = 0) 13), (10, x_iconst 1), (13, x_goto 32)]
def b111_13 : List (Nat × xI) := [(14, x_aload 0), (17, x_gfr 8 3 22), (19, x_iconst 24), (20, x_iload 1), (21, x_bin (fun x y => x * y)), (22, x_iload 2), (23, x_bin (fun x y => x + y)), (24, x_ald 22), (27, x_if (fun x => ¬ x = 0) 31), (28, x_iconst 2), (31, x_goto 32)]
def b111_31 : List (Nat × xI) := [(32, x_iconst 0), (32, x_goto 32)]
def b111_32 : List (Nat × xI) := [(35, x_callv 8 91 2 0 0 0 0), (38, x_if (fun x => x = 0) 39), (39, x_ret)]
def b111_39 : List (Nat × xI) := [(41, x_iconst 24), (42, x_iload 1), (43, x_bin (fun x y => x * y)), (44, x_iload 2), (45, x_bin (fun x y => x + y)), (46, x_istore 3), (47, x_aload 0), (50, x_gfr 8 3 22), (51, x_iload 3), (52, x_iconst 0), (53, x_zst 22), (54, x_aload 0), (57, x_gfr 8 4 23), (58, x_iload 3), (59, x_iconst 0), (60, x_ast 23), (61, x_aload 0), (64, x_gfr 8 5 24), (65, x_iload 3), (66, x_iconst (-1)), (67, x_ast 24), (68, x_aload 0), (71, x_gfr 8 29 47), (72, x_iload 3), (73, x_ald 47), (76, x_if (fun x => x = 0) 104), (77, x_aload 0), (80, x_gfr 8 29 47), (81, x_iload 3), (82, x_ald 47), (83, x_iconst 5), (86, x_icmp (fun x y => ¬ x = y) 95), (87, x_aload 0), (90, x_gfr 8 42 60), (91, x_iload 3), (92, x_ald 60), (95, x_if (fun x => ¬ x = 0) 125), (95, x_goto 95)]
def b111_95 : List (Nat × xI) := [(96, x_aload 0), (97, x_iload 3), (98, x_iconst 3), (101, x_callv 8 106 3 0 0 0 0), (104, x_goto 125)]
def b111_104 : List (Nat × xI) := [(105, x_aload 0), (108, x_gfr 8 9 28), (109, x_iload 3), (110, x_ald 28), (113, x_if (fun x => x < 0) 125), (114, x_aload 0), (117, x_gfr 8 44 62), (118, x_aload 0), (121, x_gfr 8 9 28), (122, x_iload 3), (123, x_ald 28), (124, x_iconst 0), (125, x_ast 62), (125, x_goto 125)]
def b111_125 : List (Nat × xI) := [(126, x_ret)]
def t111 : List (Nat × List (Nat × xI)) := [(0, b111_0), (13, b111_13), (31, b111_31), (32, b111_32), (39, b111_39), (95, b111_95), (104, b111_104), (125, b111_125)]
def b112_0 : List (Nat × xI) := [(1, x_iload 2), (4, x_call 95 1 0 0 0 0), (5, x_istore 3), (6, x_iload 2), (8, x_istore 4), (9, x_aload 0), (12, x_gfr 8 30 48), (13, x_iload 1), (14, x_ald 48), (15, x_iload 3), (18, x_icmp (fun x y => x < y) 22), (19, x_iconst 1), (22, x_goto 23)]
def b112_22 : List (Nat × xI) := [(23, x_iconst 0), (23, x_goto 23)]
def b112_23 : List (Nat × xI) := [(25, x_istore 5), (26, x_iload 3), (27, x_iconst 1), (28, x_bin (fun x y => x - y)), (30, x_istore 6), (30, x_goto 30)]
def b112_30 : List (Nat × xI) := [(32, x_iload 6), (35, x_if (fun x => x < 0) 80), (37, x_iload 5), (40, x_if (fun x => x = 0) 64), (41, x_aload 0), (44, x_gfr 8 31 49), (46, x_iconst 8), (47, x_iload 1), (48, x_bin (fun x y => x * y)), (50, x_iload 6), (51, x_bin (fun x y => x + y)), (52, x_ald 49), (54, x_iload 4), (56, x_iconst 10), (57, x_irem), (60, x_icmp (fun x y => ¬ x = y) 64), (61, x_iconst 1), (64, x_goto 65)]
def b112_64 : List (Nat × xI) := [(65, x_iconst 0), (65, x_goto 65)]
def b112_65 : List (Nat × xI) := [(67, x_istore 5), (69, x_iload 4), (71, x_iconst 10), (72, x_idiv), (74, x_istore 4), (77, x_iinc 6 (-1)), (80, x_goto 30)]
def b112_80 : List (Nat × xI) := [(82, x_iload 5), (83, x_zret)]
def t112 : List (Nat × List (Nat × xI)) := [(0, b112_0), (22, b112_22), (23, b112_23), (30, b112_30), (64, b112_64), (65, b112_65), (80, b112_80)]
def b113_0 : List (Nat × xI) := [(1, x_iload 2), (2, x_istore 3), (2, x_goto 2)]
def b113_2 : List (Nat × xI) := [(3, x_iload 3), (6, x_call 95 1 0 0 0 0), (7, x_aload 0), (10, x_gfr 8 30 48), (11, x_iload 1), (12, x_ald 48), (15, x_icmp (fun x y => x ≤ y) 23), (16, x_iload 3), (18, x_iconst 10), (19, x_idiv), (20, x_istore 3), (23, x_goto 2)]
def b113_23 : List (Nat × xI) := [(24, x_aload 0), (25, x_iload 1), (26, x_iload 3), (29, x_callv 8 112 3 0 0 0 0), (30, x_zret)]
def t113 : List (Nat × List (Nat × xI)) := [(0, b113_0), (2, b113_2), (23, b113_23)]
def b114_0 : List (Nat × xI) := [(1, x_iconst (-1)), (2, x_istore 3), (4, x_iconst 12), (5, x_iload 2), (6, x_bin (fun x y => x * y)), (8, x_istore 4), (8, x_goto 8)]
def b114_8 : List (Nat × xI) := [(10, x_iload 4), (12, x_iconst 12), (13, x_iload 2), (14, x_bin (fun x y => x * y)), (15, x_aload 0), (18, x_gfr 8 10 29), (19, x_iload 2), (20, x_ald 29), (21, x_bin (fun x y => x + y)), (24, x_icmp (fun x y => y ≤ x) 52), (25, x_aload 0), (26, x_iload 1), (27, x_aload 0), (30, x_gfr 8 11 30), (32, x_iload 4), (33, x_ald 30), (36, x_callv 8 112 3 0 0 0 0), (39, x_if (fun x => x = 0) 44), (41, x_iload 4), (44, x_goto 45)]
def b114_44 : List (Nat × xI) := [(45, x_iload 3), (45, x_goto 45)]
def b114_45 : List (Nat × xI) := [(46, x_istore 3), (49, x_iinc 4 1), (52, x_goto 8)]
def b114_52 : List (Nat × xI) := [(53, x_iload 3), (54, x_iret)]
def t114 : List (Nat × List (Nat × xI)) := [(0, b114_0), (8, b114_8), (44, b114_44), (45, b114_45), (52, b114_52)]
def b115_0 : List (Nat × xI) := [(1, x_iload 1), (2, x_iload 2), (5, x_call 93 2 0 0 0 0), (8, x_if (fun x => x = 0) 22), (9, x_iload 3), (10, x_iconst 0), (12, x_iconst 9), (15, x_call 92 3 0 0 0 0), (18, x_if (fun x => x = 0) 22), (19, x_iconst 1), (22, x_goto 23)]
def b115_22 : List (Nat × xI) := [(23, x_iconst 0), (23, x_goto 23)]
def b115_23 : List (Nat × xI) := [(25, x_istore 4), (26, x_aload 0), (28, x_iload 4), (31, x_if (fun x => ¬ x = 0) 35), (32, x_iconst 1), (35, x_goto 54)]
def b115_35 : List (Nat × xI) := [(36, x_aload 0), (39, x_gfr 8 3 22), (41, x_iconst 24), (42, x_iload 1), (43, x_bin (fun x y => x * y)), (44, x_iload 2), (45, x_bin (fun x y => x + y)), (46, x_ald 22), (49, x_if (fun x => ¬ x = 0) 53), (50, x_iconst 2), (53, x_goto 54)]
def b115_53 : List (Nat × xI) := [(54, x_iconst 0), (54, x_goto 54)]
def b115_54 : List (Nat × xI) := [(57, x_callv 8 91 2 0 0 0 0), (60, x_if (fun x => x = 0) 62), (61, x_iconst 0), (62, x_zret)]
def b115_62 : List (Nat × xI) := [(64, x_iconst 24), (65, x_iload 1), (66, x_bin (fun x y => x * y)), (67, x_iload 2), (68, x_bin (fun x y => x + y)), (70, x_istore 5), (71, x_aload 0), (74, x_gfr 8 29 47), (76, x_iload 5), (77, x_ald 47), (78, x_iconst 1), (81, x_icmp (fun x y => x = y) 83), (82, x_iconst 0), (83, x_zret)]
def b115_83 : List (Nat × xI) := [(84, x_aload 0), (87, x_gfr 8 31 49), (89, x_iconst 8), (91, x_iload 5), (92, x_bin (fun x y => x * y)), (93, x_aload 0), (96, x_gfr 8 30 48), (98, x_iload 5), (99, x_ald 48), (100, x_bin (fun x y => x + y)), (101, x_iload 3), (102, x_ast 49), (103, x_aload 0), (106, x_gfr 8 30 48), (108, x_iload 5), (109, x_dup2), (110, x_ald 48), (111, x_iconst 1), (112, x_bin (fun x y => x + y)), (113, x_ast 48), (114, x_aload 0), (117, x_gfr 8 38 56), (119, x_iload 5), (120, x_iconst 0), (121, x_ast 56), (122, x_aload 0), (124, x_iload 5), (125, x_iload 1), (128, x_callv 8 114 3 0 0 0 0), (130, x_istore 6), (132, x_iload 6), (135, x_if (fun x => x < 0) 139), (136, x_iconst 1), (139, x_goto 140)]
def b115_139 : List (Nat × xI) := [(140, x_iconst 0), (140, x_goto 140)]
def b115_140 : List (Nat × xI) := [(142, x_istore 7), (144, x_iconst 12), (145, x_iload 1), (146, x_bin (fun x y => x * y)), (148, x_istore 8), (148, x_goto 148)]
def b115_148 : List (Nat × xI) := [(150, x_iload 8), (152, x_iconst 12), (153, x_iload 1), (154, x_bin (fun x y => x * y)), (155, x_aload 0), (158, x_gfr 8 10 29), (159, x_iload 1), (160, x_ald 29), (161, x_bin (fun x y => x + y)), (164, x_icmp (fun x y => y ≤ x) 198), (166, x_iload 7), (169, x_if (fun x => ¬ x = 0) 185), (170, x_aload 0), (172, x_iload 5), (173, x_aload 0), (176, x_gfr 8 11 30), (178, x_iload 8), (179, x_ald 30), (182, x_callv 8 113 3 0 0 0 0), (185, x_if (fun x => x = 0) 189), (185, x_goto 185)]
def b115_185 : List (Nat × xI) := [(186, x_iconst 1), (189, x_goto 190)]
def b115_189 : List (Nat × xI) := [(190, x_iconst 0), (190, x_goto 190)]
def b115_190 : List (Nat × xI) := [(192, x_istore 7), (195, x_iinc 8 1), (198, x_goto 148)]
def b115_198 : List (Nat × xI) := [(200, x_iload 7), (203, x_if (fun x => ¬ x = 0) 213), (204, x_aload 0), (206, x_iload 5), (207, x_iconst 5), (210, x_callv 8 105 3 0 0 0 0), (213, x_goto 256)]
def b115_213 : List (Nat × xI) := [(215, x_iload 6), (218, x_if (fun x => x < 0) 256), (219, x_aload 0), (222, x_gfr 8 30 48), (224, x_iload 5), (225, x_ald 48), (226, x_aload 0), (229, x_gfr 8 11 30), (231, x_iload 6), (232, x_ald 30), (235, x_call 95 1 0 0 0 0), (236, x_iconst 2), (237, x_bin (fun x y => x + y)), (240, x_icmp (fun x y => x < y) 256), (241, x_aload 0), (244, x_gfr 8 40 58), (246, x_iload 5), (248, x_iload 6), (249, x_ast 58), (250, x_aload 0), (252, x_iload 5), (253, x_iload 1), (256, x_callv 8 103 3 0 0 0 0), (256, x_goto 256)]
def b115_256 : List (Nat × xI) := [(257, x_iconst 1), (258, x_zret)]
def t115 : List (Nat × List (Nat × xI)) := [(0, b115_0), (22, b115_22), (23, b115_23), (35, b115_35), (53, b115_53), (54, b115_54), (62, b115_62), (83, b115_83), (139, b115_139), (140, b115_140), (148, b115_148), (185, b115_185), (189, b115_189), (190, b115_190), (198, b115_198), (213, b115_213), (256, b115_256)]
def b116_0 : List (Nat × xI) := [(1, x_aload 0), (4, x_gfr 8 3 22), (5, x_iload 1), (6, x_ald 22), (9, x_if (fun x => ¬ x = 0) 31), (10, x_aload 0), (13, x_gfr 8 9 28), (14, x_iload 1), (15, x_ald 28), (18, x_if (fun x => 0 ≤ x) 31), (19, x_aload 0), (22, x_gfr 8 29 47), (23, x_iload 1), (24, x_ald 47), (27, x_if (fun x => ¬ x = 0) 31), (28, x_iconst 1), (31, x_goto 32)]
def b116_31 : List (Nat × xI) := [(32, x_iconst 0), (32, x_goto 32)]
def b116_32 : List (Nat × xI) := [(33, x_zret)]
def t116 : List (Nat × List (Nat × xI)) := [(0, b116_0), (31, b116_31), (32, b116_32)]
def b117_0 : List (Nat × xI) := [(1, x_iconst 4), (2, x_iload 1), (3, x_bin (fun x y => x * y)), (4, x_istore 3), (4, x_goto 4)]
def b117_4 : List (Nat × xI) := [(5, x_iload 3), (6, x_iconst 4), (7, x_iload 1), (8, x_bin (fun x y => x * y)), (9, x_iconst 4), (10, x_bin (fun x y => x + y)), (13, x_icmp (fun x y => y ≤ x) 98), (14, x_aload 0), (17, x_gfr 8 7 26), (18, x_iload 3), (19, x_ald 26), (22, x_if (fun x => x ≤ 0) 92), (23, x_aload 0), (26, x_gfr 8 8 27), (28, x_iconst 6), (29, x_iload 3), (30, x_bin (fun x y => x * y)), (31, x_ald 27), (32, x_iload 2), (35, x_icmp (fun x y => ¬ x = y) 92), (36, x_iconst 0), (38, x_istore 4), (38, x_goto 38)]
def b117_38 : List (Nat × xI) := [(40, x_iload 4), (41, x_aload 0), (44, x_gfr 8 7 26), (45, x_iload 3), (46, x_ald 26), (49, x_icmp (fun x y => y ≤ x) 92), (50, x_aload 0), (52, x_iconst 24), (53, x_iload 1), (54, x_bin (fun x y => x * y)), (55, x_aload 0), (58, x_gfr 8 8 27), (60, x_iconst 6), (61, x_iload 3), (62, x_bin (fun x y => x * y)), (64, x_iload 4), (65, x_bin (fun x y => x + y)), (66, x_ald 27), (67, x_bin (fun x y => x + y)), (70, x_callv 8 116 2 0 0 0 0), (73, x_if (fun x => x = 0) 86), (74, x_aload 0), (77, x_gfr 8 8 27), (79, x_iconst 6), (80, x_iload 3), (81, x_bin (fun x y => x * y)), (83, x_iload 4), (84, x_bin (fun x y => x + y)), (85, x_ald 27), (86, x_iret)]
def b117_86 : List (Nat × xI) := [(89, x_iinc 4 1), (92, x_goto 38)]
def b117_92 : List (Nat × xI) := [(95, x_iinc 3 1), (98, x_goto 4)]
def b117_98 : List (Nat × xI) := [(99, x_iload 2), (100, x_iret)]
def t117 : List (Nat × List (Nat × xI)) := [(0, b117_0), (4, b117_4), (38, b117_38), (86, b117_86), (92, b117_92), (98, b117_98)]
def b118_0 : List (Nat × xI) := [(2, x_iconst 12), (3, x_iload 0), (4, x_bin (fun x y => x * y)), (5, x_iconst 4), (6, x_iload 1), (7, x_bin (fun x y => x * y)), (8, x_bin (fun x y => x + y)), (9, x_iload 2), (10, x_bin (fun x y => x + y)), (11, x_iret)]
def t118 : List (Nat × List (Nat × xI)) := [(0, b118_0)]
def b119_0 : List (Nat × xI) := [(1, x_iconst 0), (3, x_istore 4), (3, x_goto 3)]
def b119_3 : List (Nat × xI) := [(5, x_iload 4), (6, x_iconst 4), (9, x_icmp (fun x y => y ≤ x) 158), (10, x_aload 0), (13, x_gfr 8 25 43), (14, x_iload 1), (15, x_ald 43), (17, x_iload 4), (18, x_bin (fun x y => x + y)), (19, x_iconst 4), (20, x_irem), (22, x_istore 5), (23, x_iload 2), (26, x_if (fun x => 0 ≤ x) 30), (27, x_iconst (-1)), (30, x_goto 40)]
def b119_30 : List (Nat × xI) := [(31, x_iload 1), (32, x_iload 2), (34, x_iconst 8), (35, x_idiv), (37, x_iload 5), (40, x_call 118 3 0 0 0 0), (40, x_goto 40)]
def b119_40 : List (Nat × xI) := [(42, x_istore 6), (44, x_iload 6), (47, x_if (fun x => x < 0) 60), (48, x_aload 0), (51, x_gfr 8 17 36), (53, x_iload 6), (54, x_ald 36), (57, x_if (fun x => x < 0) 60), (60, x_goto 152)]
def b119_60 : List (Nat × xI) := [(61, x_iload 3), (64, x_if (fun x => 0 ≤ x) 72), (65, x_aload 0), (67, x_iload 5), (70, x_pfi 8 47), (71, x_iconst 1), (72, x_zret)]
def b119_72 : List (Nat × xI) := [(73, x_iconst 0), (75, x_istore 7), (75, x_goto 75)]
def b119_75 : List (Nat × xI) := [(77, x_iload 7), (78, x_iconst 4), (81, x_icmp (fun x y => y ≤ x) 152), (82, x_iload 2), (85, x_if (fun x => 0 ≤ x) 90), (87, x_iload 5), (90, x_goto 101)]
def b119_90 : List (Nat × xI) := [(91, x_aload 0), (94, x_gfr 8 25 43), (95, x_iload 1), (96, x_ald 43), (98, x_iload 7), (99, x_bin (fun x y => x + y)), (100, x_iconst 4), (101, x_irem), (101, x_goto 101)]
def b119_101 : List (Nat × xI) := [(103, x_istore 8), (104, x_iload 1), (105, x_iload 3), (107, x_iconst 8), (108, x_idiv), (110, x_iload 8), (113, x_call 118 3 0 0 0 0), (115, x_istore 9), (116, x_aload 0), (119, x_gfr 8 17 36), (121, x_iload 9), (122, x_ald 36), (125, x_if (fun x => 0 ≤ x) 146), (127, x_iload 9), (129, x_iload 6), (132, x_icmp (fun x y => x = y) 146), (133, x_aload 0), (135, x_iload 5), (138, x_pfi 8 47), (139, x_aload 0), (141, x_iload 8), (144, x_pfi 8 48), (145, x_iconst 1), (146, x_zret)]
def b119_146 : List (Nat × xI) := [(149, x_iinc 7 1), (152, x_goto 75)]
def b119_152 : List (Nat × xI) := [(155, x_iinc 4 1), (158, x_goto 3)]
def b119_158 : List (Nat × xI) := [(159, x_iconst 0), (160, x_zret)]
def t119 : List (Nat × List (Nat × xI)) := [(0, b119_0), (3, b119_3), (30, b119_30), (40, b119_40), (60, b119_60), (72, b119_72), (75, b119_75), (90, b119_90), (101, b119_101), (146, b119_146), (152, b119_152), (158, b119_158)]
def b120_0 : List (Nat × xI) := [(1, x_iconst (-1)), (2, x_istore 2), (3, x_iconst 4), (4, x_istore 3), (4, x_goto 4)]
def b120_4 : List (Nat × xI) := [(5, x_iload 3), (8, x_if (fun x => x < 0) 33), (9, x_aload 0), (12, x_gfr 8 18 37), (13, x_iconst 5), (14, x_iload 1), (15, x_bin (fun x y => x * y)), (16, x_iload 3), (17, x_bin (fun x y => x + y)), (18, x_ald 37), (21, x_if (fun x => 0 ≤ x) 25), (22, x_iload 3), (25, x_goto 26)]
def b120_25 : List (Nat × xI) := [(26, x_iload 2), (26, x_goto 26)]
def b120_26 : List (Nat × xI) := [(27, x_istore 2), (30, x_iinc 3 (-1)), (33, x_goto 4)]
def b120_33 : List (Nat × xI) := [(34, x_iload 2), (35, x_iret)]
def t120 : List (Nat × List (Nat × xI)) := [(0, b120_0), (4, b120_4), (25, b120_25), (26, b120_26), (33, b120_33)]
def b121_0 : List (Nat × xI) := [(1, x_iload 3), (3, x_iconst 23), (6, x_icmp (fun x y => x ≤ y) 13), (7, x_aload 0), (8, x_iload 1), (9, x_iconst 5), (12, x_callv 8 105 3 0 0 0 0), (13, x_ret)]
def b121_13 : List (Nat × xI) := [(14, x_aload 0), (15, x_iload 2), (16, x_iload 3), (19, x_callv 8 117 3 0 0 0 0), (21, x_istore 4), (22, x_aload 0), (24, x_iconst 24), (25, x_iload 2), (26, x_bin (fun x y => x * y)), (28, x_iload 4), (29, x_bin (fun x y => x + y)), (32, x_callv 8 116 2 0 0 0 0), (35, x_if (fun x => ¬ x = 0) 42), (36, x_aload 0), (37, x_iload 1), (38, x_iconst 3), (41, x_callv 8 105 3 0 0 0 0), (42, x_ret)]
def b121_42 : List (Nat × xI) := [(43, x_iload 1), (45, x_iconst 24), (46, x_idiv), (47, x_iload 2), (50, x_icmp (fun x y => ¬ x = y) 54), (51, x_iconst 1), (54, x_goto 55)]
def b121_54 : List (Nat × xI) := [(55, x_iconst 0), (55, x_goto 55)]
def b121_55 : List (Nat × xI) := [(57, x_istore 5), (59, x_iload 5), (62, x_if (fun x => x = 0) 70), (63, x_aload 0), (64, x_iload 2), (67, x_callv 8 120 2 0 0 0 0), (70, x_goto 71)]
def b121_70 : List (Nat × xI) := [(71, x_iconst 0), (71, x_goto 71)]
def b121_71 : List (Nat × xI) := [(73, x_istore 6), (75, x_iload 6), (78, x_if (fun x => x < 0) 101), (79, x_aload 0), (80, x_iload 2), (82, x_iload 5), (85, x_if (fun x => x = 0) 92), (86, x_iload 1), (88, x_iconst 24), (89, x_irem), (92, x_goto 93)]
def b121_92 : List (Nat × xI) := [(93, x_iconst (-1)), (93, x_goto 93)]
def b121_93 : List (Nat × xI) := [(95, x_iload 4), (98, x_callv 8 119 4 0 0 0 0), (101, x_if (fun x => ¬ x = 0) 108), (101, x_goto 101)]
def b121_101 : List (Nat × xI) := [(102, x_aload 0), (103, x_iload 1), (104, x_iconst 4), (107, x_callv 8 105 3 0 0 0 0), (108, x_ret)]
def b121_108 : List (Nat × xI) := [(110, x_iload 5), (113, x_if (fun x => x = 0) 138), (114, x_aload 0), (115, x_iload 1), (118, x_iconst 1000), (119, x_iload 2), (120, x_bin (fun x y => x * y)), (121, x_iconst 4), (122, x_iload 1), (124, x_iconst 24), (125, x_irem), (127, x_iconst 8), (128, x_idiv), (129, x_bin (fun x y => x * y)), (130, x_bin (fun x y => x + y)), (131, x_aload 0), (134, x_gfi 8 47), (135, x_bin (fun x y => x + y)), (138, x_callv 8 100 3 0 0 0 0), (138, x_goto 138)]
def b121_138 : List (Nat × xI) := [(140, x_iload 5), (143, x_if (fun x => x = 0) 159), (144, x_aload 0), (145, x_iload 1), (148, x_iconst 1000), (149, x_iload 2), (150, x_bin (fun x y => x * y)), (152, x_iconst 20), (153, x_bin (fun x y => x + y)), (155, x_iload 6), (156, x_bin (fun x y => x + y)), (159, x_callv 8 100 3 0 0 0 0), (159, x_goto 159)]
def b121_159 : List (Nat × xI) := [(160, x_aload 0), (161, x_iload 1), (164, x_iconst 1000), (165, x_iload 2), (166, x_bin (fun x y => x * y)), (167, x_iconst 4), (169, x_iload 4), (171, x_iconst 8), (172, x_idiv), (173, x_bin (fun x y => x * y)), (174, x_bin (fun x y => x + y)), (175, x_aload 0), (178, x_gfi 8 48), (179, x_bin (fun x y => x + y)), (182, x_callv 8 100 3 0 0 0 0), (183, x_aload 0), (186, x_gfr 8 25 43), (187, x_iload 2), (189, x_iload 5), (192, x_if (fun x => x = 0) 199), (193, x_aload 0), (196, x_gfi 8 47), (199, x_goto 203)]
def b121_199 : List (Nat × xI) := [(200, x_aload 0), (203, x_gfi 8 48), (203, x_goto 203)]
def b121_203 : List (Nat × xI) := [(204, x_iconst 1), (205, x_bin (fun x y => x + y)), (206, x_iconst 4), (207, x_irem), (208, x_ast 43), (209, x_aload 0), (210, x_iload 1), (213, x_iconst 1000), (214, x_iload 2), (215, x_bin (fun x y => x * y)), (217, x_iconst 30), (218, x_bin (fun x y => x + y)), (219, x_aload 0), (222, x_gfr 8 33 51), (223, x_iload 1), (224, x_ald 51), (225, x_bin (fun x y => x + y)), (228, x_callv 8 101 3 0 0 0 0), (229, x_aload 0), (232, x_gfr 8 29 47), (233, x_iload 1), (234, x_iconst 4), (235, x_ast 47), (236, x_aload 0), (239, x_gfr 8 39 57), (240, x_iload 1), (242, x_iconst 24), (243, x_iload 2), (244, x_bin (fun x y => x * y)), (246, x_iload 4), (247, x_bin (fun x y => x + y)), (248, x_ast 57), (249, x_aload 0), (252, x_gfr 8 9 28), (253, x_aload 0), (256, x_gfr 8 39 57), (257, x_iload 1), (258, x_ald 57), (259, x_iload 1), (260, x_ast 28), (261, x_ret)]
def t121 : List (Nat × List (Nat × xI)) := [(0, b121_0), (13, b121_13), (42, b121_42), (54, b121_54), (55, b121_55), (70, b121_70), (71, b121_71), (92, b121_92), (93, b121_93), (101, b121_101), (108, b121_108), (138, b121_138), (159, b121_159), (199, b121_199), (203, b121_203)]
def b122_0 : List (Nat × xI) := [(1, x_iconst (-1)), (2, x_istore 3), (3, x_aload 0), (6, x_gfi 8 20), (7, x_iconst 1), (8, x_bin (fun x y => x - y)), (10, x_istore 4), (10, x_goto 10)]
def b122_10 : List (Nat × xI) := [(12, x_iload 4), (15, x_if (fun x => x < 0) 104), (16, x_aload 0), (19, x_gfr 8 21 39), (21, x_iload 4), (22, x_ald 39), (23, x_iload 1), (26, x_icmp (fun x y => ¬ x = y) 37), (27, x_aload 0), (30, x_gfr 8 22 40), (32, x_iload 4), (33, x_ald 40), (34, x_iload 2), (37, x_icmp (fun x y => x = y) 59), (37, x_goto 37)]
def b122_37 : List (Nat × xI) := [(38, x_aload 0), (41, x_gfr 8 21 39), (43, x_iload 4), (44, x_ald 39), (45, x_iload 2), (48, x_icmp (fun x y => ¬ x = y) 63), (49, x_aload 0), (52, x_gfr 8 22 40), (54, x_iload 4), (55, x_ald 40), (56, x_iload 1), (59, x_icmp (fun x y => ¬ x = y) 63), (59, x_goto 59)]
def b122_59 : List (Nat × xI) := [(60, x_iconst 1), (63, x_goto 64)]
def b122_63 : List (Nat × xI) := [(64, x_iconst 0), (64, x_goto 64)]
def b122_64 : List (Nat × xI) := [(66, x_istore 5), (68, x_iload 5), (71, x_if (fun x => x = 0) 96), (72, x_aload 0), (75, x_gfr 8 23 41), (77, x_iload 4), (78, x_ald 41), (81, x_if (fun x => 0 ≤ x) 96), (82, x_aload 0), (85, x_gfr 8 24 42), (87, x_iload 4), (88, x_ald 42), (91, x_if (fun x => ¬ x = 0) 96), (93, x_iload 4), (96, x_goto 97)]
def b122_96 : List (Nat × xI) := [(97, x_iload 3), (97, x_goto 97)]
def b122_97 : List (Nat × xI) := [(98, x_istore 3), (101, x_iinc 4 (-1)), (104, x_goto 10)]
def b122_104 : List (Nat × xI) := [(105, x_iload 3), (106, x_iret)]
def t122 : List (Nat × List (Nat × xI)) := [(0, b122_0), (10, b122_10), (37, b122_37), (59, b122_59), (63, b122_63), (64, b122_64), (96, b122_96), (97, b122_97), (104, b122_104)]
def b123_0 : List (Nat × xI) := [(1, x_iload 1), (3, x_iconst 24), (4, x_idiv), (5, x_iload 2), (8, x_icmp (fun x y => ¬ x = y) 12), (9, x_iconst 1), (12, x_goto 13)]
def b123_12 : List (Nat × xI) := [(13, x_iconst 0), (13, x_goto 13)]
def b123_13 : List (Nat × xI) := [(15, x_istore 4), (16, x_iconst 0), (18, x_istore 5), (18, x_goto 18)]
def b123_18 : List (Nat × xI) := [(20, x_iload 5), (21, x_aload 0), (24, x_gfr 8 14 33), (25, x_iload 3), (26, x_ald 33), (29, x_icmp (fun x y => y ≤ x) 257), (30, x_aload 0), (33, x_gfr 8 16 35), (34, x_iconst 3), (35, x_iload 3), (36, x_bin (fun x y => x * y)), (38, x_iload 5), (39, x_bin (fun x y => x + y)), (40, x_ald 35), (42, x_istore 6), (43, x_aload 0), (46, x_gfr 8 37 55), (47, x_iload 1), (48, x_ald 55), (50, x_iload 6), (51, x_bin (fun x y => x >>> (y &&& 31))), (52, x_iconst 1), (53, x_bin (fun x y => x &&& y)), (54, x_iconst 1), (57, x_icmp (fun x y => ¬ x = y) 60), (60, x_goto 251)]
def b123_60 : List (Nat × xI) := [(61, x_aload 0), (62, x_iload 2), (64, x_iload 6), (67, x_callv 8 122 3 0 0 0 0), (69, x_istore 7), (71, x_iload 7), (74, x_if (fun x => 0 ≤ x) 92), (75, x_aload 0), (78, x_gfr 8 26 44), (79, x_iconst 3), (80, x_iload 2), (81, x_bin (fun x y => x * y)), (83, x_iload 6), (84, x_bin (fun x y => x + y)), (85, x_dup2), (86, x_ald 44), (87, x_iconst 1), (88, x_bin (fun x y => x + y)), (89, x_ast 44), (92, x_goto 251)]
def b123_92 : List (Nat × xI) := [(93, x_aload 0), (95, x_iload 6), (98, x_callv 8 107 2 0 0 0 0), (100, x_istore 8), (102, x_iload 8), (105, x_if (fun x => x < 0) 251), (107, x_iload 4), (110, x_if (fun x => x = 0) 126), (111, x_aload 0), (112, x_iload 2), (113, x_iload 1), (115, x_iconst 24), (116, x_irem), (117, x_iconst (-1)), (120, x_callv 8 119 4 0 0 0 0), (123, x_if (fun x => ¬ x = 0) 126), (126, x_goto 251)]
def b123_126 : List (Nat × xI) := [(128, x_iload 4), (131, x_if (fun x => x = 0) 170), (132, x_aload 0), (133, x_iload 1), (136, x_iconst 1000), (137, x_iload 2), (138, x_bin (fun x y => x * y)), (139, x_iconst 4), (140, x_iload 1), (142, x_iconst 24), (143, x_irem), (145, x_iconst 8), (146, x_idiv), (147, x_bin (fun x y => x * y)), (148, x_bin (fun x y => x + y)), (149, x_aload 0), (152, x_gfi 8 47), (153, x_bin (fun x y => x + y)), (156, x_callv 8 100 3 0 0 0 0), (157, x_aload 0), (160, x_gfr 8 25 43), (161, x_iload 2), (162, x_aload 0), (165, x_gfi 8 47), (166, x_iconst 1), (167, x_bin (fun x y => x + y)), (168, x_iconst 4), (169, x_irem), (170, x_ast 43), (170, x_goto 170)]
def b123_170 : List (Nat × xI) := [(171, x_aload 0), (172, x_iload 1), (175, x_iconst 5000), (177, x_iload 7), (178, x_bin (fun x y => x + y)), (181, x_callv 8 100 3 0 0 0 0), (182, x_aload 0), (183, x_iload 1), (186, x_iconst 1000), (188, x_iload 6), (189, x_bin (fun x y => x * y)), (191, x_iconst 30), (192, x_bin (fun x y => x + y)), (194, x_iload 8), (195, x_bin (fun x y => x + y)), (198, x_callv 8 100 3 0 0 0 0), (199, x_aload 0), (202, x_gfr 8 37 55), (203, x_iload 1), (204, x_aload 0), (207, x_gfr 8 37 55), (208, x_iload 1), (209, x_ald 55), (210, x_iconst 1), (212, x_iload 6), (213, x_bin (fun x y => x <<< (y &&& 31))), (214, x_bin (fun x y => x ||| y)), (215, x_ast 55), (216, x_aload 0), (219, x_gfr 8 29 47), (220, x_iload 1), (221, x_iconst 3), (222, x_ast 47), (223, x_aload 0), (226, x_gfr 8 34 52), (227, x_iload 1), (228, x_aload 0), (231, x_gfr 8 30 48), (232, x_iload 1), (233, x_ald 48), (234, x_ast 52), (235, x_aload 0), (238, x_gfr 8 35 53), (239, x_iload 1), (241, x_iload 6), (242, x_ast 53), (243, x_aload 0), (246, x_gfr 8 36 54), (247, x_iload 1), (249, x_iload 8), (250, x_ast 54), (251, x_ret)]
def b123_251 : List (Nat × xI) := [(254, x_iinc 5 1), (257, x_goto 18)]
def b123_257 : List (Nat × xI) := [(258, x_aload 0), (259, x_iload 1), (260, x_iconst 4), (263, x_callv 8 105 3 0 0 0 0), (264, x_ret)]
def t123 : List (Nat × List (Nat × xI)) := [(0, b123_0), (12, b123_12), (13, b123_13), (18, b123_18), (60, b123_60), (92, b123_92), (126, b123_126), (170, b123_170), (251, b123_251), (257, b123_257)]
def b124_0 : List (Nat × xI) := [(1, x_aload 0), (4, x_gfr 8 28 46), (6, x_iconst 72), (7, x_iload 1), (8, x_bin (fun x y => x * y)), (9, x_ald 46), (10, x_istore 2), (11, x_aload 0), (12, x_iload 2), (15, x_callv 8 102 2 0 0 0 0), (16, x_aload 0), (17, x_iload 2), (18, x_iload 1), (21, x_callv 8 114 3 0 0 0 0), (22, x_istore 3), (23, x_iload 3), (26, x_if (fun x => x < 0) 46), (27, x_aload 0), (30, x_gfr 8 30 48), (31, x_iload 2), (32, x_ald 48), (33, x_aload 0), (36, x_gfr 8 11 30), (37, x_iload 3), (38, x_ald 30), (41, x_call 95 1 0 0 0 0), (42, x_iconst 2), (43, x_bin (fun x y => x + y)), (46, x_icmp (fun x y => y ≤ x) 55), (46, x_goto 46)]
def b124_46 : List (Nat × xI) := [(47, x_aload 0), (48, x_iload 2), (49, x_iconst 5), (52, x_callv 8 105 3 0 0 0 0), (55, x_goto 116)]
def b124_55 : List (Nat × xI) := [(56, x_aload 0), (59, x_gfr 8 15 34), (60, x_iload 3), (61, x_ald 34), (64, x_if (fun x => x = 0) 109), (66, x_iconst 8), (67, x_iload 2), (68, x_bin (fun x y => x * y)), (69, x_aload 0), (72, x_gfr 8 11 30), (73, x_iload 3), (74, x_ald 30), (77, x_call 95 1 0 0 0 0), (78, x_bin (fun x y => x + y)), (80, x_istore 4), (81, x_aload 0), (82, x_iload 2), (83, x_iload 1), (85, x_iconst 10), (86, x_aload 0), (89, x_gfr 8 31 49), (91, x_iload 4), (92, x_ald 49), (93, x_bin (fun x y => x * y)), (94, x_aload 0), (97, x_gfr 8 31 49), (99, x_iload 4), (100, x_iconst 1), (101, x_bin (fun x y => x + y)), (102, x_ald 49), (103, x_bin (fun x y => x + y)), (106, x_callv 8 121 4 0 0 0 0), (109, x_goto 116)]
def b124_109 : List (Nat × xI) := [(110, x_aload 0), (111, x_iload 2), (112, x_iload 1), (113, x_iload 3), (116, x_callv 8 123 4 0 0 0 0), (116, x_goto 116)]
def b124_116 : List (Nat × xI) := [(117, x_ret)]
def t124 : List (Nat × List (Nat × xI)) := [(0, b124_0), (46, b124_46), (55, b124_55), (109, b124_109), (116, b124_116)]
def b125_0 : List (Nat × xI) := [(1, x_aload 0), (4, x_gfr 8 19 38), (5, x_iconst 3), (6, x_iload 1), (7, x_bin (fun x y => x * y)), (8, x_iload 2), (9, x_bin (fun x y => x + y)), (10, x_ald 38), (11, x_istore 3), (12, x_iload 3), (15, x_if (fun x => x < 0) 45), (16, x_aload 0), (19, x_gfr 8 29 47), (20, x_iload 3), (21, x_ald 47), (22, x_iconst 3), (25, x_icmp (fun x y => ¬ x = y) 45), (26, x_aload 0), (29, x_gfr 8 32 50), (30, x_iload 3), (31, x_ald 50), (32, x_iload 1), (35, x_icmp (fun x y => ¬ x = y) 45), (36, x_aload 0), (39, x_gfr 8 33 51), (40, x_iload 3), (41, x_ald 51), (42, x_iload 2), (45, x_icmp (fun x y => x = y) 46), (45, x_goto 45)]
def b125_45 : List (Nat × xI) := [(46, x_ret)]
def b125_46 : List (Nat × xI) := [(47, x_aload 0), (50, x_gfr 8 34 52), (51, x_iload 3), (52, x_dup2), (53, x_ald 52), (54, x_iconst 1), (55, x_bin (fun x y => x - y)), (56, x_ast 52), (57, x_aload 0), (60, x_gfr 8 34 52), (61, x_iload 3), (62, x_ald 52), (65, x_if (fun x => ¬ x = 0) 103), (66, x_aload 0), (67, x_iload 3), (70, x_iconst 1000), (71, x_iload 1), (72, x_bin (fun x y => x * y)), (74, x_iconst 30), (75, x_bin (fun x y => x + y)), (76, x_iload 2), (77, x_bin (fun x y => x + y)), (80, x_callv 8 101 3 0 0 0 0), (81, x_aload 0), (84, x_gfr 8 33 51), (85, x_iload 3), (86, x_aload 0), (89, x_gfr 8 36 54), (90, x_iload 3), (91, x_ald 54), (92, x_ast 51), (93, x_aload 0), (94, x_iload 3), (95, x_aload 0), (98, x_gfr 8 35 53), (99, x_iload 3), (100, x_ald 53), (103, x_callv 8 103 3 0 0 0 0), (103, x_goto 103)]
def b125_103 : List (Nat × xI) := [(104, x_ret)]
def t125 : List (Nat × List (Nat × xI)) := [(0, b125_0), (45, b125_45), (46, b125_46), (103, b125_103)]
def b126_0 : List (Nat × xI) := [(1, x_aload 0), (4, x_gfr 8 29 47), (5, x_iload 1), (6, x_ald 47), (7, x_iconst 1), (10, x_icmp (fun x y => ¬ x = y) 40), (11, x_aload 0), (14, x_gfr 8 38 56), (15, x_iload 1), (16, x_dup2), (17, x_ald 56), (18, x_iconst 1), (19, x_bin (fun x y => x + y)), (20, x_ast 56), (21, x_aload 0), (24, x_gfr 8 38 56), (25, x_iload 1), (26, x_ald 56), (28, x_iconst 20), (31, x_icmp (fun x y => ¬ x = y) 170), (32, x_aload 0), (33, x_iload 1), (34, x_iconst 3), (37, x_callv 8 105 3 0 0 0 0), (40, x_goto 170)]
def b126_40 : List (Nat × xI) := [(41, x_aload 0), (44, x_gfr 8 29 47), (45, x_iload 1), (46, x_ald 47), (47, x_iconst 5), (50, x_icmp (fun x y => ¬ x = y) 170), (51, x_aload 0), (54, x_gfr 8 3 22), (55, x_aload 0), (58, x_gfr 8 39 57), (59, x_iload 1), (60, x_ald 57), (61, x_ald 22), (64, x_if (fun x => x = 0) 134), (65, x_aload 0), (68, x_gfr 8 43 61), (69, x_iload 1), (70, x_dup2), (71, x_ald 61), (72, x_iconst 1), (73, x_bin (fun x y => x + y)), (74, x_ast 61), (75, x_aload 0), (78, x_gfr 8 13 32), (79, x_aload 0), (82, x_gfr 8 40 58), (83, x_iload 1), (84, x_ald 58), (85, x_ald 32), (86, x_istore 2), (87, x_iload 2), (90, x_if (fun x => x ≤ 0) 131), (91, x_aload 0), (94, x_gfr 8 43 61), (95, x_iload 1), (96, x_ald 61), (97, x_iload 2), (100, x_icmp (fun x y => x < y) 131), (101, x_aload 0), (104, x_gfr 8 43 61), (105, x_iload 1), (106, x_iconst 0), (107, x_ast 61), (108, x_aload 0), (111, x_gfr 8 6 25), (112, x_iload 1), (113, x_aload 0), (116, x_gfr 8 6 25), (117, x_iload 1), (118, x_ald 25), (119, x_aload 0), (122, x_gfr 8 12 31), (123, x_aload 0), (126, x_gfr 8 40 58), (127, x_iload 1), (128, x_ald 58), (129, x_ald 31), (130, x_bin (fun x y => x + y)), (131, x_ast 25), (131, x_goto 131)]
def b126_131 : List (Nat × xI) := [(134, x_goto 170)]
def b126_134 : List (Nat × xI) := [(135, x_aload 0), (138, x_gfr 8 42 60), (139, x_iload 1), (140, x_ald 60), (143, x_if (fun x => ¬ x = 0) 170), (144, x_aload 0), (147, x_gfr 8 44 62), (148, x_iload 1), (149, x_dup2), (150, x_ald 62), (151, x_iconst 1), (152, x_bin (fun x y => x + y)), (153, x_ast 62), (154, x_aload 0), (157, x_gfr 8 44 62), (158, x_iload 1), (159, x_ald 62), (161, x_iconst 12), (164, x_icmp (fun x y => ¬ x = y) 170), (165, x_aload 0), (166, x_iload 1), (167, x_iconst 3), (170, x_callv 8 106 3 0 0 0 0), (170, x_goto 170)]
def b126_170 : List (Nat × xI) := [(171, x_ret)]
def t126 : List (Nat × List (Nat × xI)) := [(0, b126_0), (40, b126_40), (131, b126_131), (134, b126_134), (170, b126_170)]
def b127_0 : List (Nat × xI) := [(1, x_aload 0), (2, x_iload 1), (5, x_callv 8 107 2 0 0 0 0), (8, x_if (fun x => x < 0) 82), (9, x_aload 0), (10, x_iload 1), (13, x_callv 8 108 2 0 0 0 0), (16, x_if (fun x => x = 0) 82), (17, x_iconst (-1)), (18, x_istore 2), (20, x_iconst 24), (21, x_iload 1), (22, x_bin (fun x y => x * y)), (23, x_istore 3), (23, x_goto 23)]
def b127_23 : List (Nat × xI) := [(24, x_iload 3), (26, x_iconst 24), (27, x_iload 1), (28, x_bin (fun x y => x * y)), (30, x_iconst 24), (31, x_bin (fun x y => x + y)), (34, x_icmp (fun x y => y ≤ x) 74), (35, x_aload 0), (38, x_gfr 8 5 24), (39, x_iload 3), (40, x_ald 24), (43, x_if (fun x => x < 0) 66), (44, x_iload 2), (47, x_if (fun x => x < 0) 62), (48, x_aload 0), (51, x_gfr 8 5 24), (52, x_iload 3), (53, x_ald 24), (54, x_aload 0), (57, x_gfr 8 5 24), (58, x_iload 2), (59, x_ald 24), (62, x_icmp (fun x y => y ≤ x) 66), (62, x_goto 62)]
def b127_62 : List (Nat × xI) := [(63, x_iload 3), (66, x_goto 67)]
def b127_66 : List (Nat × xI) := [(67, x_iload 2), (67, x_goto 67)]
def b127_67 : List (Nat × xI) := [(68, x_istore 2), (71, x_iinc 3 1), (74, x_goto 23)]
def b127_74 : List (Nat × xI) := [(75, x_aload 0), (76, x_iload 2), (79, x_callv 8 109 2 0 0 0 0), (82, x_goto 0)]
def b127_82 : List (Nat × xI) := [(83, x_ret)]
def t127 : List (Nat × List (Nat × xI)) := [(0, b127_0), (23, b127_23), (62, b127_62), (66, b127_66), (67, b127_67), (74, b127_74), (82, b127_82)]
def b128_0 : List (Nat × xI) := [(1, x_aload 0), (2, x_dup), (5, x_gfi 8 1), (6, x_iconst 1), (7, x_bin (fun x y => x + y)), (10, x_pfi 8 1), (11, x_iconst 0), (12, x_istore 1), (12, x_goto 12)]
def b128_12 : List (Nat × xI) := [(13, x_iload 1), (14, x_iconst 3), (17, x_icmp (fun x y => y ≤ x) 58), (18, x_aload 0), (21, x_gfr 8 27 45), (22, x_iload 1), (23, x_ald 45), (26, x_if (fun x => x ≤ 0) 52), (27, x_aload 0), (30, x_gfr 8 41 59), (31, x_aload 0), (34, x_gfr 8 28 46), (36, x_iconst 72), (37, x_iload 1), (38, x_bin (fun x y => x * y)), (39, x_ald 46), (40, x_ald 59), (41, x_aload 0), (44, x_gfi 8 1), (47, x_icmp (fun x y => y ≤ x) 52), (48, x_aload 0), (49, x_iload 1), (52, x_callv 8 124 2 0 0 0 0), (52, x_goto 52)]
def b128_52 : List (Nat × xI) := [(55, x_iinc 1 1), (58, x_goto 12)]
def b128_58 : List (Nat × xI) := [(59, x_iconst 0), (60, x_istore 1), (60, x_goto 60)]
def b128_60 : List (Nat × xI) := [(61, x_iload 1), (63, x_iconst 9), (66, x_icmp (fun x y => y ≤ x) 82), (67, x_aload 0), (68, x_iload 1), (69, x_iconst 3), (70, x_idiv), (71, x_iload 1), (72, x_iconst 3), (73, x_irem), (76, x_callv 8 125 3 0 0 0 0), (79, x_iinc 1 1), (82, x_goto 60)]
def b128_82 : List (Nat × xI) := [(83, x_iconst 0), (84, x_istore 1), (84, x_goto 84)]
def b128_84 : List (Nat × xI) := [(85, x_iload 1), (87, x_iconst 72), (90, x_icmp (fun x y => y ≤ x) 101), (91, x_aload 0), (92, x_iload 1), (95, x_callv 8 126 2 0 0 0 0), (98, x_iinc 1 1), (101, x_goto 84)]
def b128_101 : List (Nat × xI) := [(102, x_iconst 0), (103, x_istore 1), (103, x_goto 103)]
def b128_103 : List (Nat × xI) := [(104, x_iload 1), (105, x_iconst 3), (108, x_icmp (fun x y => y ≤ x) 119), (109, x_aload 0), (110, x_iload 1), (113, x_callv 8 127 2 0 0 0 0), (116, x_iinc 1 1), (119, x_goto 103)]
def b128_119 : List (Nat × xI) := [(120, x_ret)]
def t128 : List (Nat × List (Nat × xI)) := [(0, b128_0), (12, b128_12), (52, b128_52), (58, b128_58), (60, b128_60), (82, b128_82), (84, b128_84), (101, b128_101), (103, b128_103), (119, b128_119)]
def b129_0 : List (Nat × xI) := [(1, x_aload 0), (2, x_iload 1), (3, x_iconst 1), (5, x_iconst 100), (8, x_call 92 3 0 0 0 0), (11, x_if (fun x => x = 0) 15), (12, x_iconst 0), (15, x_goto 16)]
def b129_15 : List (Nat × xI) := [(16, x_iconst 1), (16, x_goto 16)]
def b129_16 : List (Nat × xI) := [(19, x_callv 8 91 2 0 0 0 0), (22, x_if (fun x => x = 0) 23), (23, x_ret)]
def b129_23 : List (Nat × xI) := [(24, x_iconst 0), (25, x_istore 2), (25, x_goto 25)]
def b129_25 : List (Nat × xI) := [(26, x_iload 2), (27, x_iload 1), (30, x_icmp (fun x y => y ≤ x) 40), (31, x_aload 0), (34, x_callv 8 128 1 0 0 0 0), (37, x_iinc 2 1), (40, x_goto 25)]
def b129_40 : List (Nat × xI) := [(41, x_ret)]
def t129 : List (Nat × List (Nat × xI)) := [(0, b129_0), (15, b129_15), (16, b129_16), (23, b129_23), (25, b129_25), (40, b129_40)]
def b130_0 : List (Nat × xI) := [(1, x_aload 0), (2, x_iload 1), (3, x_iconst 0), (4, x_aload 0), (7, x_gfi 8 20), (8, x_iconst 1), (9, x_bin (fun x y => x - y)), (12, x_call 92 3 0 0 0 0), (15, x_if (fun x => x = 0) 19), (16, x_iconst 0), (19, x_goto 20)]
def b130_19 : List (Nat × xI) := [(20, x_iconst 1), (20, x_goto 20)]
def b130_20 : List (Nat × xI) := [(23, x_callv 8 91 2 0 0 0 0), (26, x_if (fun x => x = 0) 28), (27, x_iconst 0), (28, x_zret)]
def b130_28 : List (Nat × xI) := [(29, x_aload 0), (32, x_gfr 8 24 42), (33, x_iload 1), (34, x_ald 42), (35, x_istore 3), (36, x_aload 0), (39, x_gfr 8 24 42), (40, x_iload 1), (41, x_iload 2), (42, x_zst 42), (43, x_iload 2), (46, x_if (fun x => x = 0) 66), (47, x_aload 0), (50, x_gfr 8 23 41), (51, x_iload 1), (52, x_ald 41), (55, x_if (fun x => x < 0) 66), (56, x_aload 0), (57, x_aload 0), (60, x_gfr 8 23 41), (61, x_iload 1), (62, x_ald 41), (63, x_iconst 4), (66, x_callv 8 106 3 0 0 0 0), (66, x_goto 66)]
def b130_66 : List (Nat × xI) := [(67, x_iload 3), (68, x_zret)]
def t130 : List (Nat × List (Nat × xI)) := [(0, b130_0), (19, b130_19), (20, b130_20), (28, b130_28), (66, b130_66)]
def b131_0 : List (Nat × xI) := [(1, x_aload 0), (2, x_iload 1), (3, x_iload 2), (6, x_call 93 2 0 0 0 0), (9, x_if (fun x => x = 0) 13), (10, x_iconst 0), (13, x_goto 14)]
def b131_13 : List (Nat × xI) := [(14, x_iconst 1), (14, x_goto 14)]
def b131_14 : List (Nat × xI) := [(17, x_callv 8 91 2 0 0 0 0), (20, x_if (fun x => x = 0) 22), (21, x_iconst 0), (22, x_zret)]
def b131_22 : List (Nat × xI) := [(23, x_aload 0), (26, x_gfr 8 9 28), (28, x_iconst 24), (29, x_iload 1), (30, x_bin (fun x y => x * y)), (31, x_iload 2), (32, x_bin (fun x y => x + y)), (33, x_ald 28), (35, x_istore 4), (37, x_iload 4), (40, x_if (fun x => x < 0) 51), (41, x_aload 0), (44, x_gfr 8 29 47), (46, x_iload 4), (47, x_ald 47), (48, x_iconst 5), (51, x_icmp (fun x y => x = y) 53), (51, x_goto 51)]
def b131_51 : List (Nat × xI) := [(52, x_iconst 0), (53, x_zret)]
def b131_53 : List (Nat × xI) := [(54, x_aload 0), (57, x_gfr 8 42 60), (59, x_iload 4), (60, x_iload 3), (61, x_zst 60), (62, x_iload 3), (65, x_if (fun x => ¬ x = 0) 82), (66, x_aload 0), (69, x_gfr 8 3 22), (71, x_iload 4), (72, x_ald 22), (75, x_if (fun x => ¬ x = 0) 82), (76, x_aload 0), (78, x_iload 4), (79, x_iconst 3), (82, x_callv 8 106 3 0 0 0 0), (82, x_goto 82)]
def b131_82 : List (Nat × xI) := [(83, x_iconst 1), (84, x_zret)]
def t131 : List (Nat × List (Nat × xI)) := [(0, b131_0), (13, b131_13), (14, b131_14), (22, b131_22), (51, b131_51), (53, b131_53), (82, b131_82)]
def b132_0 : List (Nat × xI) := [(1, x_aload 0), (2, x_iload 1), (3, x_iload 2), (6, x_call 93 2 0 0 0 0), (9, x_if (fun x => x = 0) 13), (10, x_iconst 0), (13, x_goto 14)]
def b132_13 : List (Nat × xI) := [(14, x_iconst 1), (14, x_goto 14)]
def b132_14 : List (Nat × xI) := [(17, x_callv 8 91 2 0 0 0 0), (20, x_if (fun x => x = 0) 22), (21, x_iconst 0), (22, x_iret)]
def b132_22 : List (Nat × xI) := [(24, x_iconst 24), (25, x_iload 1), (26, x_bin (fun x y => x * y)), (27, x_iload 2), (28, x_bin (fun x y => x + y)), (29, x_istore 3), (30, x_aload 0), (33, x_gfr 8 29 47), (34, x_iload 3), (35, x_ald 47), (36, x_iconst 1), (39, x_icmp (fun x y => ¬ x = y) 52), (40, x_aload 0), (43, x_gfr 8 30 48), (44, x_iload 3), (45, x_ald 48), (48, x_if (fun x => ¬ x = 0) 52), (49, x_iconst 1), (52, x_goto 72)]
def b132_52 : List (Nat × xI) := [(53, x_aload 0), (56, x_gfr 8 29 47), (57, x_iload 3), (58, x_ald 47), (59, x_iconst 4), (62, x_icmp (fun x y => ¬ x = y) 66), (63, x_iconst 2), (66, x_goto 72)]
def b132_66 : List (Nat × xI) := [(67, x_aload 0), (70, x_gfr 8 4 23), (71, x_iload 3), (72, x_ald 23), (72, x_goto 72)]
def b132_72 : List (Nat × xI) := [(73, x_iret)]
def t132 : List (Nat × List (Nat × xI)) := [(0, b132_0), (13, b132_13), (14, b132_14), (22, b132_22), (52, b132_52), (66, b132_66), (72, b132_72)]
def b133_0 : List (Nat × xI) := [(1, x_aload 0), (2, x_iload 1), (3, x_iload 2), (6, x_call 93 2 0 0 0 0), (9, x_if (fun x => x = 0) 13), (10, x_iconst 0), (13, x_goto 14)]
def b133_13 : List (Nat × xI) := [(14, x_iconst 1), (14, x_goto 14)]
def b133_14 : List (Nat × xI) := [(17, x_callv 8 91 2 0 0 0 0), (20, x_if (fun x => x = 0) 22), (21, x_iconst 0), (22, x_zret)]
def b133_22 : List (Nat × xI) := [(23, x_aload 0), (26, x_gfr 8 9 28), (28, x_iconst 24), (29, x_iload 1), (30, x_bin (fun x y => x * y)), (31, x_iload 2), (32, x_bin (fun x y => x + y)), (33, x_ald 28), (34, x_istore 3), (35, x_iload 3), (38, x_if (fun x => x < 0) 52), (39, x_aload 0), (42, x_gfr 8 29 47), (43, x_iload 3), (44, x_ald 47), (45, x_iconst 4), (48, x_icmp (fun x y => ¬ x = y) 52), (49, x_iconst 1), (52, x_goto 53)]
def b133_52 : List (Nat × xI) := [(53, x_iconst 0), (53, x_goto 53)]
def b133_53 : List (Nat × xI) := [(54, x_zret)]
def t133 : List (Nat × List (Nat × xI)) := [(0, b133_0), (13, b133_13), (14, b133_14), (22, b133_22), (52, b133_52), (53, b133_53)]
def b134_0 : List (Nat × xI) := [(1, x_aload 0), (2, x_iload 1), (3, x_iload 2), (6, x_call 93 2 0 0 0 0), (9, x_if (fun x => x = 0) 13), (10, x_iconst 0), (13, x_goto 14)]
def b134_13 : List (Nat × xI) := [(14, x_iconst 1), (14, x_goto 14)]
def b134_14 : List (Nat × xI) := [(17, x_callv 8 91 2 0 0 0 0), (20, x_if (fun x => x = 0) 22), (21, x_iconst 0), (22, x_iret)]
def b134_22 : List (Nat × xI) := [(24, x_iconst 24), (25, x_iload 1), (26, x_bin (fun x y => x * y)), (27, x_iload 2), (28, x_bin (fun x y => x + y)), (29, x_istore 3), (30, x_aload 0), (33, x_gfr 8 9 28), (34, x_iload 3), (35, x_ald 28), (38, x_if (fun x => x < 0) 47), (39, x_aload 0), (42, x_gfr 8 9 28), (43, x_iload 3), (44, x_ald 28), (47, x_goto 48)]
def b134_47 : List (Nat × xI) := [(48, x_iload 3), (48, x_goto 48)]
def b134_48 : List (Nat × xI) := [(50, x_istore 4), (51, x_aload 0), (54, x_gfr 8 29 47), (56, x_iload 4), (57, x_ald 47), (58, x_iconst 5), (61, x_icmp (fun x y => ¬ x = y) 90), (62, x_aload 0), (65, x_gfr 8 3 22), (67, x_iload 4), (68, x_ald 22), (71, x_if (fun x => x = 0) 90), (72, x_aload 0), (75, x_gfr 8 3 22), (76, x_aload 0), (79, x_gfr 8 39 57), (81, x_iload 4), (82, x_ald 57), (83, x_ald 22), (86, x_if (fun x => x = 0) 90), (87, x_iconst 1), (90, x_goto 91)]
def b134_90 : List (Nat × xI) := [(91, x_iconst 0), (91, x_goto 91)]
def b134_91 : List (Nat × xI) := [(93, x_istore 5), (95, x_iload 5), (98, x_if (fun x => ¬ x = 0) 102), (99, x_iconst (-1)), (102, x_goto 120)]
def b134_102 : List (Nat × xI) := [(104, x_iload 4), (105, x_iload 3), (108, x_icmp (fun x y => ¬ x = y) 118), (109, x_aload 0), (112, x_gfr 8 39 57), (114, x_iload 4), (115, x_ald 57), (118, x_goto 120)]
def b134_118 : List (Nat × xI) := [(120, x_iload 4), (120, x_goto 120)]
def b134_120 : List (Nat × xI) := [(121, x_iret)]
def t134 : List (Nat × List (Nat × xI)) := [(0, b134_0), (13, b134_13), (14, b134_14), (22, b134_22), (47, b134_47), (48, b134_48), (90, b134_90), (91, b134_91), (102, b134_102), (118, b134_118), (120, b134_120)]
def b135_0 : List (Nat × xI) := [(1, x_aload 0), (2, x_iload 1), (3, x_iload 2), (6, x_call 93 2 0 0 0 0), (9, x_if (fun x => x = 0) 13), (10, x_iconst 0), (13, x_goto 14)]
def b135_13 : List (Nat × xI) := [(14, x_iconst 1), (14, x_goto 14)]
def b135_14 : List (Nat × xI) := [(17, x_callv 8 91 2 0 0 0 0), (20, x_if (fun x => x = 0) 24), (21, x_iconst 0), (24, x_goto 35)]
def b135_24 : List (Nat × xI) := [(25, x_aload 0), (28, x_gfr 8 6 25), (30, x_iconst 24), (31, x_iload 1), (32, x_bin (fun x y => x * y)), (33, x_iload 2), (34, x_bin (fun x y => x + y)), (35, x_ald 25), (35, x_goto 35)]
def b135_35 : List (Nat × xI) := [(36, x_iret)]
def t135 : List (Nat × List (Nat × xI)) := [(0, b135_0), (13, b135_13), (14, b135_14), (24, b135_24), (35, b135_35)]
def b136_0 : List (Nat × xI) := [(1, x_aload 0), (2, x_iload 1), (3, x_iload 2), (6, x_call 93 2 0 0 0 0), (9, x_if (fun x => x = 0) 13), (10, x_iconst 0), (13, x_goto 14)]
def b136_13 : List (Nat × xI) := [(14, x_iconst 1), (14, x_goto 14)]
def b136_14 : List (Nat × xI) := [(17, x_callv 8 91 2 0 0 0 0), (20, x_if (fun x => x = 0) 22), (21, x_iconst 0), (22, x_iret)]
def b136_22 : List (Nat × xI) := [(24, x_iconst 24), (25, x_iload 1), (26, x_bin (fun x y => x * y)), (27, x_iload 2), (28, x_bin (fun x y => x + y)), (30, x_istore 4), (31, x_aload 0), (34, x_gfr 8 29 47), (36, x_iload 4), (37, x_ald 47), (40, x_if (fun x => x = 0) 72), (41, x_iload 3), (42, x_iconst 0), (43, x_aload 0), (46, x_gfr 8 45 63), (48, x_iload 4), (49, x_ald 63), (50, x_iconst 1), (51, x_bin (fun x y => x - y)), (54, x_call 92 3 0 0 0 0), (57, x_if (fun x => x = 0) 72), (58, x_aload 0), (61, x_gfr 8 46 64), (63, x_iconst 16), (65, x_iload 4), (66, x_bin (fun x y => x * y)), (67, x_iload 3), (68, x_bin (fun x y => x + y)), (69, x_ald 64), (72, x_goto 73)]
def b136_72 : List (Nat × xI) := [(73, x_iconst (-1)), (73, x_goto 73)]
def b136_73 : List (Nat × xI) := [(74, x_iret)]
def t136 : List (Nat × List (Nat × xI)) := [(0, b136_0), (13, b136_13), (14, b136_14), (22, b136_22), (72, b136_72), (73, b136_73)]
def b137_0 : List (Nat × xI) := [(1, x_aload 0), (2, x_iload 1), (3, x_iconst 0), (4, x_iconst 2), (7, x_call 92 3 0 0 0 0), (10, x_if (fun x => x = 0) 23), (11, x_iload 2), (12, x_iconst 0), (13, x_iconst 5), (16, x_call 92 3 0 0 0 0), (19, x_if (fun x => x = 0) 23), (20, x_iconst 0), (23, x_goto 24)]
def b137_23 : List (Nat × xI) := [(24, x_iconst 1), (24, x_goto 24)]
def b137_24 : List (Nat × xI) := [(27, x_callv 8 91 2 0 0 0 0), (30, x_if (fun x => x = 0) 32), (31, x_iconst 0), (32, x_iret)]
def b137_32 : List (Nat × xI) := [(33, x_iload 2), (34, x_iconst 5), (37, x_icmp (fun x y => ¬ x = y) 46), (38, x_aload 0), (41, x_gfr 8 27 45), (42, x_iload 1), (43, x_ald 45), (46, x_goto 47)]
def b137_46 : List (Nat × xI) := [(47, x_iconst 0), (47, x_goto 47)]
def b137_47 : List (Nat × xI) := [(48, x_istore 3), (49, x_iconst 0), (51, x_istore 4), (51, x_goto 51)]
def b137_51 : List (Nat × xI) := [(53, x_iload 4), (54, x_iconst 3), (57, x_icmp (fun x y => y ≤ x) 89), (58, x_iload 2), (61, x_if (fun x => ¬ x = 0) 81), (62, x_aload 0), (65, x_gfr 8 19 38), (66, x_iconst 3), (67, x_iload 1), (68, x_bin (fun x y => x * y)), (70, x_iload 4), (71, x_bin (fun x y => x + y)), (72, x_ald 38), (75, x_if (fun x => 0 ≤ x) 81), (76, x_iload 3), (77, x_iconst 1), (78, x_bin (fun x y => x + y)), (81, x_goto 82)]
def b137_81 : List (Nat × xI) := [(82, x_iload 3), (82, x_goto 82)]
def b137_82 : List (Nat × xI) := [(83, x_istore 3), (86, x_iinc 4 1), (89, x_goto 51)]
def b137_89 : List (Nat × xI) := [(90, x_iconst 0), (92, x_istore 4), (92, x_goto 92)]
def b137_92 : List (Nat × xI) := [(94, x_iload 4), (96, x_iconst 12), (99, x_icmp (fun x y => y ≤ x) 133), (100, x_iload 2), (101, x_iconst 1), (104, x_icmp (fun x y => ¬ x = y) 125), (105, x_aload 0), (108, x_gfr 8 17 36), (110, x_iconst 12), (111, x_iload 1), (112, x_bin (fun x y => x * y)), (114, x_iload 4), (115, x_bin (fun x y => x + y)), (116, x_ald 36), (119, x_if (fun x => 0 ≤ x) 125), (120, x_iload 3), (121, x_iconst 1), (122, x_bin (fun x y => x + y)), (125, x_goto 126)]
def b137_125 : List (Nat × xI) := [(126, x_iload 3), (126, x_goto 126)]
def b137_126 : List (Nat × xI) := [(127, x_istore 3), (130, x_iinc 4 1), (133, x_goto 92)]
def b137_133 : List (Nat × xI) := [(134, x_iconst 0), (136, x_istore 4), (136, x_goto 136)]
def b137_136 : List (Nat × xI) := [(138, x_iload 4), (139, x_iconst 5), (142, x_icmp (fun x y => y ≤ x) 175), (143, x_iload 2), (144, x_iconst 2), (147, x_icmp (fun x y => ¬ x = y) 167), (148, x_aload 0), (151, x_gfr 8 18 37), (152, x_iconst 5), (153, x_iload 1), (154, x_bin (fun x y => x * y)), (156, x_iload 4), (157, x_bin (fun x y => x + y)), (158, x_ald 37), (161, x_if (fun x => 0 ≤ x) 167), (162, x_iload 3), (163, x_iconst 1), (164, x_bin (fun x y => x + y)), (167, x_goto 168)]
def b137_167 : List (Nat × xI) := [(168, x_iload 3), (168, x_goto 168)]
def b137_168 : List (Nat × xI) := [(169, x_istore 3), (172, x_iinc 4 1), (175, x_goto 136)]
def b137_175 : List (Nat × xI) := [(176, x_iconst 0), (178, x_istore 4), (178, x_goto 178)]
def b137_178 : List (Nat × xI) := [(180, x_iload 4), (181, x_aload 0), (184, x_gfi 8 20), (187, x_icmp (fun x y => y ≤ x) 248), (188, x_iload 2), (189, x_iconst 3), (192, x_icmp (fun x y => ¬ x = y) 240), (193, x_aload 0), (196, x_gfr 8 21 39), (198, x_iload 4), (199, x_ald 39), (200, x_iload 1), (203, x_icmp (fun x y => x = y) 214), (204, x_aload 0), (207, x_gfr 8 22 40), (209, x_iload 4), (210, x_ald 40), (211, x_iload 1), (214, x_icmp (fun x y => ¬ x = y) 240), (214, x_goto 214)]
def b137_214 : List (Nat × xI) := [(215, x_aload 0), (218, x_gfr 8 23 41), (220, x_iload 4), (221, x_ald 41), (224, x_if (fun x => 0 ≤ x) 240), (225, x_aload 0), (228, x_gfr 8 24 42), (230, x_iload 4), (231, x_ald 42), (234, x_if (fun x => ¬ x = 0) 240), (235, x_iload 3), (236, x_iconst 1), (237, x_bin (fun x y => x + y)), (240, x_goto 241)]
def b137_240 : List (Nat × xI) := [(241, x_iload 3), (241, x_goto 241)]
def b137_241 : List (Nat × xI) := [(242, x_istore 3), (245, x_iinc 4 1), (248, x_goto 178)]
def b137_248 : List (Nat × xI) := [(250, x_iconst 24), (251, x_iload 1), (252, x_bin (fun x y => x * y)), (254, x_istore 4), (254, x_goto 254)]
def b137_254 : List (Nat × xI) := [(256, x_iload 4), (258, x_iconst 24), (259, x_iload 1), (260, x_bin (fun x y => x * y)), (262, x_iconst 24), (263, x_bin (fun x y => x + y)), (266, x_icmp (fun x y => y ≤ x) 295), (267, x_iload 2), (268, x_iconst 4), (271, x_icmp (fun x y => ¬ x = y) 287), (272, x_aload 0), (275, x_gfr 8 5 24), (277, x_iload 4), (278, x_ald 24), (281, x_if (fun x => x < 0) 287), (282, x_iload 3), (283, x_iconst 1), (284, x_bin (fun x y => x + y)), (287, x_goto 288)]
def b137_287 : List (Nat × xI) := [(288, x_iload 3), (288, x_goto 288)]
def b137_288 : List (Nat × xI) := [(289, x_istore 3), (292, x_iinc 4 1), (295, x_goto 254)]
def b137_295 : List (Nat × xI) := [(296, x_iload 3), (297, x_iret)]
def t137 : List (Nat × List (Nat × xI)) := [(0, b137_0), (23, b137_23), (24, b137_24), (32, b137_32), (46, b137_46), (47, b137_47), (51, b137_51), (81, b137_81), (82, b137_82), (89, b137_89), (92, b137_92), (125, b137_125), (126, b137_126), (133, b137_133), (136, b137_136), (167, b137_167), (168, b137_168), (175, b137_175), (178, b137_178), (214, b137_214), (240, b137_240), (241, b137_241), (248, b137_248), (254, b137_254), (287, b137_287), (288, b137_288), (295, b137_295)]
def b138_0 : List (Nat × xI) := [(1, x_aload 0), (2, x_iload 1), (3, x_iconst 0), (4, x_iconst 2), (7, x_call 92 3 0 0 0 0), (10, x_if (fun x => x = 0) 23), (11, x_iload 2), (12, x_iconst 0), (13, x_iconst 2), (16, x_call 92 3 0 0 0 0), (19, x_if (fun x => x = 0) 23), (20, x_iconst 0), (23, x_goto 24)]
def b138_23 : List (Nat × xI) := [(24, x_iconst 1), (24, x_goto 24)]
def b138_24 : List (Nat × xI) := [(27, x_callv 8 91 2 0 0 0 0), (30, x_if (fun x => x = 0) 34), (31, x_iconst 0), (34, x_goto 44)]
def b138_34 : List (Nat × xI) := [(35, x_aload 0), (38, x_gfr 8 26 44), (39, x_iconst 3), (40, x_iload 1), (41, x_bin (fun x y => x * y)), (42, x_iload 2), (43, x_bin (fun x y => x + y)), (44, x_ald 44), (44, x_goto 44)]
def b138_44 : List (Nat × xI) := [(45, x_iret)]
def t138 : List (Nat × List (Nat × xI)) := [(0, b138_0), (23, b138_23), (24, b138_24), (34, b138_34), (44, b138_44)]
def x_tbl : List (List (Nat × List (Nat × xI))) := [t0, t1, t2, t3, t4, t5, t6, t7, t8, t9, t10, t11, t12, t13, t14, t15, t16, t17, t18, t19, t20, t21, t22, t23, t24, t25, t26, t27, t28, t29, t30, t31, t32, t33, t34, t35, t36, t37, t38, t39, t40, t41, t42, t43, t44, t45, t46, t47, t48, t49, t50, t51, t52, t53, t54, t55, t56, t57, t58, t59, t60, t61, t62, t63, t64, t65, t66, t67, t68, t69, t70, t71, t72, t73, t74, t75, t76, t77, t78, t79, t80, t81, t82, t83, t84, t85, t86, t87, t88, t89, t90, t91, t92, t93, t94, t95, t96, t97, t98, t99, t100, t101, t102, t103, t104, t105, t106, t107, t108, t109, t110, t111, t112, t113, t114, t115, t116, t117, t118, t119, t120, t121, t122, t123, t124, t125, t126, t127, t128, t129, t130, t131, t132, t133, t134, t135, t136, t137, t138]
def x_cd (μ pc : Nat) : List (Nat × xI) := (((x_tbl[μ]?).getD []).lookup pc).getD []
