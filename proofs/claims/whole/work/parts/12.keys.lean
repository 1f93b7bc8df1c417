/-! ===== the keys of the tables ===== -/
theorem xft_0_9 : xassoc xFt (0, 9) = some (1, 0) := by decide +kernel
theorem xft_0_15 : xassoc xFt (0, 15) = some (1, 1) := by decide +kernel
theorem xft_0_18 : xassoc xFt (0, 18) = some (1, 2) := by decide +kernel
theorem xft_0_21 : xassoc xFt (0, 21) = some (1, 3) := by decide +kernel
theorem xft_0_30 : xassoc xFt (0, 30) = some (1, 4) := by decide +kernel
theorem xft_0_34 : xassoc xFt (0, 34) = some (1, 5) := by decide +kernel
theorem xft_0_37 : xassoc xFt (0, 37) = some (1, 6) := by decide +kernel
theorem xft_0_40 : xassoc xFt (0, 40) = some (1, 7) := by decide +kernel
theorem xft_0_43 : xassoc xFt (0, 43) = some (1, 8) := by decide +kernel
theorem xft_0_46 : xassoc xFt (0, 46) = some (1, 9) := by decide +kernel
theorem xft_0_49 : xassoc xFt (0, 49) = some (1, 10) := by decide +kernel
theorem xft_0_52 : xassoc xFt (0, 52) = some (4, 5) := by decide +kernel
theorem xft_0_55 : xassoc xFt (0, 55) = some (4, 2) := by decide +kernel
theorem xft_0_56 : xassoc xFt (0, 56) = some (4, 3) := by decide +kernel
theorem xft_1_11 : xassoc xFt (1, 11) = some (2, 0) := by decide +kernel
theorem xft_1_18 : xassoc xFt (1, 18) = some (2, 1) := by decide +kernel
theorem xft_1_22 : xassoc xFt (1, 22) = some (2, 2) := by decide +kernel
theorem xft_2_11 : xassoc xFt (2, 11) = some (3, 0) := by decide +kernel
theorem xft_2_17 : xassoc xFt (2, 17) = some (3, 1) := by decide +kernel
theorem xft_2_21 : xassoc xFt (2, 21) = some (3, 2) := by decide +kernel
theorem xft_2_35 : xassoc xFt (2, 35) = some (3, 3) := by decide +kernel
theorem xft_2_39 : xassoc xFt (2, 39) = some (3, 4) := by decide +kernel
theorem xft_2_42 : xassoc xFt (2, 42) = some (3, 5) := by decide +kernel
theorem xft_2_45 : xassoc xFt (2, 45) = some (1, 6) := by decide +kernel
theorem xft_2_48 : xassoc xFt (2, 48) = some (1, 4) := by decide +kernel
theorem xft_2_51 : xassoc xFt (2, 51) = some (1, 10) := by decide +kernel
theorem xft_2_54 : xassoc xFt (2, 54) = some (1, 1) := by decide +kernel
theorem xft_2_57 : xassoc xFt (2, 57) = some (1, 0) := by decide +kernel
theorem xft_2_60 : xassoc xFt (2, 60) = some (1, 9) := by decide +kernel
theorem xft_2_77 : xassoc xFt (2, 77) = some (1, 8) := by decide +kernel
theorem xft_2_120 : xassoc xFt (2, 120) = some (1, 3) := by decide +kernel
theorem xft_2_129 : xassoc xFt (2, 129) = some (1, 7) := by decide +kernel
theorem xft_3_9 : xassoc xFt (3, 9) = some (4, 0) := by decide +kernel
theorem xft_3_15 : xassoc xFt (3, 15) = some (4, 2) := by decide +kernel
theorem xft_3_19 : xassoc xFt (3, 19) = some (4, 3) := by decide +kernel
theorem xft_3_24 : xassoc xFt (3, 24) = some (4, 1) := by decide +kernel
theorem xft_3_28 : xassoc xFt (3, 28) = some (4, 6) := by decide +kernel
theorem xft_3_31 : xassoc xFt (3, 31) = some (4, 5) := by decide +kernel
theorem xft_3_38 : xassoc xFt (3, 38) = some (4, 4) := by decide +kernel
theorem xft_4_10 : xassoc xFt (4, 10) = some (5, 0) := by decide +kernel
theorem xft_4_16 : xassoc xFt (4, 16) = some (5, 1) := by decide +kernel
theorem xft_4_22 : xassoc xFt (4, 22) = some (5, 2) := by decide +kernel
theorem xft_4_26 : xassoc xFt (4, 26) = some (5, 3) := by decide +kernel
theorem xft_4_30 : xassoc xFt (4, 30) = some (5, 4) := by decide +kernel
theorem xft_4_37 : xassoc xFt (4, 37) = some (5, 5) := by decide +kernel
theorem xft_4_49 : xassoc xFt (4, 49) = some (3, 0) := by decide +kernel
theorem xft_4_53 : xassoc xFt (4, 53) = some (1, 4) := by decide +kernel
theorem xft_4_71 : xassoc xFt (4, 71) = some (4, 4) := by decide +kernel
theorem xft_4_78 : xassoc xFt (4, 78) = some (4, 1) := by decide +kernel
theorem xft_4_84 : xassoc xFt (4, 84) = some (1, 8) := by decide +kernel
theorem xft_4_87 : xassoc xFt (4, 87) = some (1, 9) := by decide +kernel
theorem xft_4_97 : xassoc xFt (4, 97) = some (3, 1) := by decide +kernel
theorem xft_4_104 : xassoc xFt (4, 104) = some (3, 3) := by decide +kernel
theorem xft_4_116 : xassoc xFt (4, 116) = some (1, 6) := by decide +kernel
theorem xft_4_119 : xassoc xFt (4, 119) = some (1, 7) := by decide +kernel
theorem xft_4_130 : xassoc xFt (4, 130) = some (1, 10) := by decide +kernel
theorem xft_4_145 : xassoc xFt (4, 145) = some (1, 3) := by decide +kernel
theorem xft_4_148 : xassoc xFt (4, 148) = some (1, 0) := by decide +kernel
theorem xft_4_151 : xassoc xFt (4, 151) = some (1, 1) := by decide +kernel
theorem xft_4_154 : xassoc xFt (4, 154) = some (1, 5) := by decide +kernel
theorem xft_4_157 : xassoc xFt (4, 157) = some (1, 2) := by decide +kernel
theorem xft_4_172 : xassoc xFt (4, 172) = some (3, 4) := by decide +kernel
theorem xft_4_175 : xassoc xFt (4, 175) = some (3, 5) := by decide +kernel
theorem xft_4_185 : xassoc xFt (4, 185) = some (2, 2) := by decide +kernel
theorem xft_5_7 : xassoc xFt (5, 7) = some (6, 1) := by decide +kernel
theorem xft_5_13 : xassoc xFt (5, 13) = some (6, 2) := by decide +kernel
theorem xft_5_16 : xassoc xFt (5, 16) = some (6, 3) := by decide +kernel
theorem xft_5_19 : xassoc xFt (5, 19) = some (6, 5) := by decide +kernel
theorem xft_5_22 : xassoc xFt (5, 22) = some (6, 6) := by decide +kernel
theorem xft_5_26 : xassoc xFt (5, 26) = some (6, 7) := by decide +kernel
theorem xft_5_29 : xassoc xFt (5, 29) = some (6, 9) := by decide +kernel
theorem xft_5_32 : xassoc xFt (5, 32) = some (6, 10) := by decide +kernel
theorem xft_5_35 : xassoc xFt (5, 35) = some (6, 14) := by decide +kernel
theorem xft_5_38 : xassoc xFt (5, 38) = some (6, 0) := by decide +kernel
theorem xft_5_46 : xassoc xFt (5, 46) = some (6, 4) := by decide +kernel
theorem xft_5_147 : xassoc xFt (5, 147) = some (6, 8) := by decide +kernel
theorem xft_5_155 : xassoc xFt (5, 155) = some (6, 11) := by decide +kernel
theorem xft_5_158 : xassoc xFt (5, 158) = some (6, 12) := by decide +kernel
theorem xft_5_177 : xassoc xFt (5, 177) = some (6, 15) := by decide +kernel
theorem xft_5_180 : xassoc xFt (5, 180) = some (6, 13) := by decide +kernel
theorem xft_7_9 : xassoc xFt (7, 9) = some (13, 0) := by decide +kernel
theorem xft_7_15 : xassoc xFt (7, 15) = some (13, 1) := by decide +kernel
theorem xst_3_61 : xassoc xSt (3, 61) = some 0 := by decide +kernel
theorem xst_3_64 : xassoc xSt (3, 64) = some 1 := by decide +kernel
theorem xst_4_207 : xassoc xSt (4, 207) = some 0 := by decide +kernel
theorem xst_4_210 : xassoc xSt (4, 210) = some 1 := by decide +kernel
theorem xst_7_38 : xassoc xSt (7, 38) = some 2 := by decide +kernel
theorem xit_4_107 : xassoc xIt (4, 107) = some (nI 100000) := by decide +kernel
theorem xit_4_112 : xassoc xIt (4, 112) = some (nI 99000) := by decide +kernel
theorem xit_5_119 : xassoc xIt (5, 119) = some (nI 100000) := by decide +kernel
theorem xit_5_124 : xassoc xIt (5, 124) = some (nI 99000) := by decide +kernel
theorem xit_10_265 : xassoc xIt (10, 265) = some (nI 1431655765) := by decide +kernel
theorem xit_10_266 : xassoc xIt (10, 266) = some (nI 858993459) := by decide +kernel
theorem xit_10_267 : xassoc xIt (10, 267) = some (nI 252645135) := by decide +kernel
theorem xjt_3_22 : xassoc xJt (3, 22) = some (lN 255) := by decide +kernel
theorem xjt_5_153 : xassoc xJt (5, 153) = some (lN 255) := by decide +kernel
theorem xjt_6_77 : xassoc xJt (6, 77) = some (lN 4294967295) := by decide +kernel
theorem xkt_1_9 : xassoc xKt (1, 9) = some 2 := by decide +kernel
theorem xkt_2_9 : xassoc xKt (2, 9) = some 0 := by decide +kernel
theorem xkt_4_7 : xassoc xKt (4, 7) = some 2 := by decide +kernel
theorem xkt_4_19 : xassoc xKt (4, 19) = some 1 := by decide +kernel
theorem xkt_4_34 : xassoc xKt (4, 34) = some 3 := by decide +kernel
theorem xkt_6_7 : xassoc xKt (6, 7) = some 4 := by decide +kernel
theorem xkt_6_10 : xassoc xKt (6, 10) = some 5 := by decide +kernel
set_option maxRecDepth 20000 in
theorem xct_0_57 : xassoc xCt (0, 57) = some (mX0_append, 2, 0) := rfl
set_option maxRecDepth 20000 in
theorem xct_0_61 : xassoc xCt (0, 61) = some (mX0_addToSum, 1, 0) := rfl
set_option maxRecDepth 20000 in
theorem xct_0_65 : xassoc xCt (0, 65) = some (mX4_has, 2, 3) := rfl
set_option maxRecDepth 20000 in
theorem xct_1_17 : xassoc xCt (1, 17) = some (mX2_init, 0, 2) := rfl
set_option maxRecDepth 20000 in
theorem xct_1_25 : xassoc xCt (1, 25) = some (mX2_copyFrom, 1, 0) := rfl
set_option maxRecDepth 20000 in
theorem xct_2_24 : xassoc xCt (2, 24) = some (mX0_init, 0, 4) := rfl
set_option maxRecDepth 20000 in
theorem xct_2_25 : xassoc xCt (2, 25) = some (mX0_copyFrom, 1, 0) := rfl
set_option maxRecDepth 20000 in
theorem xct_2_63 : xassoc xCt (2, 63) = some (mX2_stateOf, 1, 0) := rfl
set_option maxRecDepth 20000 in
theorem xct_2_67 : xassoc xCt (2, 67) = some (mX4_has, 2, 3) := rfl
set_option maxRecDepth 20000 in
theorem xct_2_71 : xassoc xCt (2, 71) = some (mX2_sendersTo, 1, 0) := rfl
set_option maxRecDepth 20000 in
theorem xct_2_74 : xassoc xCt (2, 74) = some (mX2_waitsOf, 1, 0) := rfl
set_option maxRecDepth 20000 in
theorem xct_2_86 : xassoc xCt (2, 86) = some (mX2_findAllWaits, 0, 0) := rfl
set_option maxRecDepth 20000 in
theorem xct_2_90 : xassoc xCt (2, 90) = some (mX2_passSlot, 0, 0) := rfl
set_option maxRecDepth 20000 in
theorem xct_2_94 : xassoc xCt (2, 94) = some (mX2_areDone, 1, 0) := rfl
set_option maxRecDepth 20000 in
theorem xct_2_98 : xassoc xCt (2, 98) = some (mX2_isStuck, 0, 0) := rfl
set_option maxRecDepth 20000 in
theorem xct_2_102 : xassoc xCt (2, 102) = some (mX2_runnerInSlotOf, 1, 0) := rfl
set_option maxRecDepth 20000 in
theorem xct_2_105 : xassoc xCt (2, 105) = some (mX2_account, 2, 0) := rfl
set_option maxRecDepth 20000 in
theorem xct_2_109 : xassoc xCt (2, 109) = some (mX2_runNextOf, 1, 0) := rfl
set_option maxRecDepth 20000 in
theorem xct_2_113 : xassoc xCt (2, 113) = some (mX2_setIn, 1, 0) := rfl
set_option maxRecDepth 20000 in
theorem xct_2_116 : xassoc xCt (2, 116) = some (mX2_lentPriority, 2, 0) := rfl
set_option maxRecDepth 20000 in
theorem xct_2_123 : xassoc xCt (2, 123) = some (mX0_goBack, 1, 0) := rfl
set_option maxRecDepth 20000 in
theorem xct_2_126 : xassoc xCt (2, 126) = some (mX0_addToSum, 1, 0) := rfl
set_option maxRecDepth 20000 in
theorem xct_2_132 : xassoc xCt (2, 132) = some (mX0_receive, 1, 0) := rfl
set_option maxRecDepth 20000 in
theorem xct_2_135 : xassoc xCt (2, 135) = some (mX0_takeMessage, 0, 0) := rfl
set_option maxRecDepth 20000 in
theorem xct_2_138 : xassoc xCt (2, 138) = some (mX2_freeIfHeldBy, 2, 0) := rfl
set_option maxRecDepth 20000 in
theorem xct_3_34 : xassoc xCt (3, 34) = some (mX3_digitHere, 0, 0) := rfl
set_option maxRecDepth 20000 in
theorem xct_3_41 : xassoc xCt (3, 41) = some (mX3_takeCharacter, 1, 0) := rfl
set_option maxRecDepth 20000 in
theorem xct_3_45 : xassoc xCt (3, 45) = some (mX3_takeCommand, 0, 0) := rfl
set_option maxRecDepth 20000 in
theorem xct_3_49 : xassoc xCt (3, 49) = some (mX3_characterAt, 1, 0) := rfl
set_option maxRecDepth 20000 in
theorem xct_3_55 : xassoc xCt (3, 55) = some (mJ0_indexOf_0f7a4, 1, 0) := rfl
set_option maxRecDepth 20000 in
theorem xct_3_67 : xassoc xCt (3, 67) = some (mX3_takeNumber, 2, 0) := rfl
set_option maxRecDepth 20000 in
theorem xct_4_9 : xassoc xCt (4, 9) = some (mX2_init, 0, 2) := rfl
set_option maxRecDepth 20000 in
theorem xct_4_21 : xassoc xCt (4, 21) = some (mX1_init, 0, 2) := rfl
set_option maxRecDepth 20000 in
theorem xct_4_36 : xassoc xCt (4, 36) = some (mX3_init, 0, 4) := rfl
set_option maxRecDepth 20000 in
theorem xct_4_41 : xassoc xCt (4, 41) = some (mX4_isContext, 1, 1) := rfl
set_option maxRecDepth 20000 in
theorem xct_4_45 : xassoc xCt (4, 45) = some (mX4_isCommand, 2, 1) := rfl
set_option maxRecDepth 20000 in
theorem xct_4_59 : xassoc xCt (4, 59) = some (mX1_record, 1, 0) := rfl
set_option maxRecDepth 20000 in
theorem xct_4_63 : xassoc xCt (4, 63) = some (mX0_append, 2, 0) := rfl
set_option maxRecDepth 20000 in
theorem xct_4_67 : xassoc xCt (4, 67) = some (mX3_findFault, 0, 0) := rfl
set_option maxRecDepth 20000 in
theorem xct_4_74 : xassoc xCt (4, 74) = some (mX0_load, 1, 0) := rfl
set_option maxRecDepth 20000 in
theorem xct_4_81 : xassoc xCt (4, 81) = some (mX4_isPriority, 1, 1) := rfl
set_option maxRecDepth 20000 in
theorem xct_4_90 : xassoc xCt (4, 90) = some (mX0_receive, 1, 0) := rfl
set_option maxRecDepth 20000 in
theorem xct_4_94 : xassoc xCt (4, 94) = some (mX4_isLock, 1, 1) := rfl
set_option maxRecDepth 20000 in
theorem xct_4_101 : xassoc xCt (4, 101) = some (mX4_isStep, 1, 1) := rfl
set_option maxRecDepth 20000 in
theorem xct_4_108 : xassoc xCt (4, 108) = some (mX2_passSlots, 1, 0) := rfl
set_option maxRecDepth 20000 in
theorem xct_4_113 : xassoc xCt (4, 113) = some (mX2_passUntilDone, 1, 0) := rfl
set_option maxRecDepth 20000 in
theorem xct_4_122 : xassoc xCt (4, 122) = some (mX2_findAllWaits, 0, 0) := rfl
set_option maxRecDepth 20000 in
theorem xct_4_126 : xassoc xCt (4, 126) = some (mX2_lentPriority, 2, 0) := rfl
set_option maxRecDepth 20000 in
theorem xct_4_133 : xassoc xCt (4, 133) = some (mX2_stateOf, 1, 0) := rfl
set_option maxRecDepth 20000 in
theorem xct_4_136 : xassoc xCt (4, 136) = some (mX2_waitsOf, 1, 0) := rfl
set_option maxRecDepth 20000 in
theorem xct_4_139 : xassoc xCt (4, 139) = some (mX2_ringSet, 0, 0) := rfl
set_option maxRecDepth 20000 in
theorem xct_4_142 : xassoc xCt (4, 142) = some (mX4_has, 2, 1) := rfl
set_option maxRecDepth 20000 in
theorem xct_4_160 : xassoc xCt (4, 160) = some (mX2_setIn, 1, 0) := rfl
set_option maxRecDepth 20000 in
theorem xct_4_163 : xassoc xCt (4, 163) = some (mJ6_bitCount_0f7a4, 1, 1) := rfl
set_option maxRecDepth 20000 in
theorem xct_4_168 : xassoc xCt (4, 168) = some (mX2_isStuck, 0, 0) := rfl
set_option maxRecDepth 20000 in
theorem xct_4_178 : xassoc xCt (4, 178) = some (mX4_tryNow, 0, 0) := rfl
set_option maxRecDepth 20000 in
theorem xct_4_182 : xassoc xCt (4, 182) = some (mX2_passSlot, 0, 0) := rfl
set_option maxRecDepth 20000 in
theorem xct_4_188 : xassoc xCt (4, 188) = some (mX2_areDone, 1, 0) := rfl
set_option maxRecDepth 20000 in
theorem xct_4_191 : xassoc xCt (4, 191) = some (mX3_charactersIn, 1, 1) := rfl
set_option maxRecDepth 20000 in
theorem xct_4_195 : xassoc xCt (4, 195) = some (mX3_append, 2, 0) := rfl
set_option maxRecDepth 20000 in
theorem xct_4_198 : xassoc xCt (4, 198) = some (mX1_takeBack, 1, 0) := rfl
set_option maxRecDepth 20000 in
theorem xct_4_201 : xassoc xCt (4, 201) = some (mX4_isSave, 1, 1) := rfl
set_option maxRecDepth 20000 in
theorem xct_4_204 : xassoc xCt (4, 204) = some (mX2_copyFrom, 1, 0) := rfl
set_option maxRecDepth 20000 in
theorem xct_5_42 : xassoc xCt (5, 42) = some (mX5_in, 3, 1) := rfl
set_option maxRecDepth 20000 in
theorem xct_5_49 : xassoc xCt (5, 49) = some (mX5_get, 2, 0) := rfl
set_option maxRecDepth 20000 in
theorem xct_5_53 : xassoc xCt (5, 53) = some (mX5_isDone, 1, 0) := rfl
set_option maxRecDepth 20000 in
theorem xct_5_57 : xassoc xCt (5, 57) = some (mX5_commandOf, 2, 0) := rfl
set_option maxRecDepth 20000 in
theorem xct_5_60 : xassoc xCt (5, 60) = some (mX5_argumentOf, 2, 0) := rfl
set_option maxRecDepth 20000 in
theorem xct_5_63 : xassoc xCt (5, 63) = some (mX5_stateOf, 1, 0) := rfl
set_option maxRecDepth 20000 in
theorem xct_5_67 : xassoc xCt (5, 67) = some (mX5_sendsTo, 2, 0) := rfl
set_option maxRecDepth 20000 in
theorem xct_5_71 : xassoc xCt (5, 71) = some (mX5_waitsFor, 1, 0) := rfl
set_option maxRecDepth 20000 in
theorem xct_5_74 : xassoc xCt (5, 74) = some (mX5_laysWaits, 0, 0) := rfl
set_option maxRecDepth 20000 in
theorem xct_5_77 : xassoc xCt (5, 77) = some (mX5_inState, 1, 0) := rfl
set_option maxRecDepth 20000 in
theorem xct_5_80 : xassoc xCt (5, 80) = some (mX5_lay, 3, 0) := rfl
set_option maxRecDepth 20000 in
theorem xct_5_84 : xassoc xCt (5, 84) = some (mX5_goesBack, 2, 0) := rfl
set_option maxRecDepth 20000 in
theorem xct_5_88 : xassoc xCt (5, 88) = some (mX5_receives, 2, 0) := rfl
set_option maxRecDepth 20000 in
theorem xct_5_91 : xassoc xCt (5, 91) = some (mX5_takes, 1, 0) := rfl
set_option maxRecDepth 20000 in
theorem xct_5_95 : xassoc xCt (5, 95) = some (mX5_lent, 1, 0) := rfl
set_option maxRecDepth 20000 in
theorem xct_5_98 : xassoc xCt (5, 98) = some (mX5_wakes, 0, 0) := rfl
set_option maxRecDepth 20000 in
theorem xct_5_101 : xassoc xCt (5, 101) = some (mX5_runner, 1, 0) := rfl
set_option maxRecDepth 20000 in
theorem xct_5_104 : xassoc xCt (5, 104) = some (mX5_runs, 1, 0) := rfl
set_option maxRecDepth 20000 in
theorem xct_5_107 : xassoc xCt (5, 107) = some (mX5_isContext, 1, 1) := rfl
set_option maxRecDepth 20000 in
theorem xct_5_110 : xassoc xCt (5, 110) = some (mX5_isArgument, 2, 1) := rfl
set_option maxRecDepth 20000 in
theorem xct_5_113 : xassoc xCt (5, 113) = some (mX5_records, 0, 0) := rfl
set_option maxRecDepth 20000 in
theorem xct_5_116 : xassoc xCt (5, 116) = some (mX5_adds, 3, 0) := rfl
set_option maxRecDepth 20000 in
theorem xct_5_120 : xassoc xCt (5, 120) = some (mX5_slot, 0, 0) := rfl
set_option maxRecDepth 20000 in
theorem xct_5_125 : xassoc xCt (5, 125) = some (mX5_isStuck, 0, 0) := rfl
set_option maxRecDepth 20000 in
theorem xct_5_129 : xassoc xCt (5, 129) = some (mX5_putAside, 0, 0) := rfl
set_option maxRecDepth 20000 in
theorem xct_5_132 : xassoc xCt (5, 132) = some (mX5_takeBack, 0, 0) := rfl
set_option maxRecDepth 20000 in
theorem xct_5_135 : xassoc xCt (5, 135) = some (mX5_count1, 1, 1) := rfl
set_option maxRecDepth 20000 in
theorem xct_5_138 : xassoc xCt (5, 138) = some (mX5_rings, 0, 0) := rfl
set_option maxRecDepth 20000 in
theorem xct_5_141 : xassoc xCt (5, 141) = some (mX5_sumOver, 1, 0) := rfl
set_option maxRecDepth 20000 in
theorem xct_5_144 : xassoc xCt (5, 144) = some (mX5_next, 0, 0) := rfl
set_option maxRecDepth 20000 in
theorem xct_5_150 : xassoc xCt (5, 150) = some (mX5_until, 1, 0) := rfl
set_option maxRecDepth 20000 in
theorem xct_5_162 : xassoc xCt (5, 162) = some (mX5_sign, 0, 0) := rfl
set_option maxRecDepth 20000 in
theorem xct_5_165 : xassoc xCt (5, 165) = some (mX5_takesSign, 2, 0) := rfl
set_option maxRecDepth 20000 in
theorem xct_5_168 : xassoc xCt (5, 168) = some (mX5_commandBy, 1, 1) := rfl
set_option maxRecDepth 20000 in
theorem xct_5_171 : xassoc xCt (5, 171) = some (mX5_number, 0, 0) := rfl
set_option maxRecDepth 20000 in
theorem xct_5_174 : xassoc xCt (5, 174) = some (mX5_numberOfBack, 0, 0) := rfl
set_option maxRecDepth 20000 in
theorem xct_5_183 : xassoc xCt (5, 183) = some (mX5_readsCommand, 0, 0) := rfl
set_option maxRecDepth 20000 in
theorem xct_5_186 : xassoc xCt (5, 186) = some (mX5_reads, 0, 0) := rfl
set_option maxRecDepth 20000 in
theorem xct_6_9 : xassoc xCt (6, 9) = some (mX4_init, 0, 2) := rfl
set_option maxRecDepth 20000 in
theorem xct_6_12 : xassoc xCt (6, 12) = some (mX5_init, 0, 2) := rfl
set_option maxRecDepth 20000 in
theorem xct_6_13 : xassoc xCt (6, 13) = some (mX4_add, 3, 0) := rfl
set_option maxRecDepth 20000 in
theorem xct_6_17 : xassoc xCt (6, 17) = some (mX5_add, 3, 0) := rfl
set_option maxRecDepth 20000 in
theorem xct_6_18 : xassoc xCt (6, 18) = some (mX4_read, 0, 0) := rfl
set_option maxRecDepth 20000 in
theorem xct_6_22 : xassoc xCt (6, 22) = some (mX5_read, 0, 0) := rfl
set_option maxRecDepth 20000 in
theorem xct_6_23 : xassoc xCt (6, 23) = some (mX4_prefer, 2, 0) := rfl
set_option maxRecDepth 20000 in
theorem xct_6_27 : xassoc xCt (6, 27) = some (mX5_prefer, 2, 0) := rfl
set_option maxRecDepth 20000 in
theorem xct_6_28 : xassoc xCt (6, 28) = some (mX4_post, 2, 0) := rfl
set_option maxRecDepth 20000 in
theorem xct_6_31 : xassoc xCt (6, 31) = some (mX5_post, 2, 0) := rfl
set_option maxRecDepth 20000 in
theorem xct_6_32 : xassoc xCt (6, 32) = some (mX4_release, 1, 0) := rfl
set_option maxRecDepth 20000 in
theorem xct_6_36 : xassoc xCt (6, 36) = some (mX5_release, 1, 0) := rfl
set_option maxRecDepth 20000 in
theorem xct_6_37 : xassoc xCt (6, 37) = some (mX4_step, 1, 0) := rfl
set_option maxRecDepth 20000 in
theorem xct_6_40 : xassoc xCt (6, 40) = some (mX5_step, 1, 0) := rfl
set_option maxRecDepth 20000 in
theorem xct_6_41 : xassoc xCt (6, 41) = some (mX4_run, 0, 0) := rfl
set_option maxRecDepth 20000 in
theorem xct_6_44 : xassoc xCt (6, 44) = some (mX5_run, 0, 0) := rfl
set_option maxRecDepth 20000 in
theorem xct_6_45 : xassoc xCt (6, 45) = some (mX4_of, 2, 0) := rfl
set_option maxRecDepth 20000 in
theorem xct_6_48 : xassoc xCt (6, 48) = some (mX5_of, 2, 0) := rfl
set_option maxRecDepth 20000 in
theorem xct_6_49 : xassoc xCt (6, 49) = some (mX4_command, 3, 0) := rfl
set_option maxRecDepth 20000 in
theorem xct_6_52 : xassoc xCt (6, 52) = some (mX5_command, 3, 0) := rfl
set_option maxRecDepth 20000 in
theorem xct_6_53 : xassoc xCt (6, 53) = some (mX4_inbox, 2, 0) := rfl
set_option maxRecDepth 20000 in
theorem xct_6_56 : xassoc xCt (6, 56) = some (mX5_inbox, 2, 0) := rfl
set_option maxRecDepth 20000 in
theorem xct_6_57 : xassoc xCt (6, 57) = some (mX4_holder, 1, 0) := rfl
set_option maxRecDepth 20000 in
theorem xct_6_60 : xassoc xCt (6, 60) = some (mX5_holder, 1, 0) := rfl
set_option maxRecDepth 20000 in
theorem xct_6_61 : xassoc xCt (6, 61) = some (mX4_count, 1, 0) := rfl
set_option maxRecDepth 20000 in
theorem xct_6_64 : xassoc xCt (6, 64) = some (mX5_count, 1, 0) := rfl
set_option maxRecDepth 20000 in
theorem xct_6_65 : xassoc xCt (6, 65) = some (mX4_slotsLeft, 0, 0) := rfl
set_option maxRecDepth 20000 in
theorem xct_6_68 : xassoc xCt (6, 68) = some (mX5_slotsLeft, 0, 0) := rfl
set_option maxRecDepth 20000 in
theorem xct_6_69 : xassoc xCt (6, 69) = some (mX4_leftIf, 3, 0) := rfl
set_option maxRecDepth 20000 in
theorem xct_6_72 : xassoc xCt (6, 72) = some (mX5_leftIf, 3, 0) := rfl
set_option maxRecDepth 20000 in
theorem xct_6_73 : xassoc xCt (6, 73) = some (mX4_sumBehind, 2, 0) := rfl
set_option maxRecDepth 20000 in
theorem xct_6_76 : xassoc xCt (6, 76) = some (mX5_sumBehind, 2, 0) := rfl
set_option maxRecDepth 20000 in
theorem xct_6_79 : xassoc xCt (6, 79) = some (mX4_put, 1, 0) := rfl
set_option maxRecDepth 20000 in
theorem xct_6_83 : xassoc xCt (6, 83) = some (mX5_put, 1, 0) := rfl
set_option maxRecDepth 20000 in
theorem xct_6_84 : xassoc xCt (6, 84) = some (mX4_wipe, 0, 0) := rfl
set_option maxRecDepth 20000 in
theorem xct_6_87 : xassoc xCt (6, 87) = some (mX5_wipe, 0, 0) := rfl
set_option maxRecDepth 20000 in
theorem xct_6_88 : xassoc xCt (6, 88) = some (mX4_fault, 0, 0) := rfl
set_option maxRecDepth 20000 in
theorem xct_6_91 : xassoc xCt (6, 91) = some (mX5_fault, 0, 0) := rfl
set_option maxRecDepth 20000 in
theorem xct_6_92 : xassoc xCt (6, 92) = some (mX4_undo, 0, 0) := rfl
set_option maxRecDepth 20000 in
theorem xct_6_95 : xassoc xCt (6, 95) = some (mX5_undo, 0, 0) := rfl
set_option maxRecDepth 20000 in
theorem xct_6_96 : xassoc xCt (6, 96) = some (mX4_save, 1, 0) := rfl
set_option maxRecDepth 20000 in
theorem xct_6_99 : xassoc xCt (6, 99) = some (mX5_save, 1, 0) := rfl
set_option maxRecDepth 20000 in
theorem xct_6_100 : xassoc xCt (6, 100) = some (mX4_restore, 1, 0) := rfl
set_option maxRecDepth 20000 in
theorem xct_6_103 : xassoc xCt (6, 103) = some (mX5_restore, 1, 0) := rfl
set_option maxRecDepth 20000 in
theorem xct_7_335 : xassoc xCt (7, 335) = some (mJ0_coder_7d493, 0, 0) := rfl
set_option maxRecDepth 20000 in
theorem xct_7_492 : xassoc xCt (7, 492) = some (mJ0_isLatin1_aae02, 0, 0) := rfl
set_option maxRecDepth 20000 in
theorem xct_7_505 : xassoc xCt (7, 505) = some (mJ0_length_8abf5, 0, 0) := rfl
set_option maxRecDepth 20000 in
theorem xct_7_633 : xassoc xCt (7, 633) = some (mJ0_indexOf_7cf53, 2, 0) := rfl
set_option maxRecDepth 20000 in
theorem xct_7_637 : xassoc xCt (7, 637) = some (mJ1_indexOf_4cfef, 4, 1) := rfl
set_option maxRecDepth 20000 in
theorem xct_8_88 : xassoc xCt (8, 88) = some (mJ1_canEncode_9a6ad, 1, 1) := rfl
set_option maxRecDepth 20000 in
theorem xct_8_95 : xassoc xCt (8, 95) = some (mJ1_indexOfChar_4cfef, 4, 1) := rfl
def xnone {α : Type} (l : List ((Nat × Nat) × α)) (k : Nat × Nat) : Bool := l.all (fun q => !decide (k = q.1))
theorem xnone_of {α : Type} {k : Nat × Nat} : ∀ {l : List ((Nat × Nat) × α)}, xnone l k = true → xassoc l k = none := by
  intro l
  induction l with
  | nil => intro _; rfl
  | cons q l ih =>
    obtain ⟨n, a⟩ := q
    intro h
    unfold xnone at h
    rw [List.all_cons, Bool.and_eq_true] at h
    rw [xassoc, if_neg (by simpa using h.1)]
    exact ih h.2
theorem xcn_0_3 : xassoc xCt (0, 3) = none := xnone_of (by decide +kernel)
theorem xcn_0_24 : xassoc xCt (0, 24) = none := xnone_of (by decide +kernel)
theorem xcn_0_69 : xassoc xCt (0, 69) = none := xnone_of (by decide +kernel)
theorem xcn_1_3 : xassoc xCt (1, 3) = none := xnone_of (by decide +kernel)
theorem xcn_2_3 : xassoc xCt (2, 3) = none := xnone_of (by decide +kernel)
theorem xcn_2_29 : xassoc xCt (2, 29) = none := xnone_of (by decide +kernel)
theorem xcn_2_80 : xassoc xCt (2, 80) = none := xnone_of (by decide +kernel)
theorem xcn_3_3 : xassoc xCt (3, 3) = none := xnone_of (by decide +kernel)
theorem xcn_4_1 : xassoc xCt (4, 1) = none := xnone_of (by decide +kernel)
theorem xcn_5_1 : xassoc xCt (5, 1) = none := xnone_of (by decide +kernel)
theorem xcn_8_38 : xassoc xCt (8, 38) = none := xnone_of (by decide +kernel)
theorem xcn_8_92 : xassoc xCt (8, 92) = none := xnone_of (by decide +kernel)
theorem xmn_0_24 : xassoc xMt (0, 24) = none := xnone_of (by decide +kernel)
theorem xmn_2_29 : xassoc xMt (2, 29) = none := xnone_of (by decide +kernel)
theorem xmt_0_69 : xassoc xMt (0, 69) = some 0 := by decide +kernel
theorem xmt_2_80 : xassoc xMt (2, 80) = some 0 := by decide +kernel
theorem xmt_8_38 : xassoc xMt (8, 38) = some 1 := by decide +kernel
theorem xmt_8_92 : xassoc xMt (8, 92) = some 0 := by decide +kernel
theorem xin_str : xassoc xIt (3, 53) = none := xnone_of (by decide +kernel)
