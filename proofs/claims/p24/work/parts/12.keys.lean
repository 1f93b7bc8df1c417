/-! ===== the keys of the tables ===== -/
theorem xft_0_9 : xassoc xFt (0, 9) = some (1, 0) := by decide +kernel
theorem xft_0_15 : xassoc xFt (0, 15) = some (1, 1) := by decide +kernel
theorem xft_0_18 : xassoc xFt (0, 18) = some (1, 2) := by decide +kernel
theorem xft_0_21 : xassoc xFt (0, 21) = some (1, 3) := by decide +kernel
theorem xft_0_30 : xassoc xFt (0, 30) = some (1, 4) := by decide +kernel
theorem xft_0_34 : xassoc xFt (0, 34) = some (1, 5) := by decide +kernel
theorem xft_0_37 : xassoc xFt (0, 37) = some (1, 6) := by decide +kernel
theorem xft_0_40 : xassoc xFt (0, 40) = some (1, 7) := by decide +kernel
theorem xft_0_43 : xassoc xFt (0, 43) = some (1, 8) := by decide +kernel
theorem xft_0_46 : xassoc xFt (0, 46) = some (1, 9) := by decide +kernel
theorem xft_0_49 : xassoc xFt (0, 49) = some (1, 10) := by decide +kernel
theorem xft_1_11 : xassoc xFt (1, 11) = some (2, 0) := by decide +kernel
theorem xft_1_18 : xassoc xFt (1, 18) = some (2, 1) := by decide +kernel
theorem xft_1_22 : xassoc xFt (1, 22) = some (2, 2) := by decide +kernel
theorem xft_2_11 : xassoc xFt (2, 11) = some (3, 0) := by decide +kernel
theorem xft_2_17 : xassoc xFt (2, 17) = some (3, 1) := by decide +kernel
theorem xft_2_21 : xassoc xFt (2, 21) = some (3, 2) := by decide +kernel
theorem xft_2_35 : xassoc xFt (2, 35) = some (3, 3) := by decide +kernel
theorem xft_2_39 : xassoc xFt (2, 39) = some (3, 4) := by decide +kernel
theorem xft_2_42 : xassoc xFt (2, 42) = some (3, 5) := by decide +kernel
theorem xft_2_45 : xassoc xFt (2, 45) = some (1, 6) := by decide +kernel
theorem xft_2_48 : xassoc xFt (2, 48) = some (1, 4) := by decide +kernel
theorem xft_2_51 : xassoc xFt (2, 51) = some (1, 10) := by decide +kernel
theorem xft_2_54 : xassoc xFt (2, 54) = some (1, 1) := by decide +kernel
theorem xft_2_57 : xassoc xFt (2, 57) = some (1, 0) := by decide +kernel
theorem xft_2_60 : xassoc xFt (2, 60) = some (1, 9) := by decide +kernel
theorem xft_2_77 : xassoc xFt (2, 77) = some (1, 8) := by decide +kernel
theorem xft_2_120 : xassoc xFt (2, 120) = some (1, 3) := by decide +kernel
theorem xft_2_129 : xassoc xFt (2, 129) = some (1, 7) := by decide +kernel
theorem xft_3_9 : xassoc xFt (3, 9) = some (4, 0) := by decide +kernel
theorem xft_3_15 : xassoc xFt (3, 15) = some (4, 2) := by decide +kernel
theorem xft_3_19 : xassoc xFt (3, 19) = some (4, 3) := by decide +kernel
theorem xft_4_10 : xassoc xFt (4, 10) = some (5, 0) := by decide +kernel
theorem xft_4_16 : xassoc xFt (4, 16) = some (5, 1) := by decide +kernel
theorem xft_4_22 : xassoc xFt (4, 22) = some (5, 2) := by decide +kernel
theorem xft_4_26 : xassoc xFt (4, 26) = some (5, 3) := by decide +kernel
theorem xft_4_30 : xassoc xFt (4, 30) = some (5, 4) := by decide +kernel
theorem xft_4_37 : xassoc xFt (4, 37) = some (5, 5) := by decide +kernel
theorem xft_4_49 : xassoc xFt (4, 49) = some (3, 0) := by decide +kernel
theorem xft_4_53 : xassoc xFt (4, 53) = some (1, 4) := by decide +kernel
theorem xft_4_78 : xassoc xFt (4, 78) = some (4, 1) := by decide +kernel
theorem xft_4_84 : xassoc xFt (4, 84) = some (1, 8) := by decide +kernel
theorem xft_4_87 : xassoc xFt (4, 87) = some (1, 9) := by decide +kernel
theorem xft_4_97 : xassoc xFt (4, 97) = some (3, 1) := by decide +kernel
theorem xft_4_104 : xassoc xFt (4, 104) = some (3, 3) := by decide +kernel
theorem xft_4_116 : xassoc xFt (4, 116) = some (1, 6) := by decide +kernel
theorem xft_4_119 : xassoc xFt (4, 119) = some (1, 7) := by decide +kernel
theorem xft_4_130 : xassoc xFt (4, 130) = some (1, 10) := by decide +kernel
theorem xft_4_145 : xassoc xFt (4, 145) = some (1, 3) := by decide +kernel
theorem xft_4_148 : xassoc xFt (4, 148) = some (1, 0) := by decide +kernel
theorem xft_4_151 : xassoc xFt (4, 151) = some (1, 1) := by decide +kernel
theorem xft_4_154 : xassoc xFt (4, 154) = some (1, 5) := by decide +kernel
theorem xft_4_157 : xassoc xFt (4, 157) = some (1, 2) := by decide +kernel
theorem xft_4_172 : xassoc xFt (4, 172) = some (3, 4) := by decide +kernel
theorem xft_4_175 : xassoc xFt (4, 175) = some (3, 5) := by decide +kernel
theorem xft_4_185 : xassoc xFt (4, 185) = some (2, 2) := by decide +kernel
theorem xst_4_207 : xassoc xSt (4, 207) = some 0 := by decide +kernel
theorem xst_4_210 : xassoc xSt (4, 210) = some 1 := by decide +kernel
theorem xit_4_107 : xassoc xIt (4, 107) = some (nI 100000) := by decide +kernel
theorem xit_4_112 : xassoc xIt (4, 112) = some (nI 99000) := by decide +kernel
theorem xit_6_7 : xassoc xIt (6, 7) = some (nI 2147483647) := by decide +kernel
theorem xit_10_265 : xassoc xIt (10, 265) = some (nI 1431655765) := by decide +kernel
theorem xit_10_266 : xassoc xIt (10, 266) = some (nI 858993459) := by decide +kernel
theorem xit_10_267 : xassoc xIt (10, 267) = some (nI 252645135) := by decide +kernel
theorem xjt_6_8 : xassoc xJt (6, 8) = some (lN 3) := by decide +kernel
theorem xjt_6_10 : xassoc xJt (6, 10) = some (lN 31) := by decide +kernel
theorem xkt_1_9 : xassoc xKt (1, 9) = some 2 := by decide +kernel
theorem xkt_2_9 : xassoc xKt (2, 9) = some 0 := by decide +kernel
theorem xkt_4_7 : xassoc xKt (4, 7) = some 2 := by decide +kernel
theorem xkt_4_19 : xassoc xKt (4, 19) = some 1 := by decide +kernel
theorem xkt_4_34 : xassoc xKt (4, 34) = some 3 := by decide +kernel
theorem xkt_6_13 : xassoc xKt (6, 13) = some 4 := by decide +kernel
set_option maxRecDepth 20000 in
theorem xct_0_61 : xassoc xCt (0, 61) = some (mX0_addToSum, 1, 0) := rfl
set_option maxRecDepth 20000 in
theorem xct_0_65 : xassoc xCt (0, 65) = some (mX4_has, 2, 3) := rfl
set_option maxRecDepth 20000 in
theorem xct_1_17 : xassoc xCt (1, 17) = some (mX2_init, 0, 2) := rfl
set_option maxRecDepth 20000 in
theorem xct_1_25 : xassoc xCt (1, 25) = some (mX2_copyFrom, 1, 0) := rfl
set_option maxRecDepth 20000 in
theorem xct_2_24 : xassoc xCt (2, 24) = some (mX0_init, 0, 4) := rfl
set_option maxRecDepth 20000 in
theorem xct_2_25 : xassoc xCt (2, 25) = some (mX0_copyFrom, 1, 0) := rfl
set_option maxRecDepth 20000 in
theorem xct_2_63 : xassoc xCt (2, 63) = some (mX2_stateOf, 1, 0) := rfl
set_option maxRecDepth 20000 in
theorem xct_2_67 : xassoc xCt (2, 67) = some (mX4_has, 2, 3) := rfl
set_option maxRecDepth 20000 in
theorem xct_2_71 : xassoc xCt (2, 71) = some (mX2_sendersTo, 1, 0) := rfl
set_option maxRecDepth 20000 in
theorem xct_2_74 : xassoc xCt (2, 74) = some (mX2_waitsOf, 1, 0) := rfl
set_option maxRecDepth 20000 in
theorem xct_2_86 : xassoc xCt (2, 86) = some (mX2_findAllWaits, 0, 0) := rfl
set_option maxRecDepth 20000 in
theorem xct_2_90 : xassoc xCt (2, 90) = some (mX2_passSlot, 0, 0) := rfl
set_option maxRecDepth 20000 in
theorem xct_2_94 : xassoc xCt (2, 94) = some (mX2_areDone, 1, 0) := rfl
set_option maxRecDepth 20000 in
theorem xct_2_98 : xassoc xCt (2, 98) = some (mX2_isStuck, 0, 0) := rfl
set_option maxRecDepth 20000 in
theorem xct_2_102 : xassoc xCt (2, 102) = some (mX2_runnerInSlotOf, 1, 0) := rfl
set_option maxRecDepth 20000 in
theorem xct_2_105 : xassoc xCt (2, 105) = some (mX2_account, 2, 0) := rfl
set_option maxRecDepth 20000 in
theorem xct_2_109 : xassoc xCt (2, 109) = some (mX2_runNextOf, 1, 0) := rfl
set_option maxRecDepth 20000 in
theorem xct_2_113 : xassoc xCt (2, 113) = some (mX2_setIn, 1, 0) := rfl
set_option maxRecDepth 20000 in
theorem xct_2_116 : xassoc xCt (2, 116) = some (mX2_lentPriority, 2, 0) := rfl
set_option maxRecDepth 20000 in
theorem xct_2_123 : xassoc xCt (2, 123) = some (mX0_goBack, 1, 0) := rfl
set_option maxRecDepth 20000 in
theorem xct_2_126 : xassoc xCt (2, 126) = some (mX0_addToSum, 1, 0) := rfl
set_option maxRecDepth 20000 in
theorem xct_2_132 : xassoc xCt (2, 132) = some (mX0_receive, 1, 0) := rfl
set_option maxRecDepth 20000 in
theorem xct_2_135 : xassoc xCt (2, 135) = some (mX0_takeMessage, 0, 0) := rfl
set_option maxRecDepth 20000 in
theorem xct_2_138 : xassoc xCt (2, 138) = some (mX2_freeIfHeldBy, 2, 0) := rfl
set_option maxRecDepth 20000 in
theorem xct_4_9 : xassoc xCt (4, 9) = some (mX2_init, 0, 2) := rfl
set_option maxRecDepth 20000 in
theorem xct_4_21 : xassoc xCt (4, 21) = some (mX1_init, 0, 2) := rfl
set_option maxRecDepth 20000 in
theorem xct_4_36 : xassoc xCt (4, 36) = some (mX3_init, 0, 4) := rfl
set_option maxRecDepth 20000 in
theorem xct_4_41 : xassoc xCt (4, 41) = some (mX4_isContext, 1, 1) := rfl
set_option maxRecDepth 20000 in
theorem xct_4_45 : xassoc xCt (4, 45) = some (mX4_isCommand, 2, 1) := rfl
set_option maxRecDepth 20000 in
theorem xct_4_59 : xassoc xCt (4, 59) = some (mX1_record, 1, 0) := rfl
set_option maxRecDepth 20000 in
theorem xct_4_63 : xassoc xCt (4, 63) = some (mX0_append, 2, 0) := rfl
set_option maxRecDepth 20000 in
theorem xct_4_81 : xassoc xCt (4, 81) = some (mX4_isPriority, 1, 1) := rfl
set_option maxRecDepth 20000 in
theorem xct_4_90 : xassoc xCt (4, 90) = some (mX0_receive, 1, 0) := rfl
set_option maxRecDepth 20000 in
theorem xct_4_94 : xassoc xCt (4, 94) = some (mX4_isLock, 1, 1) := rfl
set_option maxRecDepth 20000 in
theorem xct_4_101 : xassoc xCt (4, 101) = some (mX4_isStep, 1, 1) := rfl
set_option maxRecDepth 20000 in
theorem xct_4_108 : xassoc xCt (4, 108) = some (mX2_passSlots, 1, 0) := rfl
set_option maxRecDepth 20000 in
theorem xct_4_113 : xassoc xCt (4, 113) = some (mX2_passUntilDone, 1, 0) := rfl
set_option maxRecDepth 20000 in
theorem xct_4_122 : xassoc xCt (4, 122) = some (mX2_findAllWaits, 0, 0) := rfl
set_option maxRecDepth 20000 in
theorem xct_4_126 : xassoc xCt (4, 126) = some (mX2_lentPriority, 2, 0) := rfl
set_option maxRecDepth 20000 in
theorem xct_4_133 : xassoc xCt (4, 133) = some (mX2_stateOf, 1, 0) := rfl
set_option maxRecDepth 20000 in
theorem xct_4_136 : xassoc xCt (4, 136) = some (mX2_waitsOf, 1, 0) := rfl
set_option maxRecDepth 20000 in
theorem xct_4_139 : xassoc xCt (4, 139) = some (mX2_ringSet, 0, 0) := rfl
set_option maxRecDepth 20000 in
theorem xct_4_142 : xassoc xCt (4, 142) = some (mX4_has, 2, 1) := rfl
set_option maxRecDepth 20000 in
theorem xct_4_160 : xassoc xCt (4, 160) = some (mX2_setIn, 1, 0) := rfl
set_option maxRecDepth 20000 in
theorem xct_4_163 : xassoc xCt (4, 163) = some (mJ6_bitCount_0f7a4, 1, 1) := rfl
set_option maxRecDepth 20000 in
theorem xct_4_168 : xassoc xCt (4, 168) = some (mX2_isStuck, 0, 0) := rfl
set_option maxRecDepth 20000 in
theorem xct_4_178 : xassoc xCt (4, 178) = some (mX4_tryNow, 0, 0) := rfl
set_option maxRecDepth 20000 in
theorem xct_4_182 : xassoc xCt (4, 182) = some (mX2_passSlot, 0, 0) := rfl
set_option maxRecDepth 20000 in
theorem xct_4_188 : xassoc xCt (4, 188) = some (mX2_areDone, 1, 0) := rfl
set_option maxRecDepth 20000 in
theorem xct_4_198 : xassoc xCt (4, 198) = some (mX1_takeBack, 1, 0) := rfl
set_option maxRecDepth 20000 in
theorem xct_4_201 : xassoc xCt (4, 201) = some (mX4_isSave, 1, 1) := rfl
set_option maxRecDepth 20000 in
theorem xct_4_204 : xassoc xCt (4, 204) = some (mX2_copyFrom, 1, 0) := rfl
set_option maxRecDepth 20000 in
theorem xct_6_12 : xassoc xCt (6, 12) = some (mX4_count, 1, 0) := rfl
set_option maxRecDepth 20000 in
theorem xct_6_18 : xassoc xCt (6, 18) = some (mX4_of, 2, 0) := rfl
set_option maxRecDepth 20000 in
theorem xct_6_22 : xassoc xCt (6, 22) = some (mX4_inbox, 2, 0) := rfl
set_option maxRecDepth 20000 in
theorem xct_6_25 : xassoc xCt (6, 25) = some (mX4_command, 3, 0) := rfl
set_option maxRecDepth 20000 in
theorem xct_6_29 : xassoc xCt (6, 29) = some (mX4_holder, 1, 0) := rfl
set_option maxRecDepth 20000 in
theorem xct_6_32 : xassoc xCt (6, 32) = some (mL_low, 2, 1) := rfl
set_option maxRecDepth 20000 in
theorem xct_6_37 : xassoc xCt (6, 37) = some (mX4_prefer, 2, 0) := rfl
set_option maxRecDepth 20000 in
theorem xct_6_40 : xassoc xCt (6, 40) = some (mX4_post, 2, 0) := rfl
set_option maxRecDepth 20000 in
theorem xct_6_43 : xassoc xCt (6, 43) = some (mX4_release, 1, 0) := rfl
set_option maxRecDepth 20000 in
theorem xct_6_46 : xassoc xCt (6, 46) = some (mX4_run, 0, 0) := rfl
set_option maxRecDepth 20000 in
theorem xct_6_50 : xassoc xCt (6, 50) = some (mX4_step, 1, 0) := rfl
set_option maxRecDepth 20000 in
theorem xct_6_53 : xassoc xCt (6, 53) = some (mX4_add, 3, 0) := rfl
set_option maxRecDepth 20000 in
theorem xct_6_56 : xassoc xCt (6, 56) = some (mX4_init, 0, 2) := rfl
set_option maxRecDepth 20000 in
theorem xct_6_57 : xassoc xCt (6, 57) = some (mL_digest, 1, 1) := rfl
set_option maxRecDepth 20000 in
theorem xct_6_61 : xassoc xCt (6, 61) = some (mX4_save, 1, 0) := rfl
set_option maxRecDepth 20000 in
theorem xct_6_64 : xassoc xCt (6, 64) = some (mX4_undo, 0, 0) := rfl
set_option maxRecDepth 20000 in
theorem xct_6_67 : xassoc xCt (6, 67) = some (mX4_restore, 1, 0) := rfl
set_option maxRecDepth 20000 in
theorem xct_6_70 : xassoc xCt (6, 70) = some (mL_cell, 2, 1) := rfl
set_option maxRecDepth 20000 in
theorem xct_6_74 : xassoc xCt (6, 74) = some (mL_act, 3, 1) := rfl
set_option maxRecDepth 20000 in
theorem xct_6_78 : xassoc xCt (6, 78) = some (mL_addsUp, 1, 1) := rfl
set_option maxRecDepth 20000 in
theorem xct_6_82 : xassoc xCt (6, 82) = some (mX4_slotsLeft, 0, 0) := rfl
def xnone {α : Type} (l : List ((Nat × Nat) × α)) (k : Nat × Nat) : Bool := l.all (fun q => !decide (k = q.1))
theorem xnone_of {α : Type} {k : Nat × Nat} : ∀ {l : List ((Nat × Nat) × α)}, xnone l k = true → xassoc l k = none := by
  intro l
  induction l with
  | nil => intro _; rfl
  | cons q l ih =>
    obtain ⟨n, a⟩ := q
    intro h
    unfold xnone at h
    rw [List.all_cons, Bool.and_eq_true] at h
    rw [xassoc, if_neg (by simpa using h.1)]
    exact ih h.2
theorem xcn_0_3 : xassoc xCt (0, 3) = none := xnone_of (by decide +kernel)
theorem xcn_0_24 : xassoc xCt (0, 24) = none := xnone_of (by decide +kernel)
theorem xcn_0_69 : xassoc xCt (0, 69) = none := xnone_of (by decide +kernel)
theorem xcn_1_3 : xassoc xCt (1, 3) = none := xnone_of (by decide +kernel)
theorem xcn_2_3 : xassoc xCt (2, 3) = none := xnone_of (by decide +kernel)
theorem xcn_2_29 : xassoc xCt (2, 29) = none := xnone_of (by decide +kernel)
theorem xcn_2_80 : xassoc xCt (2, 80) = none := xnone_of (by decide +kernel)
theorem xcn_3_3 : xassoc xCt (3, 3) = none := xnone_of (by decide +kernel)
theorem xcn_4_1 : xassoc xCt (4, 1) = none := xnone_of (by decide +kernel)
theorem xmn_0_24 : xassoc xMt (0, 24) = none := xnone_of (by decide +kernel)
theorem xmn_2_29 : xassoc xMt (2, 29) = none := xnone_of (by decide +kernel)
theorem xmt_0_69 : xassoc xMt (0, 69) = some 0 := by decide +kernel
theorem xmt_2_80 : xassoc xMt (2, 80) = some 0 := by decide +kernel
