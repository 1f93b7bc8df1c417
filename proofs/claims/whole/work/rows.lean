section
-- ===== PART A: goes FIRST, ahead of the names: the tables' words, and 'selects' of the private methods out of them =====
/-- a private method of a class that the tables say can be made, by its rows of tables_1 -/
def lw_okq (q : MethodName × Nat) : Prop := (q.1.cls ≠ "java/lang/invoke/MethodHandle" ∧ q.1.cls ≠ "java/lang/invoke/VarHandle") ∧ Cond.instantiable q.1.cls q.2 ∈ tables_1 ∧ Cond.privateMethod q.1 ∈ tables_1 ∧ Cond.instanceMethod q.1 ∈ tables_1
theorem lw_p0 : lw_okq (⟨"TurnSlots$Pad", "digitHere", "()I"⟩, 7) := ⟨⟨by decide +kernel, by decide +kernel⟩, List.mem_of_getElem? (i := 136) (by decide +kernel), List.mem_of_getElem? (i := 232) (by decide +kernel), List.mem_of_getElem? (i := 233) (by decide +kernel)⟩
theorem lw_p1 : lw_okq (⟨"TurnSlots$Pad", "characterAt", "(I)C"⟩, 7) := ⟨⟨by decide +kernel, by decide +kernel⟩, List.mem_of_getElem? (i := 136) (by decide +kernel), List.mem_of_getElem? (i := 236) (by decide +kernel), List.mem_of_getElem? (i := 237) (by decide +kernel)⟩
theorem lw_p2 : lw_okq (⟨"TurnSlots$Pad", "takeCharacter", "(C)Z"⟩, 7) := ⟨⟨by decide +kernel, by decide +kernel⟩, List.mem_of_getElem? (i := 136) (by decide +kernel), List.mem_of_getElem? (i := 240) (by decide +kernel), List.mem_of_getElem? (i := 241) (by decide +kernel)⟩
theorem lw_p3 : lw_okq (⟨"TurnSlots$Pad", "takeCommand", "()Z"⟩, 7) := ⟨⟨by decide +kernel, by decide +kernel⟩, List.mem_of_getElem? (i := 136) (by decide +kernel), List.mem_of_getElem? (i := 244) (by decide +kernel), List.mem_of_getElem? (i := 245) (by decide +kernel)⟩
theorem lw_p4 : lw_okq (⟨"TurnSlots$Pad", "takeNumber", "(II)Z"⟩, 7) := ⟨⟨by decide +kernel, by decide +kernel⟩, List.mem_of_getElem? (i := 136) (by decide +kernel), List.mem_of_getElem? (i := 337) (by decide +kernel), List.mem_of_getElem? (i := 338) (by decide +kernel)⟩
theorem lw_p5 : lw_okq (⟨"TurnSlots$Machine", "runnerInSlotOf", "(I)I"⟩, 6) := ⟨⟨by decide +kernel, by decide +kernel⟩, List.mem_of_getElem? (i := 24) (by decide +kernel), List.mem_of_getElem? (i := 386) (by decide +kernel), List.mem_of_getElem? (i := 387) (by decide +kernel)⟩
theorem lw_p6 : lw_okq (⟨"TurnSlots$Machine", "sendersTo", "(I)I"⟩, 6) := ⟨⟨by decide +kernel, by decide +kernel⟩, List.mem_of_getElem? (i := 24) (by decide +kernel), List.mem_of_getElem? (i := 409) (by decide +kernel), List.mem_of_getElem? (i := 410) (by decide +kernel)⟩
theorem lw_p7 : lw_okq (⟨"TurnSlots$Machine", "account", "(II)V"⟩, 6) := ⟨⟨by decide +kernel, by decide +kernel⟩, List.mem_of_getElem? (i := 24) (by decide +kernel), List.mem_of_getElem? (i := 417) (by decide +kernel), List.mem_of_getElem? (i := 418) (by decide +kernel)⟩
theorem lw_p8 : lw_okq (⟨"TurnSlots$Machine", "runNextOf", "(I)V"⟩, 6) := ⟨⟨by decide +kernel, by decide +kernel⟩, List.mem_of_getElem? (i := 24) (by decide +kernel), List.mem_of_getElem? (i := 421) (by decide +kernel), List.mem_of_getElem? (i := 422) (by decide +kernel)⟩
theorem lw_p9 : lw_okq (⟨"TurnSlots$Machine", "freeIfHeldBy", "(II)V"⟩, 6) := ⟨⟨by decide +kernel, by decide +kernel⟩, List.mem_of_getElem? (i := 24) (by decide +kernel), List.mem_of_getElem? (i := 441) (by decide +kernel), List.mem_of_getElem? (i := 442) (by decide +kernel)⟩
theorem lw_p10 : lw_okq (⟨"TurnSlots", "tryNow", "()LTurnSlots$Machine;"⟩, 6) := ⟨⟨by decide +kernel, by decide +kernel⟩, List.mem_of_getElem? (i := 16) (by decide +kernel), List.mem_of_getElem? (i := 499) (by decide +kernel), List.mem_of_getElem? (i := 500) (by decide +kernel)⟩
theorem lw_p11 : lw_okq (⟨"TurnSlotsModel", "get", "(II)I"⟩, 16) := ⟨⟨by decide +kernel, by decide +kernel⟩, List.mem_of_getElem? (i := 557) (by decide +kernel), List.mem_of_getElem? (i := 625) (by decide +kernel), List.mem_of_getElem? (i := 626) (by decide +kernel)⟩
theorem lw_p12 : lw_okq (⟨"TurnSlotsModel", "records", "()V"⟩, 16) := ⟨⟨by decide +kernel, by decide +kernel⟩, List.mem_of_getElem? (i := 557) (by decide +kernel), List.mem_of_getElem? (i := 629) (by decide +kernel), List.mem_of_getElem? (i := 630) (by decide +kernel)⟩
theorem lw_p13 : lw_okq (⟨"TurnSlotsModel", "adds", "(III)V"⟩, 16) := ⟨⟨by decide +kernel, by decide +kernel⟩, List.mem_of_getElem? (i := 557) (by decide +kernel), List.mem_of_getElem? (i := 633) (by decide +kernel), List.mem_of_getElem? (i := 634) (by decide +kernel)⟩
theorem lw_p14 : lw_okq (⟨"TurnSlotsModel", "lay", "(III)V"⟩, 16) := ⟨⟨by decide +kernel, by decide +kernel⟩, List.mem_of_getElem? (i := 557) (by decide +kernel), List.mem_of_getElem? (i := 637) (by decide +kernel), List.mem_of_getElem? (i := 638) (by decide +kernel)⟩
theorem lw_p15 : lw_okq (⟨"TurnSlotsModel", "receives", "(II)V"⟩, 16) := ⟨⟨by decide +kernel, by decide +kernel⟩, List.mem_of_getElem? (i := 557) (by decide +kernel), List.mem_of_getElem? (i := 649) (by decide +kernel), List.mem_of_getElem? (i := 650) (by decide +kernel)⟩
def lw_privs_1 : List (MethodName × Nat) := [(⟨"TurnSlots$Pad", "digitHere", "()I"⟩, 7), (⟨"TurnSlots$Pad", "characterAt", "(I)C"⟩, 7), (⟨"TurnSlots$Pad", "takeCharacter", "(C)Z"⟩, 7), (⟨"TurnSlots$Pad", "takeCommand", "()Z"⟩, 7), (⟨"TurnSlots$Pad", "takeNumber", "(II)Z"⟩, 7), (⟨"TurnSlots$Machine", "runnerInSlotOf", "(I)I"⟩, 6), (⟨"TurnSlots$Machine", "sendersTo", "(I)I"⟩, 6), (⟨"TurnSlots$Machine", "account", "(II)V"⟩, 6), (⟨"TurnSlots$Machine", "runNextOf", "(I)V"⟩, 6), (⟨"TurnSlots$Machine", "freeIfHeldBy", "(II)V"⟩, 6), (⟨"TurnSlots", "tryNow", "()LTurnSlots$Machine;"⟩, 6), (⟨"TurnSlotsModel", "get", "(II)I"⟩, 16), (⟨"TurnSlotsModel", "records", "()V"⟩, 16), (⟨"TurnSlotsModel", "adds", "(III)V"⟩, 16), (⟨"TurnSlotsModel", "lay", "(III)V"⟩, 16), (⟨"TurnSlotsModel", "receives", "(II)V"⟩, 16)]
theorem lw_r1 : ∀ q ∈ lw_privs_1, lw_okq q := List.forall_mem_cons.mpr ⟨lw_p0, List.forall_mem_cons.mpr ⟨lw_p1, List.forall_mem_cons.mpr ⟨lw_p2, List.forall_mem_cons.mpr ⟨lw_p3, List.forall_mem_cons.mpr ⟨lw_p4, List.forall_mem_cons.mpr ⟨lw_p5, List.forall_mem_cons.mpr ⟨lw_p6, List.forall_mem_cons.mpr ⟨lw_p7, List.forall_mem_cons.mpr ⟨lw_p8, List.forall_mem_cons.mpr ⟨lw_p9, List.forall_mem_cons.mpr ⟨lw_p10, List.forall_mem_cons.mpr ⟨lw_p11, List.forall_mem_cons.mpr ⟨lw_p12, List.forall_mem_cons.mpr ⟨lw_p13, List.forall_mem_cons.mpr ⟨lw_p14, List.forall_mem_cons.mpr ⟨lw_p15, fun _ h => absurd h List.not_mem_nil⟩⟩⟩⟩⟩⟩⟩⟩⟩⟩⟩⟩⟩⟩⟩⟩
theorem lw_p16 : lw_okq (⟨"TurnSlotsModel", "slot", "()I"⟩, 16) := ⟨⟨by decide +kernel, by decide +kernel⟩, List.mem_of_getElem? (i := 557) (by decide +kernel), List.mem_of_getElem? (i := 662) (by decide +kernel), List.mem_of_getElem? (i := 663) (by decide +kernel)⟩
theorem lw_p17 : lw_okq (⟨"TurnSlotsModel", "wakes", "()V"⟩, 16) := ⟨⟨by decide +kernel, by decide +kernel⟩, List.mem_of_getElem? (i := 557) (by decide +kernel), List.mem_of_getElem? (i := 666) (by decide +kernel), List.mem_of_getElem? (i := 667) (by decide +kernel)⟩
theorem lw_p18 : lw_okq (⟨"TurnSlotsModel", "runner", "(I)I"⟩, 16) := ⟨⟨by decide +kernel, by decide +kernel⟩, List.mem_of_getElem? (i := 557) (by decide +kernel), List.mem_of_getElem? (i := 670) (by decide +kernel), List.mem_of_getElem? (i := 671) (by decide +kernel)⟩
theorem lw_p19 : lw_okq (⟨"TurnSlotsModel", "stateOf", "(I)I"⟩, 16) := ⟨⟨by decide +kernel, by decide +kernel⟩, List.mem_of_getElem? (i := 557) (by decide +kernel), List.mem_of_getElem? (i := 674) (by decide +kernel), List.mem_of_getElem? (i := 675) (by decide +kernel)⟩
theorem lw_p20 : lw_okq (⟨"TurnSlotsModel", "isDone", "(I)Z"⟩, 16) := ⟨⟨by decide +kernel, by decide +kernel⟩, List.mem_of_getElem? (i := 557) (by decide +kernel), List.mem_of_getElem? (i := 678) (by decide +kernel), List.mem_of_getElem? (i := 679) (by decide +kernel)⟩
theorem lw_p21 : lw_okq (⟨"TurnSlotsModel", "commandOf", "(II)I"⟩, 16) := ⟨⟨by decide +kernel, by decide +kernel⟩, List.mem_of_getElem? (i := 557) (by decide +kernel), List.mem_of_getElem? (i := 682) (by decide +kernel), List.mem_of_getElem? (i := 683) (by decide +kernel)⟩
theorem lw_p22 : lw_okq (⟨"TurnSlotsModel", "argumentOf", "(II)I"⟩, 16) := ⟨⟨by decide +kernel, by decide +kernel⟩, List.mem_of_getElem? (i := 557) (by decide +kernel), List.mem_of_getElem? (i := 686) (by decide +kernel), List.mem_of_getElem? (i := 687) (by decide +kernel)⟩
theorem lw_p23 : lw_okq (⟨"TurnSlotsModel", "laysWaits", "()V"⟩, 16) := ⟨⟨by decide +kernel, by decide +kernel⟩, List.mem_of_getElem? (i := 557) (by decide +kernel), List.mem_of_getElem? (i := 690) (by decide +kernel), List.mem_of_getElem? (i := 691) (by decide +kernel)⟩
theorem lw_p24 : lw_okq (⟨"TurnSlotsModel", "waitsFor", "(I)I"⟩, 16) := ⟨⟨by decide +kernel, by decide +kernel⟩, List.mem_of_getElem? (i := 557) (by decide +kernel), List.mem_of_getElem? (i := 694) (by decide +kernel), List.mem_of_getElem? (i := 695) (by decide +kernel)⟩
theorem lw_p25 : lw_okq (⟨"TurnSlotsModel", "sendsTo", "(II)Z"⟩, 16) := ⟨⟨by decide +kernel, by decide +kernel⟩, List.mem_of_getElem? (i := 557) (by decide +kernel), List.mem_of_getElem? (i := 698) (by decide +kernel), List.mem_of_getElem? (i := 699) (by decide +kernel)⟩
theorem lw_p26 : lw_okq (⟨"TurnSlotsModel", "lent", "(I)I"⟩, 16) := ⟨⟨by decide +kernel, by decide +kernel⟩, List.mem_of_getElem? (i := 557) (by decide +kernel), List.mem_of_getElem? (i := 702) (by decide +kernel), List.mem_of_getElem? (i := 703) (by decide +kernel)⟩
theorem lw_p27 : lw_okq (⟨"TurnSlotsModel", "runs", "(I)V"⟩, 16) := ⟨⟨by decide +kernel, by decide +kernel⟩, List.mem_of_getElem? (i := 557) (by decide +kernel), List.mem_of_getElem? (i := 706) (by decide +kernel), List.mem_of_getElem? (i := 707) (by decide +kernel)⟩
theorem lw_p28 : lw_okq (⟨"TurnSlotsModel", "goesBack", "(II)V"⟩, 16) := ⟨⟨by decide +kernel, by decide +kernel⟩, List.mem_of_getElem? (i := 557) (by decide +kernel), List.mem_of_getElem? (i := 710) (by decide +kernel), List.mem_of_getElem? (i := 711) (by decide +kernel)⟩
theorem lw_p29 : lw_okq (⟨"TurnSlotsModel", "takes", "(I)V"⟩, 16) := ⟨⟨by decide +kernel, by decide +kernel⟩, List.mem_of_getElem? (i := 557) (by decide +kernel), List.mem_of_getElem? (i := 714) (by decide +kernel), List.mem_of_getElem? (i := 715) (by decide +kernel)⟩
theorem lw_p30 : lw_okq (⟨"TurnSlotsModel", "inState", "(I)I"⟩, 16) := ⟨⟨by decide +kernel, by decide +kernel⟩, List.mem_of_getElem? (i := 557) (by decide +kernel), List.mem_of_getElem? (i := 723) (by decide +kernel), List.mem_of_getElem? (i := 724) (by decide +kernel)⟩
theorem lw_p31 : lw_okq (⟨"TurnSlotsModel", "isStuck", "()Z"⟩, 16) := ⟨⟨by decide +kernel, by decide +kernel⟩, List.mem_of_getElem? (i := 557) (by decide +kernel), List.mem_of_getElem? (i := 727) (by decide +kernel), List.mem_of_getElem? (i := 728) (by decide +kernel)⟩
def lw_privs_2 : List (MethodName × Nat) := [(⟨"TurnSlotsModel", "slot", "()I"⟩, 16), (⟨"TurnSlotsModel", "wakes", "()V"⟩, 16), (⟨"TurnSlotsModel", "runner", "(I)I"⟩, 16), (⟨"TurnSlotsModel", "stateOf", "(I)I"⟩, 16), (⟨"TurnSlotsModel", "isDone", "(I)Z"⟩, 16), (⟨"TurnSlotsModel", "commandOf", "(II)I"⟩, 16), (⟨"TurnSlotsModel", "argumentOf", "(II)I"⟩, 16), (⟨"TurnSlotsModel", "laysWaits", "()V"⟩, 16), (⟨"TurnSlotsModel", "waitsFor", "(I)I"⟩, 16), (⟨"TurnSlotsModel", "sendsTo", "(II)Z"⟩, 16), (⟨"TurnSlotsModel", "lent", "(I)I"⟩, 16), (⟨"TurnSlotsModel", "runs", "(I)V"⟩, 16), (⟨"TurnSlotsModel", "goesBack", "(II)V"⟩, 16), (⟨"TurnSlotsModel", "takes", "(I)V"⟩, 16), (⟨"TurnSlotsModel", "inState", "(I)I"⟩, 16), (⟨"TurnSlotsModel", "isStuck", "()Z"⟩, 16)]
theorem lw_r2 : ∀ q ∈ lw_privs_2, lw_okq q := List.forall_mem_cons.mpr ⟨lw_p16, List.forall_mem_cons.mpr ⟨lw_p17, List.forall_mem_cons.mpr ⟨lw_p18, List.forall_mem_cons.mpr ⟨lw_p19, List.forall_mem_cons.mpr ⟨lw_p20, List.forall_mem_cons.mpr ⟨lw_p21, List.forall_mem_cons.mpr ⟨lw_p22, List.forall_mem_cons.mpr ⟨lw_p23, List.forall_mem_cons.mpr ⟨lw_p24, List.forall_mem_cons.mpr ⟨lw_p25, List.forall_mem_cons.mpr ⟨lw_p26, List.forall_mem_cons.mpr ⟨lw_p27, List.forall_mem_cons.mpr ⟨lw_p28, List.forall_mem_cons.mpr ⟨lw_p29, List.forall_mem_cons.mpr ⟨lw_p30, List.forall_mem_cons.mpr ⟨lw_p31, fun _ h => absurd h List.not_mem_nil⟩⟩⟩⟩⟩⟩⟩⟩⟩⟩⟩⟩⟩⟩⟩⟩
theorem lw_p32 : lw_okq (⟨"TurnSlotsModel", "rings", "()I"⟩, 16) := ⟨⟨by decide +kernel, by decide +kernel⟩, List.mem_of_getElem? (i := 557) (by decide +kernel), List.mem_of_getElem? (i := 754) (by decide +kernel), List.mem_of_getElem? (i := 755) (by decide +kernel)⟩
theorem lw_p33 : lw_okq (⟨"TurnSlotsModel", "sumOver", "(I)I"⟩, 16) := ⟨⟨by decide +kernel, by decide +kernel⟩, List.mem_of_getElem? (i := 557) (by decide +kernel), List.mem_of_getElem? (i := 758) (by decide +kernel), List.mem_of_getElem? (i := 759) (by decide +kernel)⟩
theorem lw_p34 : lw_okq (⟨"TurnSlotsModel", "next", "()I"⟩, 16) := ⟨⟨by decide +kernel, by decide +kernel⟩, List.mem_of_getElem? (i := 557) (by decide +kernel), List.mem_of_getElem? (i := 762) (by decide +kernel), List.mem_of_getElem? (i := 763) (by decide +kernel)⟩
theorem lw_p35 : lw_okq (⟨"TurnSlotsModel", "putAside", "()V"⟩, 16) := ⟨⟨by decide +kernel, by decide +kernel⟩, List.mem_of_getElem? (i := 557) (by decide +kernel), List.mem_of_getElem? (i := 766) (by decide +kernel), List.mem_of_getElem? (i := 767) (by decide +kernel)⟩
theorem lw_p36 : lw_okq (⟨"TurnSlotsModel", "takeBack", "()V"⟩, 16) := ⟨⟨by decide +kernel, by decide +kernel⟩, List.mem_of_getElem? (i := 557) (by decide +kernel), List.mem_of_getElem? (i := 770) (by decide +kernel), List.mem_of_getElem? (i := 771) (by decide +kernel)⟩
theorem lw_p37 : lw_okq (⟨"TurnSlotsModel", "until", "(I)I"⟩, 16) := ⟨⟨by decide +kernel, by decide +kernel⟩, List.mem_of_getElem? (i := 557) (by decide +kernel), List.mem_of_getElem? (i := 778) (by decide +kernel), List.mem_of_getElem? (i := 779) (by decide +kernel)⟩
theorem lw_p38 : lw_okq (⟨"TurnSlotsModel", "reads", "()I"⟩, 16) := ⟨⟨by decide +kernel, by decide +kernel⟩, List.mem_of_getElem? (i := 557) (by decide +kernel), List.mem_of_getElem? (i := 803) (by decide +kernel), List.mem_of_getElem? (i := 804) (by decide +kernel)⟩
theorem lw_p39 : lw_okq (⟨"TurnSlotsModel", "takesSign", "(II)I"⟩, 16) := ⟨⟨by decide +kernel, by decide +kernel⟩, List.mem_of_getElem? (i := 557) (by decide +kernel), List.mem_of_getElem? (i := 807) (by decide +kernel), List.mem_of_getElem? (i := 808) (by decide +kernel)⟩
theorem lw_p40 : lw_okq (⟨"TurnSlotsModel", "sign", "()I"⟩, 16) := ⟨⟨by decide +kernel, by decide +kernel⟩, List.mem_of_getElem? (i := 557) (by decide +kernel), List.mem_of_getElem? (i := 811) (by decide +kernel), List.mem_of_getElem? (i := 812) (by decide +kernel)⟩
theorem lw_p41 : lw_okq (⟨"TurnSlotsModel", "readsCommand", "()V"⟩, 16) := ⟨⟨by decide +kernel, by decide +kernel⟩, List.mem_of_getElem? (i := 557) (by decide +kernel), List.mem_of_getElem? (i := 815) (by decide +kernel), List.mem_of_getElem? (i := 816) (by decide +kernel)⟩
theorem lw_p42 : lw_okq (⟨"TurnSlotsModel", "number", "()I"⟩, 16) := ⟨⟨by decide +kernel, by decide +kernel⟩, List.mem_of_getElem? (i := 557) (by decide +kernel), List.mem_of_getElem? (i := 822) (by decide +kernel), List.mem_of_getElem? (i := 823) (by decide +kernel)⟩
theorem lw_p43 : lw_okq (⟨"TurnSlotsModel", "numberOfBack", "()I"⟩, 16) := ⟨⟨by decide +kernel, by decide +kernel⟩, List.mem_of_getElem? (i := 557) (by decide +kernel), List.mem_of_getElem? (i := 826) (by decide +kernel), List.mem_of_getElem? (i := 827) (by decide +kernel)⟩
def lw_privs_3 : List (MethodName × Nat) := [(⟨"TurnSlotsModel", "rings", "()I"⟩, 16), (⟨"TurnSlotsModel", "sumOver", "(I)I"⟩, 16), (⟨"TurnSlotsModel", "next", "()I"⟩, 16), (⟨"TurnSlotsModel", "putAside", "()V"⟩, 16), (⟨"TurnSlotsModel", "takeBack", "()V"⟩, 16), (⟨"TurnSlotsModel", "until", "(I)I"⟩, 16), (⟨"TurnSlotsModel", "reads", "()I"⟩, 16), (⟨"TurnSlotsModel", "takesSign", "(II)I"⟩, 16), (⟨"TurnSlotsModel", "sign", "()I"⟩, 16), (⟨"TurnSlotsModel", "readsCommand", "()V"⟩, 16), (⟨"TurnSlotsModel", "number", "()I"⟩, 16), (⟨"TurnSlotsModel", "numberOfBack", "()I"⟩, 16)]
theorem lw_r3 : ∀ q ∈ lw_privs_3, lw_okq q := List.forall_mem_cons.mpr ⟨lw_p32, List.forall_mem_cons.mpr ⟨lw_p33, List.forall_mem_cons.mpr ⟨lw_p34, List.forall_mem_cons.mpr ⟨lw_p35, List.forall_mem_cons.mpr ⟨lw_p36, List.forall_mem_cons.mpr ⟨lw_p37, List.forall_mem_cons.mpr ⟨lw_p38, List.forall_mem_cons.mpr ⟨lw_p39, List.forall_mem_cons.mpr ⟨lw_p40, List.forall_mem_cons.mpr ⟨lw_p41, List.forall_mem_cons.mpr ⟨lw_p42, List.forall_mem_cons.mpr ⟨lw_p43, fun _ h => absurd h List.not_mem_nil⟩⟩⟩⟩⟩⟩⟩⟩⟩⟩⟩⟩
def lw_privs : List (MethodName × Nat) := lw_privs_1 ++ (lw_privs_2 ++ (lw_privs_3))
def lw_tbl : List Cond := k2_sels lw_privs ++ tables_1
theorem lw_privs_ok : ∀ q ∈ lw_privs, lw_okq q := by
  show ∀ q ∈ lw_privs_1 ++ (lw_privs_2 ++ (lw_privs_3)), lw_okq q
  exact List.forall_mem_append.mpr ⟨lw_r1, List.forall_mem_append.mpr ⟨lw_r2, lw_r3⟩⟩
end
section
def RX0 : String := "TurnSlots$Context"
def TX0 : u_T := fun k => match k with
  | 0 => ("TurnSlots$Context", "kinds", "[I", true)
  | 1 => ("TurnSlots$Context", "numbers", "[I", true)
  | 2 => ("TurnSlots$Context", "messages", "[I", true)
  | 3 => ("TurnSlots$Context", "accounts", "[I", true)
  | 4 => ("TurnSlots$Context", "commands", "I", false)
  | 5 => ("TurnSlots$Context", "marks", "I", false)
  | 6 => ("TurnSlots$Context", "place", "I", false)
  | 7 => ("TurnSlots$Context", "sum", "I", false)
  | 8 => ("TurnSlots$Context", "priority", "I", false)
  | 9 => ("TurnSlots$Context", "received", "I", false)
  | _ => ("TurnSlots$Context", "sleep", "I", false)
def tyX0 : Nat → FieldType := fun k => match k with
  | 0 => .array .int
  | 1 => .array .int
  | 2 => .array .int
  | 3 => .array .int
  | 4 => .int
  | 5 => .int
  | 6 => .int
  | 7 => .int
  | 8 => .int
  | 9 => .int
  | _ => .int
theorem nmX0 : ∀ a, a < 11 → ∀ b, b < 11 → a ≠ b → (TX0 a).2.1 ≠ (TX0 b).2.1 := by decide +kernel
theorem tyX0_ok : ∀ k, k < 11 → parseFieldDescriptor (TX0 k).2.2.1 = some (tyX0 k) := by decide +kernel
abbrev cX0_init : ByteArray := prog_2_method_1_code
def yX0_init : MethodName := ⟨RX0, "<init>", "()V"⟩
abbrev cX0_copyFrom : ByteArray := prog_2_method_2_code
def yX0_copyFrom : MethodName := ⟨RX0, "copyFrom", "(LTurnSlots$Context;)V"⟩
abbrev cX0_append : ByteArray := prog_2_method_3_code
def yX0_append : MethodName := ⟨RX0, "append", "(II)V"⟩
abbrev cX0_load : ByteArray := prog_2_method_4_code
def yX0_load : MethodName := ⟨RX0, "load", "(LTurnSlots$Pad;)V"⟩
abbrev cX0_receive : ByteArray := prog_2_method_5_code
def yX0_receive : MethodName := ⟨RX0, "receive", "(I)V"⟩
abbrev cX0_takeMessage : ByteArray := prog_2_method_6_code
def yX0_takeMessage : MethodName := ⟨RX0, "takeMessage", "()V"⟩
abbrev cX0_addToSum : ByteArray := prog_2_method_7_code
def yX0_addToSum : MethodName := ⟨RX0, "addToSum", "(I)V"⟩
abbrev cX0_goBack : ByteArray := prog_2_method_8_code
def yX0_goBack : MethodName := ⟨RX0, "goBack", "(I)V"⟩
def RX1 : String := "TurnSlots$History"
def TX1 : u_T := fun k => match k with
  | 0 => ("TurnSlots$History", "states", "[LTurnSlots$Machine;", true)
  | 1 => ("TurnSlots$History", "oldest", "I", false)
  | _ => ("TurnSlots$History", "size", "I", false)
def tyX1 : Nat → FieldType := fun k => match k with
  | 0 => .array (.object "TurnSlots$Machine")
  | 1 => .int
  | _ => .int
theorem nmX1 : ∀ a, a < 3 → ∀ b, b < 3 → a ≠ b → (TX1 a).2.1 ≠ (TX1 b).2.1 := by decide +kernel
theorem tyX1_ok : ∀ k, k < 3 → parseFieldDescriptor (TX1 k).2.2.1 = some (tyX1 k) := by decide +kernel
abbrev cX1_init : ByteArray := prog_3_method_1_code
def yX1_init : MethodName := ⟨RX1, "<init>", "()V"⟩
abbrev cX1_record : ByteArray := prog_3_method_2_code
def yX1_record : MethodName := ⟨RX1, "record", "(LTurnSlots$Machine;)V"⟩
abbrev cX1_takeBack : ByteArray := prog_3_method_3_code
def yX1_takeBack : MethodName := ⟨RX1, "takeBack", "(LTurnSlots$Machine;)V"⟩
def RX2 : String := "TurnSlots$Machine"
def TX2 : u_T := fun k => match k with
  | 0 => ("TurnSlots$Machine", "contexts", "[LTurnSlots$Context;", true)
  | 1 => ("TurnSlots$Machine", "holders", "[I", true)
  | 2 => ("TurnSlots$Machine", "allWaits", "[I", true)
  | 3 => ("TurnSlots$Machine", "passed", "I", false)
  | 4 => ("TurnSlots$Machine", "idled", "I", false)
  | _ => ("TurnSlots$Machine", "givenAway", "I", false)
def tyX2 : Nat → FieldType := fun k => match k with
  | 0 => .array (.object "TurnSlots$Context")
  | 1 => .array .int
  | 2 => .array .int
  | 3 => .int
  | 4 => .int
  | _ => .int
theorem nmX2 : ∀ a, a < 6 → ∀ b, b < 6 → a ≠ b → (TX2 a).2.1 ≠ (TX2 b).2.1 := by decide +kernel
theorem tyX2_ok : ∀ k, k < 6 → parseFieldDescriptor (TX2 k).2.2.1 = some (tyX2 k) := by decide +kernel
abbrev cX2_init : ByteArray := prog_4_method_1_code
def yX2_init : MethodName := ⟨RX2, "<init>", "()V"⟩
abbrev cX2_copyFrom : ByteArray := prog_4_method_2_code
def yX2_copyFrom : MethodName := ⟨RX2, "copyFrom", "(LTurnSlots$Machine;)V"⟩
abbrev cX2_stateOf : ByteArray := prog_4_method_3_code
def yX2_stateOf : MethodName := ⟨RX2, "stateOf", "(I)I"⟩
abbrev cX2_setIn : ByteArray := prog_4_method_4_code
def yX2_setIn : MethodName := ⟨RX2, "setIn", "(I)I"⟩
abbrev cX2_areDone : ByteArray := prog_4_method_5_code
def yX2_areDone : MethodName := ⟨RX2, "areDone", "(I)Z"⟩
abbrev cX2_isStuck : ByteArray := prog_4_method_6_code
def yX2_isStuck : MethodName := ⟨RX2, "isStuck", "()Z"⟩
abbrev cX2_waitsOf : ByteArray := prog_4_method_7_code
def yX2_waitsOf : MethodName := ⟨RX2, "waitsOf", "(I)I"⟩
abbrev cX2_sendersTo : ByteArray := prog_4_method_8_code
def yX2_sendersTo : MethodName := ⟨RX2, "sendersTo", "(I)I"⟩
abbrev cX2_findAllWaits : ByteArray := prog_4_method_9_code
def yX2_findAllWaits : MethodName := ⟨RX2, "findAllWaits", "()[I"⟩
abbrev cX2_lentPriority : ByteArray := prog_4_method_10_code
def yX2_lentPriority : MethodName := ⟨RX2, "lentPriority", "(I[I)I"⟩
abbrev cX2_ringSet : ByteArray := prog_4_method_11_code
def yX2_ringSet : MethodName := ⟨RX2, "ringSet", "()I"⟩
abbrev cX2_passSlots : ByteArray := prog_4_method_12_code
def yX2_passSlots : MethodName := ⟨RX2, "passSlots", "(I)I"⟩
abbrev cX2_passUntilDone : ByteArray := prog_4_method_13_code
def yX2_passUntilDone : MethodName := ⟨RX2, "passUntilDone", "(I)I"⟩
abbrev cX2_passSlot : ByteArray := prog_4_method_14_code
def yX2_passSlot : MethodName := ⟨RX2, "passSlot", "()I"⟩
abbrev cX2_runnerInSlotOf : ByteArray := prog_4_method_15_code
def yX2_runnerInSlotOf : MethodName := ⟨RX2, "runnerInSlotOf", "(I)I"⟩
abbrev cX2_account : ByteArray := prog_4_method_16_code
def yX2_account : MethodName := ⟨RX2, "account", "(II)V"⟩
abbrev cX2_runNextOf : ByteArray := prog_4_method_17_code
def yX2_runNextOf : MethodName := ⟨RX2, "runNextOf", "(I)V"⟩
abbrev cX2_freeIfHeldBy : ByteArray := prog_4_method_18_code
def yX2_freeIfHeldBy : MethodName := ⟨RX2, "freeIfHeldBy", "(II)V"⟩
def RX3 : String := "TurnSlots$Pad"
def TX3 : u_T := fun k => match k with
  | 0 => ("TurnSlots$Pad", "characters", "[C", true)
  | 1 => ("TurnSlots$Pad", "length", "I", false)
  | 2 => ("TurnSlots$Pad", "kinds", "[I", true)
  | 3 => ("TurnSlots$Pad", "numbers", "[I", true)
  | 4 => ("TurnSlots$Pad", "context", "I", false)
  | 5 => ("TurnSlots$Pad", "commands", "I", false)
  | _ => ("TurnSlots$Pad", "at", "I", false)
def tyX3 : Nat → FieldType := fun k => match k with
  | 0 => .array .char
  | 1 => .int
  | 2 => .array .int
  | 3 => .array .int
  | 4 => .int
  | 5 => .int
  | _ => .int
theorem nmX3 : ∀ a, a < 7 → ∀ b, b < 7 → a ≠ b → (TX3 a).2.1 ≠ (TX3 b).2.1 := by decide +kernel
theorem tyX3_ok : ∀ k, k < 7 → parseFieldDescriptor (TX3 k).2.2.1 = some (tyX3 k) := by decide +kernel
abbrev cX3_init : ByteArray := prog_5_method_1_code
def yX3_init : MethodName := ⟨RX3, "<init>", "()V"⟩
abbrev cX3_charactersIn : ByteArray := prog_5_method_2_code
def yX3_charactersIn : MethodName := ⟨RX3, "charactersIn", "(J)I"⟩
abbrev cX3_append : ByteArray := prog_5_method_3_code
def yX3_append : MethodName := ⟨RX3, "append", "(JI)V"⟩
abbrev cX3_characterAt : ByteArray := prog_5_method_4_code
def yX3_characterAt : MethodName := ⟨RX3, "characterAt", "(I)C"⟩
abbrev cX3_findFault : ByteArray := prog_5_method_5_code
def yX3_findFault : MethodName := ⟨RX3, "findFault", "()I"⟩
abbrev cX3_takeCharacter : ByteArray := prog_5_method_6_code
def yX3_takeCharacter : MethodName := ⟨RX3, "takeCharacter", "(C)Z"⟩
abbrev cX3_takeCommand : ByteArray := prog_5_method_7_code
def yX3_takeCommand : MethodName := ⟨RX3, "takeCommand", "()Z"⟩
abbrev cX3_takeNumber : ByteArray := prog_5_method_8_code
def yX3_takeNumber : MethodName := ⟨RX3, "takeNumber", "(II)Z"⟩
abbrev cX3_digitHere : ByteArray := prog_5_method_9_code
def yX3_digitHere : MethodName := ⟨RX3, "digitHere", "()I"⟩
def RX4 : String := "TurnSlots"
def TX4 : u_T := fun k => match k with
  | 0 => ("TurnSlots", "now", "LTurnSlots$Machine;", true)
  | 1 => ("TurnSlots", "trial", "LTurnSlots$Machine;", true)
  | 2 => ("TurnSlots", "history", "LTurnSlots$History;", true)
  | 3 => ("TurnSlots", "saves", "[LTurnSlots$Machine;", true)
  | 4 => ("TurnSlots", "isSaved", "[Z", true)
  | _ => ("TurnSlots", "pad", "LTurnSlots$Pad;", true)
def tyX4 : Nat → FieldType := fun k => match k with
  | 0 => .object "TurnSlots$Machine"
  | 1 => .object "TurnSlots$Machine"
  | 2 => .object "TurnSlots$History"
  | 3 => .array (.object "TurnSlots$Machine")
  | 4 => .array .boolean
  | _ => .object "TurnSlots$Pad"
theorem nmX4 : ∀ a, a < 6 → ∀ b, b < 6 → a ≠ b → (TX4 a).2.1 ≠ (TX4 b).2.1 := by decide +kernel
theorem tyX4_ok : ∀ k, k < 6 → parseFieldDescriptor (TX4 k).2.2.1 = some (tyX4 k) := by decide +kernel
abbrev cX4_init : ByteArray := prog_1_method_1_code
def yX4_init : MethodName := ⟨RX4, "<init>", "()V"⟩
abbrev cX4_add : ByteArray := prog_1_method_2_code
def yX4_add : MethodName := ⟨RX4, "add", "(III)I"⟩
abbrev cX4_read : ByteArray := prog_1_method_3_code
def yX4_read : MethodName := ⟨RX4, "read", "()I"⟩
abbrev cX4_prefer : ByteArray := prog_1_method_4_code
def yX4_prefer : MethodName := ⟨RX4, "prefer", "(II)I"⟩
abbrev cX4_post : ByteArray := prog_1_method_5_code
def yX4_post : MethodName := ⟨RX4, "post", "(II)I"⟩
abbrev cX4_release : ByteArray := prog_1_method_6_code
def yX4_release : MethodName := ⟨RX4, "release", "(I)I"⟩
abbrev cX4_step : ByteArray := prog_1_method_7_code
def yX4_step : MethodName := ⟨RX4, "step", "(I)I"⟩
abbrev cX4_run : ByteArray := prog_1_method_8_code
def yX4_run : MethodName := ⟨RX4, "run", "()I"⟩
abbrev cX4_of : ByteArray := prog_1_method_9_code
def yX4_of : MethodName := ⟨RX4, "of", "(II)I"⟩
abbrev cX4_command : ByteArray := prog_1_method_10_code
def yX4_command : MethodName := ⟨RX4, "command", "(III)I"⟩
abbrev cX4_inbox : ByteArray := prog_1_method_11_code
def yX4_inbox : MethodName := ⟨RX4, "inbox", "(II)I"⟩
abbrev cX4_holder : ByteArray := prog_1_method_12_code
def yX4_holder : MethodName := ⟨RX4, "holder", "(I)I"⟩
abbrev cX4_count : ByteArray := prog_1_method_13_code
def yX4_count : MethodName := ⟨RX4, "count", "(I)I"⟩
abbrev cX4_slotsLeft : ByteArray := prog_1_method_14_code
def yX4_slotsLeft : MethodName := ⟨RX4, "slotsLeft", "()I"⟩
abbrev cX4_leftIf : ByteArray := prog_1_method_15_code
def yX4_leftIf : MethodName := ⟨RX4, "leftIf", "(III)I"⟩
abbrev cX4_sumBehind : ByteArray := prog_1_method_16_code
def yX4_sumBehind : MethodName := ⟨RX4, "sumBehind", "(II)I"⟩
abbrev cX4_put : ByteArray := prog_1_method_17_code
def yX4_put : MethodName := ⟨RX4, "put", "(J)I"⟩
abbrev cX4_wipe : ByteArray := prog_1_method_18_code
def yX4_wipe : MethodName := ⟨RX4, "wipe", "()I"⟩
abbrev cX4_fault : ByteArray := prog_1_method_19_code
def yX4_fault : MethodName := ⟨RX4, "fault", "()I"⟩
abbrev cX4_undo : ByteArray := prog_1_method_20_code
def yX4_undo : MethodName := ⟨RX4, "undo", "()I"⟩
abbrev cX4_save : ByteArray := prog_1_method_21_code
def yX4_save : MethodName := ⟨RX4, "save", "(I)I"⟩
abbrev cX4_restore : ByteArray := prog_1_method_22_code
def yX4_restore : MethodName := ⟨RX4, "restore", "(I)I"⟩
abbrev cX4_tryNow : ByteArray := prog_1_method_23_code
def yX4_tryNow : MethodName := ⟨RX4, "tryNow", "()LTurnSlots$Machine;"⟩
abbrev cX4_isContext : ByteArray := prog_1_method_24_code
def yX4_isContext : MethodName := ⟨RX4, "isContext", "(I)Z"⟩
abbrev cX4_isCommand : ByteArray := prog_1_method_25_code
def yX4_isCommand : MethodName := ⟨RX4, "isCommand", "(II)Z"⟩
abbrev cX4_isPriority : ByteArray := prog_1_method_26_code
def yX4_isPriority : MethodName := ⟨RX4, "isPriority", "(I)Z"⟩
abbrev cX4_isLock : ByteArray := prog_1_method_27_code
def yX4_isLock : MethodName := ⟨RX4, "isLock", "(I)Z"⟩
abbrev cX4_isStep : ByteArray := prog_1_method_28_code
def yX4_isStep : MethodName := ⟨RX4, "isStep", "(I)Z"⟩
abbrev cX4_isSave : ByteArray := prog_1_method_29_code
def yX4_isSave : MethodName := ⟨RX4, "isSave", "(I)Z"⟩
abbrev cX4_has : ByteArray := prog_1_method_30_code
def yX4_has : MethodName := ⟨RX4, "has", "(II)Z"⟩
def RX5 : String := "TurnSlotsModel"
def TX5 : u_T := fun k => match k with
  | 0 => ("TurnSlotsModel", "thrown", "I", false)
  | 1 => ("TurnSlotsModel", "s", "[I", true)
  | 2 => ("TurnSlotsModel", "aside", "[I", true)
  | 3 => ("TurnSlotsModel", "undos", "[I", true)
  | 4 => ("TurnSlotsModel", "undoMany", "I", false)
  | 5 => ("TurnSlotsModel", "slots", "[I", true)
  | 6 => ("TurnSlotsModel", "hasSlot", "[Z", true)
  | 7 => ("TurnSlotsModel", "pad", "[I", true)
  | 8 => ("TurnSlotsModel", "length", "I", false)
  | 9 => ("TurnSlotsModel", "waits", "[I", true)
  | 10 => ("TurnSlotsModel", "far", "[I", true)
  | 11 => ("TurnSlotsModel", "at", "I", false)
  | 12 => ("TurnSlotsModel", "isWell", "Z", false)
  | 13 => ("TurnSlotsModel", "whose", "I", false)
  | 14 => ("TurnSlotsModel", "readCode", "[I", true)
  | _ => ("TurnSlotsModel", "readMany", "I", false)
def tyX5 : Nat → FieldType := fun k => match k with
  | 0 => .int
  | 1 => .array .int
  | 2 => .array .int
  | 3 => .array .int
  | 4 => .int
  | 5 => .array .int
  | 6 => .array .boolean
  | 7 => .array .int
  | 8 => .int
  | 9 => .array .int
  | 10 => .array .int
  | 11 => .int
  | 12 => .boolean
  | 13 => .int
  | 14 => .array .int
  | _ => .int
theorem nmX5 : ∀ a, a < 16 → ∀ b, b < 16 → a ≠ b → (TX5 a).2.1 ≠ (TX5 b).2.1 := by decide +kernel
theorem tyX5_ok : ∀ k, k < 16 → parseFieldDescriptor (TX5 k).2.2.1 = some (tyX5 k) := by decide +kernel
abbrev cX5_init : ByteArray := prog_7_method_1_code
def yX5_init : MethodName := ⟨RX5, "<init>", "()V"⟩
abbrev cX5_in : ByteArray := prog_7_method_3_code
def yX5_in : MethodName := ⟨RX5, "in", "(III)Z"⟩
abbrev cX5_isContext : ByteArray := prog_7_method_4_code
def yX5_isContext : MethodName := ⟨RX5, "isContext", "(I)Z"⟩
abbrev cX5_get : ByteArray := prog_7_method_5_code
def yX5_get : MethodName := ⟨RX5, "get", "(II)I"⟩
abbrev cX5_lay : ByteArray := prog_7_method_6_code
def yX5_lay : MethodName := ⟨RX5, "lay", "(III)V"⟩
abbrev cX5_records : ByteArray := prog_7_method_7_code
def yX5_records : MethodName := ⟨RX5, "records", "()V"⟩
abbrev cX5_putAside : ByteArray := prog_7_method_8_code
def yX5_putAside : MethodName := ⟨RX5, "putAside", "()V"⟩
abbrev cX5_takeBack : ByteArray := prog_7_method_9_code
def yX5_takeBack : MethodName := ⟨RX5, "takeBack", "()V"⟩
abbrev cX5_isDone : ByteArray := prog_7_method_10_code
def yX5_isDone : MethodName := ⟨RX5, "isDone", "(I)Z"⟩
abbrev cX5_commandOf : ByteArray := prog_7_method_11_code
def yX5_commandOf : MethodName := ⟨RX5, "commandOf", "(II)I"⟩
abbrev cX5_argumentOf : ByteArray := prog_7_method_12_code
def yX5_argumentOf : MethodName := ⟨RX5, "argumentOf", "(II)I"⟩
abbrev cX5_stateOf : ByteArray := prog_7_method_13_code
def yX5_stateOf : MethodName := ⟨RX5, "stateOf", "(I)I"⟩
abbrev cX5_sendsTo : ByteArray := prog_7_method_14_code
def yX5_sendsTo : MethodName := ⟨RX5, "sendsTo", "(II)Z"⟩
abbrev cX5_waitsFor : ByteArray := prog_7_method_15_code
def yX5_waitsFor : MethodName := ⟨RX5, "waitsFor", "(I)I"⟩
abbrev cX5_laysWaits : ByteArray := prog_7_method_16_code
def yX5_laysWaits : MethodName := ⟨RX5, "laysWaits", "()V"⟩
abbrev cX5_lent : ByteArray := prog_7_method_17_code
def yX5_lent : MethodName := ⟨RX5, "lent", "(I)I"⟩
abbrev cX5_rings : ByteArray := prog_7_method_18_code
def yX5_rings : MethodName := ⟨RX5, "rings", "()I"⟩
abbrev cX5_inState : ByteArray := prog_7_method_19_code
def yX5_inState : MethodName := ⟨RX5, "inState", "(I)I"⟩
abbrev cX5_isStuck : ByteArray := prog_7_method_20_code
def yX5_isStuck : MethodName := ⟨RX5, "isStuck", "()Z"⟩
abbrev cX5_count1 : ByteArray := prog_7_method_21_code
def yX5_count1 : MethodName := ⟨RX5, "count1", "(I)I"⟩
abbrev cX5_sumOver : ByteArray := prog_7_method_22_code
def yX5_sumOver : MethodName := ⟨RX5, "sumOver", "(I)I"⟩
abbrev cX5_receives : ByteArray := prog_7_method_23_code
def yX5_receives : MethodName := ⟨RX5, "receives", "(II)V"⟩
abbrev cX5_goesBack : ByteArray := prog_7_method_24_code
def yX5_goesBack : MethodName := ⟨RX5, "goesBack", "(II)V"⟩
abbrev cX5_takes : ByteArray := prog_7_method_25_code
def yX5_takes : MethodName := ⟨RX5, "takes", "(I)V"⟩
abbrev cX5_runs : ByteArray := prog_7_method_26_code
def yX5_runs : MethodName := ⟨RX5, "runs", "(I)V"⟩
abbrev cX5_wakes : ByteArray := prog_7_method_27_code
def yX5_wakes : MethodName := ⟨RX5, "wakes", "()V"⟩
abbrev cX5_runner : ByteArray := prog_7_method_28_code
def yX5_runner : MethodName := ⟨RX5, "runner", "(I)I"⟩
abbrev cX5_slot : ByteArray := prog_7_method_29_code
def yX5_slot : MethodName := ⟨RX5, "slot", "()I"⟩
abbrev cX5_isArgument : ByteArray := prog_7_method_30_code
def yX5_isArgument : MethodName := ⟨RX5, "isArgument", "(II)Z"⟩
abbrev cX5_adds : ByteArray := prog_7_method_31_code
def yX5_adds : MethodName := ⟨RX5, "adds", "(III)V"⟩
abbrev cX5_add : ByteArray := prog_7_method_32_code
def yX5_add : MethodName := ⟨RX5, "add", "(III)I"⟩
abbrev cX5_prefer : ByteArray := prog_7_method_33_code
def yX5_prefer : MethodName := ⟨RX5, "prefer", "(II)I"⟩
abbrev cX5_post : ByteArray := prog_7_method_34_code
def yX5_post : MethodName := ⟨RX5, "post", "(II)I"⟩
abbrev cX5_release : ByteArray := prog_7_method_35_code
def yX5_release : MethodName := ⟨RX5, "release", "(I)I"⟩
abbrev cX5_step : ByteArray := prog_7_method_36_code
def yX5_step : MethodName := ⟨RX5, "step", "(I)I"⟩
abbrev cX5_run : ByteArray := prog_7_method_37_code
def yX5_run : MethodName := ⟨RX5, "run", "()I"⟩
abbrev cX5_of : ByteArray := prog_7_method_38_code
def yX5_of : MethodName := ⟨RX5, "of", "(II)I"⟩
abbrev cX5_command : ByteArray := prog_7_method_39_code
def yX5_command : MethodName := ⟨RX5, "command", "(III)I"⟩
abbrev cX5_inbox : ByteArray := prog_7_method_40_code
def yX5_inbox : MethodName := ⟨RX5, "inbox", "(II)I"⟩
abbrev cX5_holder : ByteArray := prog_7_method_41_code
def yX5_holder : MethodName := ⟨RX5, "holder", "(I)I"⟩
abbrev cX5_next : ByteArray := prog_7_method_42_code
def yX5_next : MethodName := ⟨RX5, "next", "()I"⟩
abbrev cX5_count : ByteArray := prog_7_method_43_code
def yX5_count : MethodName := ⟨RX5, "count", "(I)I"⟩
abbrev cX5_until : ByteArray := prog_7_method_44_code
def yX5_until : MethodName := ⟨RX5, "until", "(I)I"⟩
abbrev cX5_slotsLeft : ByteArray := prog_7_method_45_code
def yX5_slotsLeft : MethodName := ⟨RX5, "slotsLeft", "()I"⟩
abbrev cX5_leftIf : ByteArray := prog_7_method_46_code
def yX5_leftIf : MethodName := ⟨RX5, "leftIf", "(III)I"⟩
abbrev cX5_sumBehind : ByteArray := prog_7_method_47_code
def yX5_sumBehind : MethodName := ⟨RX5, "sumBehind", "(II)I"⟩
abbrev cX5_put : ByteArray := prog_7_method_48_code
def yX5_put : MethodName := ⟨RX5, "put", "(J)I"⟩
abbrev cX5_wipe : ByteArray := prog_7_method_49_code
def yX5_wipe : MethodName := ⟨RX5, "wipe", "()I"⟩
abbrev cX5_sign : ByteArray := prog_7_method_50_code
def yX5_sign : MethodName := ⟨RX5, "sign", "()I"⟩
abbrev cX5_takesSign : ByteArray := prog_7_method_51_code
def yX5_takesSign : MethodName := ⟨RX5, "takesSign", "(II)I"⟩
abbrev cX5_number : ByteArray := prog_7_method_52_code
def yX5_number : MethodName := ⟨RX5, "number", "()I"⟩
abbrev cX5_numberOfBack : ByteArray := prog_7_method_53_code
def yX5_numberOfBack : MethodName := ⟨RX5, "numberOfBack", "()I"⟩
abbrev cX5_commandBy : ByteArray := prog_7_method_54_code
def yX5_commandBy : MethodName := ⟨RX5, "commandBy", "(I)I"⟩
abbrev cX5_readsCommand : ByteArray := prog_7_method_55_code
def yX5_readsCommand : MethodName := ⟨RX5, "readsCommand", "()V"⟩
abbrev cX5_reads : ByteArray := prog_7_method_56_code
def yX5_reads : MethodName := ⟨RX5, "reads", "()I"⟩
abbrev cX5_fault : ByteArray := prog_7_method_57_code
def yX5_fault : MethodName := ⟨RX5, "fault", "()I"⟩
abbrev cX5_read : ByteArray := prog_7_method_58_code
def yX5_read : MethodName := ⟨RX5, "read", "()I"⟩
abbrev cX5_undo : ByteArray := prog_7_method_59_code
def yX5_undo : MethodName := ⟨RX5, "undo", "()I"⟩
abbrev cX5_save : ByteArray := prog_7_method_60_code
def yX5_save : MethodName := ⟨RX5, "save", "(I)I"⟩
abbrev cX5_restore : ByteArray := prog_7_method_61_code
def yX5_restore : MethodName := ⟨RX5, "restore", "(I)I"⟩
def RJ11 : String := "java/lang/Character"
abbrev cJ11_isValidCodePoint_9a6ad : ByteArray := prog_8_method_11_code
def yJ11_isValidCodePoint_9a6ad : MethodName := ⟨RJ11, "isValidCodePoint", "(I)Z"⟩
abbrev cJ11_highSurrogate_5068e : ByteArray := prog_8_method_28_code
def yJ11_highSurrogate_5068e : MethodName := ⟨RJ11, "highSurrogate", "(I)C"⟩
abbrev cJ11_lowSurrogate_5068e : ByteArray := prog_8_method_29_code
def yJ11_lowSurrogate_5068e : MethodName := ⟨RJ11, "lowSurrogate", "(I)C"⟩
def RJ6 : String := "java/lang/Integer"
abbrev cJ6_bitCount_0f7a4 : ByteArray := prog_9_method_49_code
def yJ6_bitCount_0f7a4 : MethodName := ⟨RJ6, "bitCount", "(I)I"⟩
def RJ9 : String := "java/lang/Math"
abbrev cJ9_max_7cf53 : ByteArray := prog_10_method_65_code
def yJ9_max_7cf53 : MethodName := ⟨RJ9, "max", "(II)I"⟩
abbrev cJ9_min_7cf53 : ByteArray := prog_10_method_69_code
def yJ9_min_7cf53 : MethodName := ⟨RJ9, "min", "(II)I"⟩
def RJ0 : String := "java/lang/String"
abbrev cJ0_length_8abf5 : ByteArray := prog_11_method_54_code
def yJ0_length_8abf5 : MethodName := ⟨RJ0, "length", "()I"⟩
abbrev cJ0_indexOf_0f7a4 : ByteArray := prog_11_method_79_code
def yJ0_indexOf_0f7a4 : MethodName := ⟨RJ0, "indexOf", "(I)I"⟩
abbrev cJ0_indexOf_7cf53 : ByteArray := prog_11_method_80_code
def yJ0_indexOf_7cf53 : MethodName := ⟨RJ0, "indexOf", "(II)I"⟩
abbrev cJ0_coder_7d493 : ByteArray := prog_11_method_152_code
def yJ0_coder_7d493 : MethodName := ⟨RJ0, "coder", "()B"⟩
abbrev cJ0_isLatin1_aae02 : ByteArray := prog_11_method_154_code
def yJ0_isLatin1_aae02 : MethodName := ⟨RJ0, "isLatin1", "()Z"⟩
abbrev cJ0_checkBoundsBeginEnd_23922 : ByteArray := prog_11_method_158_code
def yJ0_checkBoundsBeginEnd_23922 : MethodName := ⟨RJ0, "checkBoundsBeginEnd", "(III)V"⟩
def RJ1 : String := "java/lang/StringLatin1"
abbrev cJ1_canEncode_9a6ad : ByteArray := prog_12_method_4_code
def yJ1_canEncode_9a6ad : MethodName := ⟨RJ1, "canEncode", "(I)Z"⟩
abbrev cJ1_indexOf_4cfef : ByteArray := prog_12_method_22_code
def yJ1_indexOf_4cfef : MethodName := ⟨RJ1, "indexOf", "([BIII)I"⟩
abbrev cJ1_indexOfChar_4cfef : ByteArray := prog_12_method_23_code
def yJ1_indexOfChar_4cfef : MethodName := ⟨RJ1, "indexOfChar", "([BIII)I"⟩
def RJ2 : String := "java/lang/StringUTF16"
abbrev cJ2_getChar_3b067 : ByteArray := prog_13_method_5_code
def yJ2_getChar_3b067 : MethodName := ⟨RJ2, "getChar", "([BI)C"⟩
abbrev cJ2_length_9d52b : ByteArray := prog_13_method_6_code
def yJ2_length_9d52b : MethodName := ⟨RJ2, "length", "([B)I"⟩
abbrev cJ2_indexOf_4cfef : ByteArray := prog_13_method_40_code
def yJ2_indexOf_4cfef : MethodName := ⟨RJ2, "indexOf", "([BIII)I"⟩
abbrev cJ2_indexOfChar_4cfef : ByteArray := prog_13_method_47_code
def yJ2_indexOfChar_4cfef : MethodName := ⟨RJ2, "indexOfChar", "([BIII)I"⟩
abbrev cJ2_indexOfCharUnsafe_4cfef : ByteArray := prog_13_method_48_code
def yJ2_indexOfCharUnsafe_4cfef : MethodName := ⟨RJ2, "indexOfCharUnsafe", "([BIII)I"⟩
abbrev cJ2_indexOfSupplementary_4cfef : ByteArray := prog_13_method_49_code
def yJ2_indexOfSupplementary_4cfef : MethodName := ⟨RJ2, "indexOfSupplementary", "([BIII)I"⟩
abbrev cJ2_checkBoundsBeginEnd_d044e : ByteArray := prog_13_method_93_code
def yJ2_checkBoundsBeginEnd_d044e : MethodName := ⟨RJ2, "checkBoundsBeginEnd", "(II[B)V"⟩
def RJ10 : String := "java/lang/System"
def RJ3 : String := "jdk/internal/util/Preconditions"
abbrev cJ3_checkFromToIndex_8c36e : ByteArray := prog_15_method_12_code
def yJ3_checkFromToIndex_8c36e : MethodName := ⟨RJ3, "checkFromToIndex", "(IIILjava/util/function/BiFunction;)I"⟩
def RL : String := "TurnSlotsLaw"
abbrev cL_law : ByteArray := code
def yL_law : MethodName := ⟨RL, "law", "([I)Z"⟩
abbrev vwCl : List vw_C := [(RX0, TX0, 11), (RX1, TX1, 3), (RX2, TX2, 6), (RX3, TX3, 7), (RX4, TX4, 6), (RX5, TX5, 16)]
end
section
/-! ===== a pure machine: what bytecode does to typed cells, as a Lean function over the machine's own decode ===== -/
/-- a method: its name, bytes, locals, what it returns, its class's number, its height -/
abbrev xM : Type := MethodName × ByteArray × Nat × Option FieldType × Nat × Nat
/-- the shape of the cells: kind, length, references, by address; the heap's size; the slots used -/
abbrev xSh : Type := (Nat → Nat × Nat × (Nat → Option Nat)) × Nat × Nat
/-- the ints of the cells, by address and place -/
abbrev xV : Type := Nat → Nat → Int32
/-- a step's outcome: on; a return; a call -/
abbrev xStep : Type := (Nat × List (Option Value) × List Value × xSh × xV) ⊕ (Option Value) ⊕ (xM × List Value × List Value)
def xkd (S : xSh) (a : Nat) : Nat := (S.1 a).1
def xln (S : xSh) (a : Nat) : Nat := (S.1 a).2.1
def xrf (S : xSh) (a k : Nat) : Option Nat := (S.1 a).2.2 k
def xup (V : xV) (a j : Nat) (v : Int32) : xV := fun b i => if b = a ∧ i = j then v else V b i
def xrow (V : xV) (a : Nat) (f : Nat → Int32) : xV := fun b => if b = a then f else V b
def xnew (S : xSh) (kd n z : Nat) : xSh := (fun b => if b = S.2.1 then (kd, n, fun _ => none) else S.1 b, S.2.1 + 1, S.2.2 + z)
def xsetr (S : xSh) (a k : Nat) (r : Option Nat) : xSh := (fun b => if b = a then ((S.1 a).1, (S.1 a).2.1, fun j => if j = k then r else (S.1 a).2.2 j) else S.1 b, S.2)
def xassoc {α : Type} : List ((Nat × Nat) × α) → Nat × Nat → Option α
  | [], _ => none
  | (k, a) :: l, n => if n = k then some a else xassoc l n
theorem xassoc_mem {α : Type} {n : Nat × Nat} {a : α} : ∀ {l : List ((Nat × Nat) × α)}, xassoc l n = some a → (n, a) ∈ l := by
  intro l
  induction l with
  | nil => intro h; cases h
  | cons q l ih =>
    obtain ⟨k, b⟩ := q
    intro h
    rw [xassoc] at h
    by_cases hk : n = k
    · rw [if_pos hk] at h
      cases h
      subst hk
      exact List.mem_cons_self
    · rw [if_neg hk] at h
      exact List.mem_cons_of_mem _ (ih h)
/-- fields of a kind: declaring class, name, descriptor, final; their types -/
def xT (kd : Nat) : u_T := match kd with
  | 1 => TX0
  | 2 => TX1
  | 3 => TX2
  | 4 => TX3
  | 5 => TX4
  | 6 => TX5
  | _ => fun k => match k with
    | 0 => ("java/lang/String", "value", "[B", true)
    | _ => ("java/lang/String", "coder", "B", true)
def xty (kd : Nat) : Nat → FieldType := match kd with
  | 1 => tyX0
  | 2 => tyX1
  | 3 => tyX2
  | 4 => tyX3
  | 5 => tyX4
  | 6 => tyX5
  | _ => fun k => match k with
    | 0 => .array .byte
    | _ => .byte
def xcn (o : Nat) : String := match o with
  | 0 => RX0
  | 1 => RX1
  | 2 => RX2
  | 3 => RX3
  | 4 => RX4
  | 5 => RX5
  | 6 => RL
  | 7 => RJ0
  | 8 => RJ1
  | 9 => RJ9
  | _ => RJ6
def xN (kd : Nat) : Nat := match kd with
  | 1 => 11
  | 2 => 3
  | 3 => 6
  | 4 => 7
  | 5 => 6
  | 6 => 16
  | _ => 2
def xisR (kd k : Nat) : Bool := match xty kd k with
  | .array _ => true
  | .object _ => true
  | _ => false
def xisZ (kd k : Nat) : Bool := match xty kd k with
  | .boolean => true
  | _ => false
def xlocAt (ls : List (Option Value)) (i : Nat) : Option Value := match ls[i]? with
  | some (some v) => some v
  | _ => none
/-- a long whose second half is stored over goes -/
def xclr (ls : List (Option Value)) (i : Nat) : List (Option Value) := match i with
  | 0 => ls
  | j + 1 => match xlocAt ls j with
    | some v => if v.category = 2 then ls.set j none else ls
    | none => ls
def xst1 (ls : List (Option Value)) (i : Nat) (v : Value) : List (Option Value) := (xclr ls i).set i (some v)
def xst2 (ls : List (Option Value)) (i : Nat) (v : Value) : List (Option Value) := ((xclr ls i).set i (some v)).set (i + 1) none
def xargs : List Value → List (Option Value)
  | [] => []
  | v :: vs => if v.category = 2 then some v :: none :: xargs vs else some v :: xargs vs
def xlocs (n : Nat) (vs : List Value) : List (Option Value) := xargs vs ++ List.replicate (n - (xargs vs).length) none
def xcat (st : List Value) : Nat := (st.map fun v => v.category).sum
def xcb (c : Jvm.ClassFile.Cond) (x y : Int32) : Bool := match c with
  | .eq => decide (x = y)
  | .ne => decide (¬ x = y)
  | .lt => decide (x < y)
  | .ge => decide (y ≤ x)
  | .gt => decide (y < x)
  | .le => decide (x ≤ y)
def xgo (pc : Nat) (ls : List (Option Value)) (st : List Value) (S : xSh) (V : xV) : Option xStep := some (.inl (pc, ls, st, S, V))
def xoff (pc : Nat) (off : Int) (ls : List (Option Value)) (st : List Value) (S : xSh) (V : xV) : Option xStep :=
  if 0 ≤ (pc : Int) + off then xgo ((pc : Int) + off).toNat ls st S V else none
end
section
/-! ===== methods and links, by program out of the printed words ===== -/
def mX0_addToSum : xM := (yX0_addToSum, cX0_addToSum, 2, none, 0, 0)
def mX0_append : xM := (yX0_append, cX0_append, 3, none, 0, 0)
def mX0_receive : xM := (yX0_receive, cX0_receive, 2, none, 0, 0)
def mX2_account : xM := (yX2_account, cX2_account, 3, none, 2, 0)
def mX2_freeIfHeldBy : xM := (yX2_freeIfHeldBy, cX2_freeIfHeldBy, 3, none, 2, 0)
def mX2_sendersTo : xM := (yX2_sendersTo, cX2_sendersTo, 6, some .int, 2, 0)
def mX2_stateOf : xM := (yX2_stateOf, cX2_stateOf, 4, some .int, 2, 0)
def mX3_append : xM := (yX3_append, cX3_append, 5, none, 3, 0)
def mX3_characterAt : xM := (yX3_characterAt, cX3_characterAt, 2, some .char, 3, 0)
def mX3_charactersIn : xM := (yX3_charactersIn, cX3_charactersIn, 6, some .int, 3, 0)
def mX4_has : xM := (yX4_has, cX4_has, 2, some .boolean, 4, 0)
def mX4_isCommand : xM := (yX4_isCommand, cX4_isCommand, 2, some .boolean, 4, 0)
def mX4_isContext : xM := (yX4_isContext, cX4_isContext, 1, some .boolean, 4, 0)
def mX4_isLock : xM := (yX4_isLock, cX4_isLock, 1, some .boolean, 4, 0)
def mX4_isPriority : xM := (yX4_isPriority, cX4_isPriority, 1, some .boolean, 4, 0)
def mX4_isSave : xM := (yX4_isSave, cX4_isSave, 1, some .boolean, 4, 0)
def mX4_isStep : xM := (yX4_isStep, cX4_isStep, 1, some .boolean, 4, 0)
def mX4_wipe : xM := (yX4_wipe, cX4_wipe, 2, some .int, 4, 0)
def mX5_commandBy : xM := (yX5_commandBy, cX5_commandBy, 1, some .int, 5, 0)
def mX5_count1 : xM := (yX5_count1, cX5_count1, 3, some .int, 5, 0)
def mX5_get : xM := (yX5_get, cX5_get, 3, some .int, 5, 0)
def mX5_in : xM := (yX5_in, cX5_in, 3, some .boolean, 5, 0)
def mX5_lay : xM := (yX5_lay, cX5_lay, 4, none, 5, 0)
def mX5_putAside : xM := (yX5_putAside, cX5_putAside, 2, none, 5, 0)
def mX5_records : xM := (yX5_records, cX5_records, 2, none, 5, 0)
def mX5_sign : xM := (yX5_sign, cX5_sign, 1, some .int, 5, 0)
def mX5_takeBack : xM := (yX5_takeBack, cX5_takeBack, 2, none, 5, 0)
def mX5_undo : xM := (yX5_undo, cX5_undo, 2, some .int, 5, 0)
def mX5_wipe : xM := (yX5_wipe, cX5_wipe, 2, some .int, 5, 0)
def mJ0_coder_7d493 : xM := (yJ0_coder_7d493, cJ0_coder_7d493, 1, some .byte, 7, 0)
def mJ0_isLatin1_aae02 : xM := (yJ0_isLatin1_aae02, cJ0_isLatin1_aae02, 1, some .boolean, 7, 0)
def mJ1_canEncode_9a6ad : xM := (yJ1_canEncode_9a6ad, cJ1_canEncode_9a6ad, 1, some .boolean, 8, 0)
def mJ1_indexOfChar_4cfef : xM := (yJ1_indexOfChar_4cfef, cJ1_indexOfChar_4cfef, 6, some .int, 8, 0)
def mJ6_bitCount_0f7a4 : xM := (yJ6_bitCount_0f7a4, cJ6_bitCount_0f7a4, 1, some .int, 10, 0)
def mX0_init : xM := (yX0_init, cX0_init, 1, none, 0, 1)
def mX0_copyFrom : xM := (yX0_copyFrom, cX0_copyFrom, 2, none, 0, 1)
def mX0_goBack : xM := (yX0_goBack, cX0_goBack, 3, none, 0, 1)
def mX0_load : xM := (yX0_load, cX0_load, 3, none, 0, 1)
def mX0_takeMessage : xM := (yX0_takeMessage, cX0_takeMessage, 1, none, 0, 1)
def mX2_areDone : xM := (yX2_areDone, cX2_areDone, 3, some .boolean, 2, 1)
def mX2_isStuck : xM := (yX2_isStuck, cX2_isStuck, 4, some .boolean, 2, 1)
def mX2_lentPriority : xM := (yX2_lentPriority, cX2_lentPriority, 5, some .int, 2, 1)
def mX2_setIn : xM := (yX2_setIn, cX2_setIn, 4, some .int, 2, 1)
def mX2_waitsOf : xM := (yX2_waitsOf, cX2_waitsOf, 3, some .int, 2, 1)
def mX3_init : xM := (yX3_init, cX3_init, 1, none, 3, 1)
def mX3_digitHere : xM := (yX3_digitHere, cX3_digitHere, 2, some .int, 3, 1)
def mX3_takeCharacter : xM := (yX3_takeCharacter, cX3_takeCharacter, 2, some .boolean, 3, 1)
def mX4_command : xM := (yX4_command, cX4_command, 5, some .int, 4, 1)
def mX4_holder : xM := (yX4_holder, cX4_holder, 2, some .int, 4, 1)
def mX4_inbox : xM := (yX4_inbox, cX4_inbox, 4, some .int, 4, 1)
def mX4_put : xM := (yX4_put, cX4_put, 4, some .int, 4, 1)
def mX5_init : xM := (yX5_init, cX5_init, 1, none, 5, 1)
def mX5_adds : xM := (yX5_adds, cX5_adds, 5, none, 5, 1)
def mX5_argumentOf : xM := (yX5_argumentOf, cX5_argumentOf, 3, some .int, 5, 1)
def mX5_commandOf : xM := (yX5_commandOf, cX5_commandOf, 3, some .int, 5, 1)
def mX5_goesBack : xM := (yX5_goesBack, cX5_goesBack, 5, none, 5, 1)
def mX5_holder : xM := (yX5_holder, cX5_holder, 2, some .int, 5, 1)
def mX5_isContext : xM := (yX5_isContext, cX5_isContext, 1, some .boolean, 5, 1)
def mX5_isDone : xM := (yX5_isDone, cX5_isDone, 2, some .boolean, 5, 1)
def mX5_lent : xM := (yX5_lent, cX5_lent, 5, some .int, 5, 1)
def mX5_put : xM := (yX5_put, cX5_put, 8, some .int, 5, 1)
def mX5_receives : xM := (yX5_receives, cX5_receives, 3, none, 5, 1)
def mX5_release : xM := (yX5_release, cX5_release, 3, some .int, 5, 1)
def mX5_restore : xM := (yX5_restore, cX5_restore, 3, some .int, 5, 1)
def mX5_save : xM := (yX5_save, cX5_save, 3, some .int, 5, 1)
def mX5_sumOver : xM := (yX5_sumOver, cX5_sumOver, 4, some .int, 5, 1)
def mX5_takes : xM := (yX5_takes, cX5_takes, 3, none, 5, 1)
def mX5_takesSign : xM := (yX5_takesSign, cX5_takesSign, 4, some .int, 5, 1)
def mX5_wakes : xM := (yX5_wakes, cX5_wakes, 2, none, 5, 1)
def mJ0_length_8abf5 : xM := (yJ0_length_8abf5, cJ0_length_8abf5, 1, some .int, 7, 1)
def mJ1_indexOf_4cfef : xM := (yJ1_indexOf_4cfef, cJ1_indexOf_4cfef, 4, some .int, 8, 1)
def mX2_init : xM := (yX2_init, cX2_init, 2, none, 2, 2)
def mX2_copyFrom : xM := (yX2_copyFrom, cX2_copyFrom, 3, none, 2, 2)
def mX2_findAllWaits : xM := (yX2_findAllWaits, cX2_findAllWaits, 3, some (.array .int), 2, 2)
def mX2_runNextOf : xM := (yX2_runNextOf, cX2_runNextOf, 5, none, 2, 2)
def mX3_takeNumber : xM := (yX3_takeNumber, cX3_takeNumber, 5, some .boolean, 3, 2)
def mX5_command : xM := (yX5_command, cX5_command, 4, some .int, 5, 2)
def mX5_inbox : xM := (yX5_inbox, cX5_inbox, 3, some .int, 5, 2)
def mX5_isArgument : xM := (yX5_isArgument, cX5_isArgument, 2, some .boolean, 5, 2)
def mX5_number : xM := (yX5_number, cX5_number, 2, some .int, 5, 2)
def mX5_numberOfBack : xM := (yX5_numberOfBack, cX5_numberOfBack, 2, some .int, 5, 2)
def mX5_post : xM := (yX5_post, cX5_post, 3, some .int, 5, 2)
def mX5_prefer : xM := (yX5_prefer, cX5_prefer, 4, some .int, 5, 2)
def mX5_runs : xM := (yX5_runs, cX5_runs, 4, none, 5, 2)
def mX5_sendsTo : xM := (yX5_sendsTo, cX5_sendsTo, 5, some .boolean, 5, 2)
def mX5_stateOf : xM := (yX5_stateOf, cX5_stateOf, 4, some .int, 5, 2)
def mJ0_indexOf_7cf53 : xM := (yJ0_indexOf_7cf53, cJ0_indexOf_7cf53, 3, some .int, 7, 2)
def mX1_init : xM := (yX1_init, cX1_init, 2, none, 1, 3)
def mX1_record : xM := (yX1_record, cX1_record, 2, none, 1, 3)
def mX1_takeBack : xM := (yX1_takeBack, cX1_takeBack, 2, none, 1, 3)
def mX2_ringSet : xM := (yX2_ringSet, cX2_ringSet, 4, some .int, 2, 3)
def mX2_runnerInSlotOf : xM := (yX2_runnerInSlotOf, cX2_runnerInSlotOf, 9, some .int, 2, 3)
def mX4_save : xM := (yX4_save, cX4_save, 2, some .int, 4, 3)
def mX4_tryNow : xM := (yX4_tryNow, cX4_tryNow, 1, some (.object "TurnSlots$Machine"), 4, 3)
def mX5_add : xM := (yX5_add, cX5_add, 4, some .int, 5, 3)
def mX5_inState : xM := (yX5_inState, cX5_inState, 4, some .int, 5, 3)
def mX5_readsCommand : xM := (yX5_readsCommand, cX5_readsCommand, 3, none, 5, 3)
def mX5_waitsFor : xM := (yX5_waitsFor, cX5_waitsFor, 6, some .int, 5, 3)
def mJ0_indexOf_0f7a4 : xM := (yJ0_indexOf_0f7a4, cJ0_indexOf_0f7a4, 2, some .int, 7, 3)
def mX2_passSlot : xM := (yX2_passSlot, cX2_passSlot, 3, some .int, 2, 4)
def mX3_takeCommand : xM := (yX3_takeCommand, cX3_takeCommand, 2, some .boolean, 3, 4)
def mX4_init : xM := (yX4_init, cX4_init, 2, none, 4, 4)
def mX4_add : xM := (yX4_add, cX4_add, 5, some .int, 4, 4)
def mX4_of : xM := (yX4_of, cX4_of, 4, some .int, 4, 4)
def mX4_post : xM := (yX4_post, cX4_post, 4, some .int, 4, 4)
def mX4_prefer : xM := (yX4_prefer, cX4_prefer, 4, some .int, 4, 4)
def mX4_release : xM := (yX4_release, cX4_release, 3, some .int, 4, 4)
def mX4_restore : xM := (yX4_restore, cX4_restore, 2, some .int, 4, 4)
def mX4_undo : xM := (yX4_undo, cX4_undo, 1, some .int, 4, 4)
def mX5_isStuck : xM := (yX5_isStuck, cX5_isStuck, 3, some .boolean, 5, 4)
def mX5_laysWaits : xM := (yX5_laysWaits, cX5_laysWaits, 4, none, 5, 4)
def mX5_reads : xM := (yX5_reads, cX5_reads, 1, some .int, 5, 4)
def mX2_passSlots : xM := (yX2_passSlots, cX2_passSlots, 4, some .int, 2, 5)
def mX2_passUntilDone : xM := (yX2_passUntilDone, cX2_passUntilDone, 3, some .int, 2, 5)
def mX3_findFault : xM := (yX3_findFault, cX3_findFault, 2, some .int, 3, 5)
def mX4_count : xM := (yX4_count, cX4_count, 2, some .int, 4, 5)
def mX5_fault : xM := (yX5_fault, cX5_fault, 1, some .int, 5, 5)
def mX5_of : xM := (yX5_of, cX5_of, 3, some .int, 5, 5)
def mX5_read : xM := (yX5_read, cX5_read, 2, some .int, 5, 5)
def mX5_rings : xM := (yX5_rings, cX5_rings, 3, some .int, 5, 5)
def mX5_runner : xM := (yX5_runner, cX5_runner, 5, some .int, 5, 5)
def mX4_fault : xM := (yX4_fault, cX4_fault, 1, some .int, 4, 6)
def mX4_leftIf : xM := (yX4_leftIf, cX4_leftIf, 5, some .int, 4, 6)
def mX4_read : xM := (yX4_read, cX4_read, 1, some .int, 4, 6)
def mX4_run : xM := (yX4_run, cX4_run, 1, some .int, 4, 6)
def mX4_slotsLeft : xM := (yX4_slotsLeft, cX4_slotsLeft, 2, some .int, 4, 6)
def mX4_step : xM := (yX4_step, cX4_step, 2, some .int, 4, 6)
def mX4_sumBehind : xM := (yX4_sumBehind, cX4_sumBehind, 3, some .int, 4, 6)
def mX5_next : xM := (yX5_next, cX5_next, 2, some .int, 5, 6)
def mX5_slot : xM := (yX5_slot, cX5_slot, 3, some .int, 5, 6)
def mX5_count : xM := (yX5_count, cX5_count, 2, some .int, 5, 7)
def mX5_run : xM := (yX5_run, cX5_run, 2, some .int, 5, 7)
def mX5_step : xM := (yX5_step, cX5_step, 4, some .int, 5, 7)
def mX5_sumBehind : xM := (yX5_sumBehind, cX5_sumBehind, 4, some .int, 5, 7)
def mX5_until : xM := (yX5_until, cX5_until, 3, some .int, 5, 7)
def mX5_leftIf : xM := (yX5_leftIf, cX5_leftIf, 5, some .int, 5, 8)
def mX5_slotsLeft : xM := (yX5_slotsLeft, cX5_slotsLeft, 2, some .int, 5, 8)
def mL_law : xM := (yL_law, cL_law, 4, some .boolean, 6, 9)
def xFt : List ((Nat × Nat) × (Nat × Nat)) := [((0, 9), (1, 0)), ((0, 15), (1, 1)), ((0, 18), (1, 2)), ((0, 21), (1, 3)), ((0, 30), (1, 4)), ((0, 34), (1, 5)), ((0, 37), (1, 6)), ((0, 40), (1, 7)), ((0, 43), (1, 8)), ((0, 46), (1, 9)), ((0, 49), (1, 10)), ((0, 52), (4, 5)), ((0, 55), (4, 2)), ((0, 56), (4, 3)), ((1, 11), (2, 0)), ((1, 18), (2, 1)), ((1, 22), (2, 2)), ((2, 11), (3, 0)), ((2, 17), (3, 1)), ((2, 21), (3, 2)), ((2, 35), (3, 3)), ((2, 39), (3, 4)), ((2, 42), (3, 5)), ((2, 45), (1, 6)), ((2, 48), (1, 4)), ((2, 51), (1, 10)), ((2, 54), (1, 1)), ((2, 57), (1, 0)), ((2, 60), (1, 9)), ((2, 77), (1, 8)), ((2, 120), (1, 3)), ((2, 129), (1, 7)), ((3, 9), (4, 0)), ((3, 15), (4, 2)), ((3, 19), (4, 3)), ((3, 24), (4, 1)), ((3, 28), (4, 6)), ((3, 31), (4, 5)), ((3, 38), (4, 4)), ((4, 10), (5, 0)), ((4, 16), (5, 1)), ((4, 22), (5, 2)), ((4, 26), (5, 3)), ((4, 30), (5, 4)), ((4, 37), (5, 5)), ((4, 49), (3, 0)), ((4, 53), (1, 4)), ((4, 71), (4, 4)), ((4, 78), (4, 1)), ((4, 84), (1, 8)), ((4, 87), (1, 9)), ((4, 97), (3, 1)), ((4, 104), (3, 3)), ((4, 116), (1, 6)), ((4, 119), (1, 7)), ((4, 130), (1, 10)), ((4, 145), (1, 3)), ((4, 148), (1, 0)), ((4, 151), (1, 1)), ((4, 154), (1, 5)), ((4, 157), (1, 2)), ((4, 172), (3, 4)), ((4, 175), (3, 5)), ((4, 185), (2, 2)), ((5, 7), (6, 1)), ((5, 13), (6, 2)), ((5, 16), (6, 3)), ((5, 19), (6, 5)), ((5, 22), (6, 6)), ((5, 26), (6, 7)), ((5, 29), (6, 9)), ((5, 32), (6, 10)), ((5, 35), (6, 14)), ((5, 38), (6, 0)), ((5, 46), (6, 4)), ((5, 147), (6, 8)), ((5, 155), (6, 11)), ((5, 158), (6, 12)), ((5, 177), (6, 15)), ((5, 180), (6, 13)), ((7, 9), (13, 0)), ((7, 15), (13, 1))]
def xSt : List ((Nat × Nat) × Nat) := [((3, 61), 0), ((3, 64), 1), ((4, 207), 0), ((4, 210), 1), ((7, 38), 2)]
def xCt : List ((Nat × Nat) × (xM × Nat × Nat)) := [((0, 57), (mX0_append, 2, 0)), ((0, 61), (mX0_addToSum, 1, 0)), ((0, 65), (mX4_has, 2, 3)), ((1, 17), (mX2_init, 0, 2)), ((1, 25), (mX2_copyFrom, 1, 0)), ((2, 24), (mX0_init, 0, 4)), ((2, 25), (mX0_copyFrom, 1, 0)), ((2, 63), (mX2_stateOf, 1, 0)), ((2, 67), (mX4_has, 2, 3)), ((2, 71), (mX2_sendersTo, 1, 0)), ((2, 74), (mX2_waitsOf, 1, 0)), ((2, 86), (mX2_findAllWaits, 0, 0)), ((2, 90), (mX2_passSlot, 0, 0)), ((2, 94), (mX2_areDone, 1, 0)), ((2, 98), (mX2_isStuck, 0, 0)), ((2, 102), (mX2_runnerInSlotOf, 1, 0)), ((2, 105), (mX2_account, 2, 0)), ((2, 109), (mX2_runNextOf, 1, 0)), ((2, 113), (mX2_setIn, 1, 0)), ((2, 116), (mX2_lentPriority, 2, 0)), ((2, 123), (mX0_goBack, 1, 0)), ((2, 126), (mX0_addToSum, 1, 0)), ((2, 132), (mX0_receive, 1, 0)), ((2, 135), (mX0_takeMessage, 0, 0)), ((2, 138), (mX2_freeIfHeldBy, 2, 0)), ((3, 34), (mX3_digitHere, 0, 0)), ((3, 41), (mX3_takeCharacter, 1, 0)), ((3, 45), (mX3_takeCommand, 0, 0)), ((3, 49), (mX3_characterAt, 1, 0)), ((3, 55), (mJ0_indexOf_0f7a4, 1, 0)), ((3, 67), (mX3_takeNumber, 2, 0)), ((4, 9), (mX2_init, 0, 2)), ((4, 21), (mX1_init, 0, 2)), ((4, 36), (mX3_init, 0, 4)), ((4, 41), (mX4_isContext, 1, 1)), ((4, 45), (mX4_isCommand, 2, 1)), ((4, 59), (mX1_record, 1, 0)), ((4, 63), (mX0_append, 2, 0)), ((4, 67), (mX3_findFault, 0, 0)), ((4, 74), (mX0_load, 1, 0)), ((4, 81), (mX4_isPriority, 1, 1)), ((4, 90), (mX0_receive, 1, 0)), ((4, 94), (mX4_isLock, 1, 1)), ((4, 101), (mX4_isStep, 1, 1)), ((4, 108), (mX2_passSlots, 1, 0)), ((4, 113), (mX2_passUntilDone, 1, 0)), ((4, 122), (mX2_findAllWaits, 0, 0)), ((4, 126), (mX2_lentPriority, 2, 0)), ((4, 133), (mX2_stateOf, 1, 0)), ((4, 136), (mX2_waitsOf, 1, 0)), ((4, 139), (mX2_ringSet, 0, 0)), ((4, 142), (mX4_has, 2, 1)), ((4, 160), (mX2_setIn, 1, 0)), ((4, 163), (mJ6_bitCount_0f7a4, 1, 1)), ((4, 168), (mX2_isStuck, 0, 0)), ((4, 178), (mX4_tryNow, 0, 0)), ((4, 182), (mX2_passSlot, 0, 0)), ((4, 188), (mX2_areDone, 1, 0)), ((4, 191), (mX3_charactersIn, 1, 1)), ((4, 195), (mX3_append, 2, 0)), ((4, 198), (mX1_takeBack, 1, 0)), ((4, 201), (mX4_isSave, 1, 1)), ((4, 204), (mX2_copyFrom, 1, 0)), ((5, 42), (mX5_in, 3, 1)), ((5, 49), (mX5_get, 2, 0)), ((5, 53), (mX5_isDone, 1, 0)), ((5, 57), (mX5_commandOf, 2, 0)), ((5, 60), (mX5_argumentOf, 2, 0)), ((5, 63), (mX5_stateOf, 1, 0)), ((5, 67), (mX5_sendsTo, 2, 0)), ((5, 71), (mX5_waitsFor, 1, 0)), ((5, 74), (mX5_laysWaits, 0, 0)), ((5, 77), (mX5_inState, 1, 0)), ((5, 80), (mX5_lay, 3, 0)), ((5, 84), (mX5_goesBack, 2, 0)), ((5, 88), (mX5_receives, 2, 0)), ((5, 91), (mX5_takes, 1, 0)), ((5, 95), (mX5_lent, 1, 0)), ((5, 98), (mX5_wakes, 0, 0)), ((5, 101), (mX5_runner, 1, 0)), ((5, 104), (mX5_runs, 1, 0)), ((5, 107), (mX5_isContext, 1, 1)), ((5, 110), (mX5_isArgument, 2, 1)), ((5, 113), (mX5_records, 0, 0)), ((5, 116), (mX5_adds, 3, 0)), ((5, 120), (mX5_slot, 0, 0)), ((5, 125), (mX5_isStuck, 0, 0)), ((5, 129), (mX5_putAside, 0, 0)), ((5, 132), (mX5_takeBack, 0, 0)), ((5, 135), (mX5_count1, 1, 1)), ((5, 138), (mX5_rings, 0, 0)), ((5, 141), (mX5_sumOver, 1, 0)), ((5, 144), (mX5_next, 0, 0)), ((5, 150), (mX5_until, 1, 0)), ((5, 162), (mX5_sign, 0, 0)), ((5, 165), (mX5_takesSign, 2, 0)), ((5, 168), (mX5_commandBy, 1, 1)), ((5, 171), (mX5_number, 0, 0)), ((5, 174), (mX5_numberOfBack, 0, 0)), ((5, 183), (mX5_readsCommand, 0, 0)), ((5, 186), (mX5_reads, 0, 0)), ((6, 9), (mX4_init, 0, 2)), ((6, 12), (mX5_init, 0, 2)), ((6, 13), (mX4_add, 3, 0)), ((6, 17), (mX5_add, 3, 0)), ((6, 18), (mX4_read, 0, 0)), ((6, 22), (mX5_read, 0, 0)), ((6, 23), (mX4_prefer, 2, 0)), ((6, 27), (mX5_prefer, 2, 0)), ((6, 28), (mX4_post, 2, 0)), ((6, 31), (mX5_post, 2, 0)), ((6, 32), (mX4_release, 1, 0)), ((6, 36), (mX5_release, 1, 0)), ((6, 37), (mX4_step, 1, 0)), ((6, 40), (mX5_step, 1, 0)), ((6, 41), (mX4_run, 0, 0)), ((6, 44), (mX5_run, 0, 0)), ((6, 45), (mX4_of, 2, 0)), ((6, 48), (mX5_of, 2, 0)), ((6, 49), (mX4_command, 3, 0)), ((6, 52), (mX5_command, 3, 0)), ((6, 53), (mX4_inbox, 2, 0)), ((6, 56), (mX5_inbox, 2, 0)), ((6, 57), (mX4_holder, 1, 0)), ((6, 60), (mX5_holder, 1, 0)), ((6, 61), (mX4_count, 1, 0)), ((6, 64), (mX5_count, 1, 0)), ((6, 65), (mX4_slotsLeft, 0, 0)), ((6, 68), (mX5_slotsLeft, 0, 0)), ((6, 69), (mX4_leftIf, 3, 0)), ((6, 72), (mX5_leftIf, 3, 0)), ((6, 73), (mX4_sumBehind, 2, 0)), ((6, 76), (mX5_sumBehind, 2, 0)), ((6, 79), (mX4_put, 1, 0)), ((6, 83), (mX5_put, 1, 0)), ((6, 84), (mX4_wipe, 0, 0)), ((6, 87), (mX5_wipe, 0, 0)), ((6, 88), (mX4_fault, 0, 0)), ((6, 91), (mX5_fault, 0, 0)), ((6, 92), (mX4_undo, 0, 0)), ((6, 95), (mX5_undo, 0, 0)), ((6, 96), (mX4_save, 1, 0)), ((6, 99), (mX5_save, 1, 0)), ((6, 100), (mX4_restore, 1, 0)), ((6, 103), (mX5_restore, 1, 0)), ((7, 335), (mJ0_coder_7d493, 0, 0)), ((7, 492), (mJ0_isLatin1_aae02, 0, 0)), ((7, 505), (mJ0_length_8abf5, 0, 0)), ((7, 633), (mJ0_indexOf_7cf53, 2, 0)), ((7, 637), (mJ1_indexOf_4cfef, 4, 1)), ((8, 88), (mJ1_canEncode_9a6ad, 1, 1)), ((8, 95), (mJ1_indexOfChar_4cfef, 4, 1))]
def xIt : List ((Nat × Nat) × Int32) := [((4, 107), 100000), ((4, 112), 99000), ((5, 119), 100000), ((5, 124), 99000), ((10, 265), 1431655765), ((10, 266), 858993459), ((10, 267), 252645135)]
def xJt : List ((Nat × Nat) × Int64) := [((3, 22), 255), ((5, 153), 255), ((6, 77), 4294967295)]
def xKt : List ((Nat × Nat) × Nat) := [((1, 9), 2), ((2, 9), 0), ((4, 7), 2), ((4, 19), 1), ((4, 34), 3), ((6, 7), 4), ((6, 10), 5)]
def xAt : List (Nat × Nat) := [(0, 24), (2, 29)]
def xOt : List (Nat × Nat) := [(4, 1), (2, 3), (0, 3), (1, 3), (3, 3), (5, 1)]
def xMt : List ((Nat × Nat) × Nat) := [((0, 69), 0), ((2, 80), 0), ((8, 38), 1), ((8, 92), 0)]
def xStrKey : Nat × Nat := (3, 53)
end
section
def xown (m : xM) : Nat := m.2.2.2.2.1
def xht (m : xM) : Nat := m.2.2.2.2.2
def xkey (m : xM) (x : Nat) : Nat × Nat := (xown m, x)
/-- the kind of a class's objects, by the class's number -/
def xkdo (o : Nat) : Nat := if o = 7 then 13 else o + 1
def xcall (m y : xM) (n : Nat) (as rest st : List Value) : Option xStep :=
  if n ≤ st.length ∧ xcat rest ≤ 8 ∧ xht y < xht m ∧ (xargs as).length ≤ y.2.2.1 then some (.inr (.inr (y, as, rest))) else none
def xdo (E : Nat × Nat × Nat) (m : xM) (i : Instr) (k pc : Nat) (ls : List (Option Value)) (st : List Value) (S : xSh) (V : xV) : Option xStep :=
  match i with
  | .iconst n => if k = 1 then xgo (pc + 1) ls (.int (Int32.ofInt n) :: st) S V else none
  | .bipush n => if k = 2 then xgo (pc + 2) ls (.int (Int8.ofInt n).toInt32 :: st) S V else none
  | .sipush n => if k = 3 then xgo (pc + 3) ls (.int (Int16.ofInt n).toInt32 :: st) S V else none
  | .lconst n => if k = 1 then xgo (pc + 1) ls (.long (Int64.ofNat (n : Nat)) :: st) S V else none
  | .ldc x => if k = 2 then (match xassoc xIt (xkey m x) with
      | some v => xgo (pc + 2) ls (.int v :: st) S V
      | none => if xkey m x = xStrKey then xgo (pc + 2) ls (.ref E.2.2 :: st) S V else none) else none
  | .ldc_w x => if k = 3 then (match xassoc xIt (xkey m x) with
      | some v => xgo (pc + 3) ls (.int v :: st) S V
      | none => none) else none
  | .ldc2_w x => if k = 3 then (match xassoc xJt (xkey m x) with
      | some v => xgo (pc + 3) ls (.long v :: st) S V
      | none => none) else none
  | .iload_n j => if k = 1 then (match xlocAt ls (j : Nat) with
      | some (.int x) => xgo (pc + 1) ls (.int x :: st) S V
      | _ => none) else none
  | .iload j => if k = 2 then (match xlocAt ls j with
      | some (.int x) => xgo (pc + 2) ls (.int x :: st) S V
      | _ => none) else none
  | .lload_n j => if k = 1 then (match xlocAt ls (j : Nat) with
      | some (.long x) => xgo (pc + 1) ls (.long x :: st) S V
      | _ => none) else none
  | .lload j => if k = 2 then (match xlocAt ls j with
      | some (.long x) => xgo (pc + 2) ls (.long x :: st) S V
      | _ => none) else none
  | .aload_n j => if k = 1 then (match xlocAt ls (j : Nat) with
      | some (.ref x) => xgo (pc + 1) ls (.ref x :: st) S V
      | _ => none) else none
  | .aload j => if k = 2 then (match xlocAt ls j with
      | some (.ref x) => xgo (pc + 2) ls (.ref x :: st) S V
      | _ => none) else none
  | .istore_n j => if k = 1 then (match st with
      | .int x :: st => if (j : Nat) < ls.length then xgo (pc + 1) (xst1 ls (j : Nat) (.int x)) st S V else none
      | _ => none) else none
  | .istore j => if k = 2 then (match st with
      | .int x :: st => if j < ls.length then xgo (pc + 2) (xst1 ls j (.int x)) st S V else none
      | _ => none) else none
  | .lstore_n j => if k = 1 then (match st with
      | .long x :: st => if (j : Nat) + 1 < ls.length then xgo (pc + 1) (xst2 ls (j : Nat) (.long x)) st S V else none
      | _ => none) else none
  | .lstore j => if k = 2 then (match st with
      | .long x :: st => if j + 1 < ls.length then xgo (pc + 2) (xst2 ls j (.long x)) st S V else none
      | _ => none) else none
  | .astore_n j => if k = 1 then (match st with
      | .ref x :: st => if (j : Nat) < ls.length then xgo (pc + 1) (xst1 ls (j : Nat) (.ref x)) st S V else none
      | _ => none) else none
  | .astore j => if k = 2 then (match st with
      | .ref x :: st => if j < ls.length then xgo (pc + 2) (xst1 ls j (.ref x)) st S V else none
      | _ => none) else none
  | .iinc j n => if k = 3 then (match xlocAt ls j with
      | some (.int x) => if j < ls.length then xgo (pc + 3) (xst1 ls j (.int (x + Int32.ofInt n))) st S V else none
      | _ => none) else none
  | .iadd => if k = 1 then (match st with
      | .int y :: .int x :: st => xgo (pc + 1) ls (.int (x + y) :: st) S V
      | _ => none) else none
  | .isub => if k = 1 then (match st with
      | .int y :: .int x :: st => xgo (pc + 1) ls (.int (x - y) :: st) S V
      | _ => none) else none
  | .imul => if k = 1 then (match st with
      | .int y :: .int x :: st => xgo (pc + 1) ls (.int (x * y) :: st) S V
      | _ => none) else none
  | .iand => if k = 1 then (match st with
      | .int y :: .int x :: st => xgo (pc + 1) ls (.int (x &&& y) :: st) S V
      | _ => none) else none
  | .ior => if k = 1 then (match st with
      | .int y :: .int x :: st => xgo (pc + 1) ls (.int (x ||| y) :: st) S V
      | _ => none) else none
  | .ixor => if k = 1 then (match st with
      | .int y :: .int x :: st => xgo (pc + 1) ls (.int (x ^^^ y) :: st) S V
      | _ => none) else none
  | .ishl => if k = 1 then (match st with
      | .int y :: .int x :: st => xgo (pc + 1) ls (.int (x <<< (y &&& 31)) :: st) S V
      | _ => none) else none
  | .ishr => if k = 1 then (match st with
      | .int y :: .int x :: st => xgo (pc + 1) ls (.int (x >>> (y &&& 31)) :: st) S V
      | _ => none) else none
  | .iushr => if k = 1 then (match st with
      | .int y :: .int x :: st => xgo (pc + 1) ls (.int (x.toUInt32 >>> (y.toUInt32 &&& Int32.toUInt32 31)).toInt32 :: st) S V
      | _ => none) else none
  | .irem => if k = 1 then (match st with
      | .int y :: .int x :: st => if y = 0 then none else xgo (pc + 1) ls (.int (x - x / y * y) :: st) S V
      | _ => none) else none
  | .land => if k = 1 then (match st with
      | .long y :: .long x :: st => xgo (pc + 1) ls (.long (x &&& y) :: st) S V
      | _ => none) else none
  | .lor => if k = 1 then (match st with
      | .long y :: .long x :: st => xgo (pc + 1) ls (.long (x ||| y) :: st) S V
      | _ => none) else none
  | .lshl => if k = 1 then (match st with
      | .int y :: .long x :: st => xgo (pc + 1) ls (.long (x <<< (y.toInt64 &&& 63)) :: st) S V
      | _ => none) else none
  | .lushr => if k = 1 then (match st with
      | .int y :: .long x :: st => xgo (pc + 1) ls (.long (x.toUInt64 >>> (y.toInt64.toUInt64 &&& Int64.toUInt64 63)).toInt64 :: st) S V
      | _ => none) else none
  | .lcmp => if k = 1 then (match st with
      | .long y :: .long x :: st => xgo (pc + 1) ls (.int (lg_cmp x y) :: st) S V
      | _ => none) else none
  | .i2l => if k = 1 then (match st with
      | .int x :: st => xgo (pc + 1) ls (.long x.toInt64 :: st) S V
      | _ => none) else none
  | .l2i => if k = 1 then (match st with
      | .long x :: st => xgo (pc + 1) ls (.int x.toInt32 :: st) S V
      | _ => none) else none
  | .i2c => if k = 1 then (match st with
      | .int x :: st => xgo (pc + 1) ls (.int (x.toUInt32 % 65536).toInt32 :: st) S V
      | _ => none) else none
  | .i2b => if k = 1 then (match st with
      | .int x :: st => xgo (pc + 1) ls (.int x.toInt8.toInt32 :: st) S V
      | _ => none) else none
  | .dup => if k = 1 then (match st with
      | v :: st => if v.category = 1 then xgo (pc + 1) ls (v :: v :: st) S V else none
      | _ => none) else none
  | .dup2 => if k = 1 then (match st with
      | v :: w :: st => if v.category = 1 ∧ w.category = 1 then xgo (pc + 1) ls (v :: w :: v :: w :: st) S V else none
      | _ => none) else none
  | .pop => if k = 1 then (match st with
      | v :: st => if v.category = 1 then xgo (pc + 1) ls st S V else none
      | _ => none) else none
  | .ifCond c off => if k = 3 then (match st with
      | .int x :: st => if xcb c x 0 = true then xoff pc off ls st S V else xgo (pc + 3) ls st S V
      | _ => none) else none
  | .if_icmp c off => if k = 3 then (match st with
      | .int y :: .int x :: st => if xcb c x y = true then xoff pc off ls st S V else xgo (pc + 3) ls st S V
      | _ => none) else none
  | .goto off => if k = 3 then xoff pc off ls st S V else none
  | .tableswitch d lo hi offs => match st with
      | .int x :: st => if x.toInt < lo ∨ hi < x.toInt then xoff pc d ls st S V else (match offs[(x.toInt - lo).toNat]? with
        | some off => xoff pc off ls st S V
        | none => none)
      | _ => none
  | .lookupswitch d ps => match st with
      | .int x :: st => if (ps.toList.zip (ps.toList.drop 1)).all (fun (a, next) => a.1 < next.1) = true then xoff pc (Op.lookupswitch.offset ps.toList d x.toInt) ls st S V else none
      | _ => none
  | .getfield x => if k = 3 then (match st with
      | .ref a :: st => (match xassoc xFt (xkey m x) with
        | some (kd, j) => if xkd S a = kd then xgo (pc + 3) ls ((if xisR kd j = true then va_rf (xrf S a j) else .int (V a j)) :: st) S V else none
        | none => none)
      | _ => none) else none
  | .putfield x => if k = 3 then (match xassoc xFt (xkey m x) with
      | some (kd, j) => (match st with
        | .int v :: .ref a :: st => if xkd S a = kd ∧ kd ≤ 6 ∧ xisR kd j = false ∧ (xisZ kd j = true → v = 0 ∨ v = 1) then xgo (pc + 3) ls st S (xup V a j v) else none
        | .ref v :: .ref a :: st => if xkd S a = kd ∧ kd ≤ 6 ∧ xisR kd j = true ∧ m.1.name = "<init>" ∧ xown m + 1 = kd then xgo (pc + 3) ls st (xsetr S a j (some v)) V else none
        | _ => none)
      | none => none) else none
  | .getstatic x => if k = 3 then (match xassoc xSt (xkey m x) with
      | some 0 => xgo (pc + 3) ls (.ref E.1 :: st) S V
      | some 1 => xgo (pc + 3) ls (.ref E.2.1 :: st) S V
      | some 2 => xgo (pc + 3) ls (.int 1 :: st) S V
      | _ => none) else none
  | .iaload => if k = 1 then (match st with
      | .int j :: .ref a :: st => if (xkd S a = 7 ∨ xkd S a = 14) ∧ ¬ (j < 0 ∨ xln S a ≤ j.toNatClampNeg) then xgo (pc + 1) ls (.int (V a j.toNatClampNeg) :: st) S V else none
      | _ => none) else none
  | .baload => if k = 1 then (match st with
      | .int j :: .ref a :: st => if (xkd S a = 9 ∨ xkd S a = 12) ∧ ¬ (j < 0 ∨ xln S a ≤ j.toNatClampNeg) then xgo (pc + 1) ls (.int (V a j.toNatClampNeg) :: st) S V else none
      | _ => none) else none
  | .caload => if k = 1 then (match st with
      | .int j :: .ref a :: st => if xkd S a = 8 ∧ ¬ (j < 0 ∨ xln S a ≤ j.toNatClampNeg) then xgo (pc + 1) ls (.int (V a j.toNatClampNeg) :: st) S V else none
      | _ => none) else none
  | .aaload => if k = 1 then (match st with
      | .int j :: .ref a :: st => if (xkd S a = 10 ∨ xkd S a = 11) ∧ ¬ (j < 0 ∨ xln S a ≤ j.toNatClampNeg) then xgo (pc + 1) ls (va_rf (xrf S a j.toNatClampNeg) :: st) S V else none
      | _ => none) else none
  | .iastore => if k = 1 then (match st with
      | .int v :: .int j :: .ref a :: st => if xkd S a = 7 ∧ ¬ (j < 0 ∨ xln S a ≤ j.toNatClampNeg) then xgo (pc + 1) ls st S (xup V a j.toNatClampNeg v) else none
      | _ => none) else none
  | .bastore => if k = 1 then (match st with
      | .int v :: .int j :: .ref a :: st => if xkd S a = 9 ∧ ¬ (j < 0 ∨ xln S a ≤ j.toNatClampNeg) then xgo (pc + 1) ls st S (xup V a j.toNatClampNeg (vp_nar .boolean v)) else none
      | _ => none) else none
  | .castore => if k = 1 then (match st with
      | .int v :: .int j :: .ref a :: st => if xkd S a = 8 ∧ ¬ (j < 0 ∨ xln S a ≤ j.toNatClampNeg) then xgo (pc + 1) ls st S (xup V a j.toNatClampNeg (vp_nar .char v)) else none
      | _ => none) else none
  | .aastore => if k = 1 then (match st with
      | .ref v :: .int j :: .ref a :: st => if ((xkd S a = 10 ∧ xkd S v = 1) ∨ (xkd S a = 11 ∧ xkd S v = 3)) ∧ ¬ (j < 0 ∨ xln S a ≤ j.toNatClampNeg) then xgo (pc + 1) ls st (xsetr S a j.toNatClampNeg (some v)) V else none
      | _ => none) else none
  | .arraylength => if k = 1 then (match st with
      | .ref a :: st => if (7 ≤ xkd S a ∧ xkd S a ≤ 12) ∨ xkd S a = 14 then xgo (pc + 1) ls (.int (Int32.ofNat (xln S a)) :: st) S V else none
      | _ => none) else none
  | .newarray t => if k = 2 then (match st with
      | .int n :: st => if n < 0 then none else if n.toNatClampNeg ≤ 10000 then (match t with
        | .int => xgo (pc + 2) ls (.ref S.2.1 :: st) (xnew S 7 n.toNatClampNeg n.toNatClampNeg) (xrow V S.2.1 (fun _ => 0))
        | .char => xgo (pc + 2) ls (.ref S.2.1 :: st) (xnew S 8 n.toNatClampNeg n.toNatClampNeg) (xrow V S.2.1 (fun _ => 0))
        | .boolean => xgo (pc + 2) ls (.ref S.2.1 :: st) (xnew S 9 n.toNatClampNeg n.toNatClampNeg) (xrow V S.2.1 (fun _ => 0))
        | _ => none) else none
      | _ => none) else none
  | .anewarray x => if k = 3 then (match st with
      | .int n :: st => if n < 0 then none else if n.toNatClampNeg ≤ 10000 then (match xassoc xKt (xkey m x) with
        | some 0 => xgo (pc + 3) ls (.ref S.2.1 :: st) (xnew S 10 n.toNatClampNeg n.toNatClampNeg) (xrow V S.2.1 (fun _ => 0))
        | some 2 => xgo (pc + 3) ls (.ref S.2.1 :: st) (xnew S 11 n.toNatClampNeg n.toNatClampNeg) (xrow V S.2.1 (fun _ => 0))
        | _ => none) else none
      | _ => none) else none
  | .new x => if k = 3 then (match xassoc xKt (xkey m x) with
      | some ci => xgo (pc + 3) ls (.ref S.2.1 :: st) (xnew S (ci + 1) 0 (xN (ci + 1))) (xrow V S.2.1 (fun _ => 0))
      | none => none) else none
  | .ireturn => if k = 1 then (match st with
      | [.int v] => (match m.2.2.2.1 with
        | some ty => if narrow ty (.int v) = .int v then some (.inr (.inl (some (.int v)))) else none
        | none => none)
      | _ => none) else none
  | .areturn => if k = 1 then (match st with
      | [.ref a] => (match m.2.2.2.1 with
        | some (.object _) => some (.inr (.inl (some (.ref a))))
        | some (.array _) => some (.inr (.inl (some (.ref a))))
        | _ => none)
      | _ => none) else none
  | .return_ => if k = 1 then (match st with
      | [] => (match m.2.2.2.1 with
        | none => some (.inr (.inl none))
        | some _ => none)
      | _ => none) else none
  | .invokevirtual x => if k = 3 then (match xassoc xCt (xkey m x) with
      | some (y, n, 0) => (match st.drop n with
        | .ref b :: rest => if xkd S b = xkdo (xown y) then xcall m y n (.ref b :: (st.take n).reverse) rest st else none
        | _ => none)
      | _ => none) else none
  | .invokestatic x => if k = 3 then (match xassoc xCt (xkey m x) with
      | some (y, n, 1) => xcall m y n (st.take n).reverse (st.drop n) st
      | some (y, n, 3) => xcall m y n (st.take n).reverse (st.drop n) st
      | some _ => none
      | none => match xassoc xMt (xkey m x) with
      | some 0 => (match st with
        | .int w :: .int v :: st => if xcat st ≤ 8 ∧ 0 < xht m then xgo (pc + 3) ls (.int (if v < w then w else v) :: st) S V else none
        | _ => none)
      | some 1 => (match st with
        | .int w :: .int v :: st => if xcat st ≤ 8 ∧ 0 < xht m then xgo (pc + 3) ls (.int (if w < v then w else v) :: st) S V else none
        | _ => none)
      | some _ => none
      | none => if xkey m x ∈ xAt then (match st with
        | .int n :: .int dp :: .ref a :: .int sp :: .ref a0 :: st => if xkd S a0 = 7 ∧ xkd S a = 7 ∧ (¬ sp < 0 ∧ ¬ dp < 0 ∧ ¬ n < 0) ∧ sp.toNatClampNeg + n.toNatClampNeg ≤ xln S a0 ∧ dp.toNatClampNeg + n.toNatClampNeg ≤ xln S a ∧ xcat st ≤ 8 ∧ 0 < xht m then
            xgo (pc + 3) ls st S (xrow V a (va_cpy (V a0) (V a) sp.toNatClampNeg dp.toNatClampNeg n.toNatClampNeg)) else none
        | _ => none) else none) else none
  | .invokespecial x => if k = 3 then (match xassoc xCt (xkey m x) with
      | some (y, n, 2) => (match st.drop n with
        | .ref b :: rest => xcall m y n (.ref b :: (st.take n).reverse) rest st
        | _ => none)
      | some (y, n, 4) => (match st.drop n with
        | .ref b :: rest => xcall m y n (.ref b :: (st.take n).reverse) rest st
        | _ => none)
      | some _ => none
      | none => if xkey m x ∈ xOt then (match st with
        | .ref b :: st => if xcat st ≤ 8 ∧ 0 < xht m then xgo (pc + 3) ls st S V else none
        | _ => none) else none) else none
  | _ => none
def xstep (E : Nat × Nat × Nat) (m : xM) (pc : Nat) (ls : List (Option Value)) (st : List Value) (S : xSh) (V : xV) : Option xStep := match decode m.2.1 pc with
  | .ok (i, k) => xdo E m i k pc ls st S V
  | .error _ => none
def xrun (E : Nat × Nat × Nat) : Nat → xM → Nat → List (Option Value) → List Value → xSh → xV → Option (Option Value × xSh × xV)
  | 0, _, _, _, _, _, _ => none
  | n + 1, m, pc, ls, st, S, V => match xstep E m pc ls st S V with
    | none => none
    | some (.inl q) => xrun E n m q.1 q.2.1 q.2.2.1 q.2.2.2.1 q.2.2.2.2
    | some (.inr (.inl v)) => some (v, S, V)
    | some (.inr (.inr q)) => match xrun E n q.1 0 (xlocs q.1.2.2.1 q.2.1) [] S V with
      | none => none
      | some r => xrun E n m (pc + 3) ls (r.1.toList ++ q.2.2) r.2.1 r.2.2
theorem xrun_mono (E : Nat × Nat × Nat) : ∀ (n : Nat) {m : xM} {pc : Nat} {ls : List (Option Value)} {st : List Value} {S : xSh} {V : xV} {r : Option Value × xSh × xV}, xrun E n m pc ls st S V = some r → xrun E (n + 1) m pc ls st S V = some r := by
  intro n
  induction n with
  | zero => intro m pc ls st S V r h; cases h
  | succ n ih =>
    intro m pc ls st S V r h
    rw [xrun] at h ⊢
    cases hs : xstep E m pc ls st S V with
    | none => rw [hs] at h; cases h
    | some q =>
      rw [hs] at h
      obtain q | v | q := q
      · exact ih h
      · exact h
      · dsimp only at h ⊢
        cases hc : xrun E n q.1 0 (xlocs q.1.2.2.1 q.2.1) [] S V with
        | none => rw [hc] at h; cases h
        | some r1 =>
          rw [hc] at h
          rw [ih hc]
          exact ih h
theorem xrun_le (E : Nat × Nat × Nat) {n n' : Nat} (hn : n ≤ n') {m : xM} {pc : Nat} {ls : List (Option Value)} {st : List Value} {S : xSh} {V : xV} {r : Option Value × xSh × xV} (h : xrun E n m pc ls st S V = some r) : xrun E n' m pc ls st S V = some r := by
  induction hn with
  | refl => exact h
  | step _ ih => exact xrun_mono E _ ih
/-- from here the method comes to a return with Q -/
def xX (E : Nat × Nat × Nat) (m : xM) (pc : Nat) (ls : List (Option Value)) (st : List Value) (S : xSh) (V : xV) (Q : Option Value → xSh → xV → Prop) : Prop :=
  ∃ (n : Nat) (r : Option Value × xSh × xV), xrun E n m pc ls st S V = some r ∧ Q r.1 r.2.1 r.2.2
/-- a call of a method -/
def xC (E : Nat × Nat × Nat) (m : xM) (as : List Value) (S : xSh) (V : xV) (Q : Option Value → xSh → xV → Prop) : Prop := xX E m 0 (xlocs m.2.2.1 as) [] S V Q
theorem xX_next {E : Nat × Nat × Nat} {m : xM} {pc pc' : Nat} {ls ls' : List (Option Value)} {st st' : List Value} {S S' : xSh} {V V' : xV} {Q : Option Value → xSh → xV → Prop} (h : xstep E m pc ls st S V = some (.inl (pc', ls', st', S', V'))) :
    xX E m pc ls st S V Q ↔ xX E m pc' ls' st' S' V' Q := by
  constructor
  · rintro ⟨n, r, h1, h2⟩
    cases n with
    | zero => cases h1
    | succ n =>
      rw [xrun, h] at h1
      exact ⟨n, r, h1, h2⟩
  · rintro ⟨n, r, h1, h2⟩
    exact ⟨n + 1, r, by rw [xrun, h]; exact h1, h2⟩
theorem xX_ret {E : Nat × Nat × Nat} {m : xM} {pc : Nat} {ls : List (Option Value)} {st : List Value} {S : xSh} {V : xV} {Q : Option Value → xSh → xV → Prop} {v : Option Value} (h : xstep E m pc ls st S V = some (.inr (.inl v))) :
    xX E m pc ls st S V Q ↔ Q v S V := by
  constructor
  · rintro ⟨n, r, h1, h2⟩
    cases n with
    | zero => cases h1
    | succ n =>
      rw [xrun, h] at h1
      cases h1
      exact h2
  · intro h2
    exact ⟨1, (v, S, V), by rw [xrun, h], h2⟩
theorem xX_call {E : Nat × Nat × Nat} {m : xM} {pc : Nat} {ls : List (Option Value)} {st : List Value} {S : xSh} {V : xV} {Q : Option Value → xSh → xV → Prop} {y : xM} {as rest : List Value} (h : xstep E m pc ls st S V = some (.inr (.inr (y, as, rest)))) :
    xX E m pc ls st S V Q ↔ xC E y as S V (fun v S' V' => xX E m (pc + 3) ls (v.toList ++ rest) S' V' Q) := by
  constructor
  · rintro ⟨n, r, h1, h2⟩
    cases n with
    | zero => cases h1
    | succ n =>
      rw [xrun, h] at h1
      dsimp only at h1
      cases hc : xrun E n y 0 (xlocs y.2.2.1 as) [] S V with
      | none => rw [hc] at h1; cases h1
      | some r1 =>
        rw [hc] at h1
        exact ⟨n, r1, hc, n, r, h1, h2⟩
  · rintro ⟨n1, r1, hc, n2, r, h1, h2⟩
    refine ⟨max n1 n2 + 1, r, ?_, h2⟩
    rw [xrun, h]
    dsimp only
    rw [xrun_le E (Nat.le_max_left n1 n2) hc]
    exact xrun_le E (Nat.le_max_right n1 n2) h1
theorem xX_mono {E : Nat × Nat × Nat} {m : xM} {pc : Nat} {ls : List (Option Value)} {st : List Value} {S : xSh} {V : xV} {Q Q' : Option Value → xSh → xV → Prop} (h : xX E m pc ls st S V Q) (hq : ∀ v S' V', Q v S' V' → Q' v S' V') : xX E m pc ls st S V Q' := by
  obtain ⟨n, r, h1, h2⟩ := h
  exact ⟨n, r, h1, hq _ _ _ h2⟩
end
section
/-! ===== the printed words behind the tables, by program ===== -/
def xws0 : List Cond := lw_tbl.filter goodWord
theorem xws0_of {i : Nat} {w : Cond} (h : lw_tbl[i]? = some w) (hg : goodWord w = true) : w ∈ xws0 := List.mem_filter.mpr ⟨List.mem_of_getElem? h, hg⟩
theorem xws0_good : GoodIn xws0 xws0 := fun w hw => ⟨hw, good_of_word (List.mem_filter.mp hw).2⟩
def xwsOf (y : xM) : List Cond := Cond.code y.1 y.2.1 y.2.2.1 y.2.2.2.1 :: xws0
/-- links of nest mates, which are no words of a method's list -/
def xNw : List Cond := [.methodLinkNest (xcn 2) 24 yX0_init "TurnSlots", .methodLinkNest (xcn 4) 36 yX3_init "TurnSlots", .fieldLinkNest (xcn 3) 61 "TurnSlots" "LEAST_N" "[I" "TurnSlots", .fieldLinkNest (xcn 3) 64 "TurnSlots" "GREATEST_N" "[I" "TurnSlots", .methodLinkNest (xcn 2) 67 yX4_has "TurnSlots", .methodLinkNest (xcn 0) 65 yX4_has "TurnSlots"]
theorem xNw_tbl : ∀ w ∈ xNw, w ∈ lw_tbl := List.forall_mem_cons.mpr ⟨List.mem_of_getElem? (i := 76) (by decide +kernel), List.forall_mem_cons.mpr ⟨List.mem_of_getElem? (i := 181) (by decide +kernel), List.forall_mem_cons.mpr ⟨List.mem_of_getElem? (i := 378) (by decide +kernel), List.forall_mem_cons.mpr ⟨List.mem_of_getElem? (i := 379) (by decide +kernel), List.forall_mem_cons.mpr ⟨List.mem_of_getElem? (i := 441) (by decide +kernel), List.forall_mem_cons.mpr ⟨List.mem_of_getElem? (i := 472) (by decide +kernel), fun _ h => absurd h List.not_mem_nil⟩⟩⟩⟩⟩⟩
theorem xNw_kind : ∀ w ∈ xNw, (∃ a i x h, w = .methodLinkNest a i x h) ∨ (∃ a i b n d h, w = .fieldLinkNest a i b n d h) := List.forall_mem_cons.mpr ⟨Or.inl ⟨_, _, _, _, rfl⟩, List.forall_mem_cons.mpr ⟨Or.inl ⟨_, _, _, _, rfl⟩, List.forall_mem_cons.mpr ⟨Or.inr ⟨_, _, _, _, _, _, rfl⟩, List.forall_mem_cons.mpr ⟨Or.inr ⟨_, _, _, _, _, _, rfl⟩, List.forall_mem_cons.mpr ⟨Or.inl ⟨_, _, _, _, rfl⟩, List.forall_mem_cons.mpr ⟨Or.inl ⟨_, _, _, _, rfl⟩, fun _ h => absurd h List.not_mem_nil⟩⟩⟩⟩⟩⟩
def xFok (e : (Nat × Nat) × (Nat × Nat)) : Prop := ((1 ≤ e.2.1 ∧ e.2.1 ≤ 6) ∨ e.2.1 = 13) ∧ e.2.2 < xN e.2.1 ∧ Cond.fieldLink (xcn e.1.1) e.1.2 (xT e.2.1 e.2.2).1 (xT e.2.1 e.2.2).2.1 (xT e.2.1 e.2.2).2.2.1 ∈ xws0
theorem xFt_ok_0 : xFok (((0, 9), (1, 0))) := ⟨by decide, by decide, xws0_of (i := 80) (by decide +kernel) rfl⟩
theorem xFt_ok_1 : xFok (((0, 15), (1, 1))) := ⟨by decide, by decide, xws0_of (i := 83) (by decide +kernel) rfl⟩
theorem xFt_ok_2 : xFok (((0, 18), (1, 2))) := ⟨by decide, by decide, xws0_of (i := 86) (by decide +kernel) rfl⟩
theorem xFt_ok_3 : xFok (((0, 21), (1, 3))) := ⟨by decide, by decide, xws0_of (i := 88) (by decide +kernel) rfl⟩
theorem xFt_ok_4 : xFok (((0, 30), (1, 4))) := ⟨by decide, by decide, xws0_of (i := 92) (by decide +kernel) rfl⟩
theorem xFt_ok_5 : xFok (((0, 34), (1, 5))) := ⟨by decide, by decide, xws0_of (i := 94) (by decide +kernel) rfl⟩
theorem xFt_ok_6 : xFok (((0, 37), (1, 6))) := ⟨by decide, by decide, xws0_of (i := 96) (by decide +kernel) rfl⟩
theorem xFt_ok_7 : xFok (((0, 40), (1, 7))) := ⟨by decide, by decide, xws0_of (i := 99) (by decide +kernel) rfl⟩
theorem xFt_ok_8 : xFok (((0, 43), (1, 8))) := ⟨by decide, by decide, xws0_of (i := 102) (by decide +kernel) rfl⟩
theorem xFt_ok_9 : xFok (((0, 46), (1, 9))) := ⟨by decide, by decide, xws0_of (i := 105) (by decide +kernel) rfl⟩
theorem xFt_ok_10 : xFok (((0, 49), (1, 10))) := ⟨by decide, by decide, xws0_of (i := 108) (by decide +kernel) rfl⟩
theorem xFt_ok_11 : xFok (((0, 52), (4, 5))) := ⟨by decide, by decide, xws0_of (i := 194) (by decide +kernel) rfl⟩
theorem xFt_ok_12 : xFok (((0, 55), (4, 2))) := ⟨by decide, by decide, xws0_of (i := 189) (by decide +kernel) rfl⟩
theorem xFt_ok_13 : xFok (((0, 56), (4, 3))) := ⟨by decide, by decide, xws0_of (i := 191) (by decide +kernel) rfl⟩
theorem xFt_ok_14 : xFok (((1, 11), (2, 0))) := ⟨by decide, by decide, xws0_of (i := 168) (by decide +kernel) rfl⟩
theorem xFt_ok_15 : xFok (((1, 18), (2, 1))) := ⟨by decide, by decide, xws0_of (i := 169) (by decide +kernel) rfl⟩
theorem xFt_ok_16 : xFok (((1, 22), (2, 2))) := ⟨by decide, by decide, xws0_of (i := 170) (by decide +kernel) rfl⟩
theorem xFt_ok_17 : xFok (((2, 11), (3, 0))) := ⟨by decide, by decide, xws0_of (i := 135) (by decide +kernel) rfl⟩
theorem xFt_ok_18 : xFok (((2, 17), (3, 1))) := ⟨by decide, by decide, xws0_of (i := 137) (by decide +kernel) rfl⟩
theorem xFt_ok_19 : xFok (((2, 21), (3, 2))) := ⟨by decide, by decide, xws0_of (i := 139) (by decide +kernel) rfl⟩
theorem xFt_ok_20 : xFok (((2, 35), (3, 3))) := ⟨by decide, by decide, xws0_of (i := 140) (by decide +kernel) rfl⟩
theorem xFt_ok_21 : xFok (((2, 39), (3, 4))) := ⟨by decide, by decide, xws0_of (i := 142) (by decide +kernel) rfl⟩
theorem xFt_ok_22 : xFok (((2, 42), (3, 5))) := ⟨by decide, by decide, xws0_of (i := 144) (by decide +kernel) rfl⟩
theorem xFt_ok_23 : xFok (((2, 45), (1, 6))) := ⟨by decide, by decide, xws0_of (i := 97) (by decide +kernel) rfl⟩
theorem xFt_ok_24 : xFok (((2, 48), (1, 4))) := ⟨by decide, by decide, xws0_of (i := 93) (by decide +kernel) rfl⟩
theorem xFt_ok_25 : xFok (((2, 51), (1, 10))) := ⟨by decide, by decide, xws0_of (i := 109) (by decide +kernel) rfl⟩
theorem xFt_ok_26 : xFok (((2, 54), (1, 1))) := ⟨by decide, by decide, xws0_of (i := 84) (by decide +kernel) rfl⟩
theorem xFt_ok_27 : xFok (((2, 57), (1, 0))) := ⟨by decide, by decide, xws0_of (i := 81) (by decide +kernel) rfl⟩
theorem xFt_ok_28 : xFok (((2, 60), (1, 9))) := ⟨by decide, by decide, xws0_of (i := 106) (by decide +kernel) rfl⟩
theorem xFt_ok_29 : xFok (((2, 77), (1, 8))) := ⟨by decide, by decide, xws0_of (i := 104) (by decide +kernel) rfl⟩
theorem xFt_ok_30 : xFok (((2, 120), (1, 3))) := ⟨by decide, by decide, xws0_of (i := 90) (by decide +kernel) rfl⟩
theorem xFt_ok_31 : xFok (((2, 129), (1, 7))) := ⟨by decide, by decide, xws0_of (i := 101) (by decide +kernel) rfl⟩
theorem xFt_ok_32 : xFok (((3, 9), (4, 0))) := ⟨by decide, by decide, xws0_of (i := 185) (by decide +kernel) rfl⟩
theorem xFt_ok_33 : xFok (((3, 15), (4, 2))) := ⟨by decide, by decide, xws0_of (i := 188) (by decide +kernel) rfl⟩
theorem xFt_ok_34 : xFok (((3, 19), (4, 3))) := ⟨by decide, by decide, xws0_of (i := 190) (by decide +kernel) rfl⟩
theorem xFt_ok_35 : xFok (((3, 24), (4, 1))) := ⟨by decide, by decide, xws0_of (i := 186) (by decide +kernel) rfl⟩
theorem xFt_ok_36 : xFok (((3, 28), (4, 6))) := ⟨by decide, by decide, xws0_of (i := 196) (by decide +kernel) rfl⟩
theorem xFt_ok_37 : xFok (((3, 31), (4, 5))) := ⟨by decide, by decide, xws0_of (i := 195) (by decide +kernel) rfl⟩
theorem xFt_ok_38 : xFok (((3, 38), (4, 4))) := ⟨by decide, by decide, xws0_of (i := 193) (by decide +kernel) rfl⟩
theorem xFt_ok_39 : xFok (((4, 10), (5, 0))) := ⟨by decide, by decide, xws0_of (i := 214) (by decide +kernel) rfl⟩
theorem xFt_ok_40 : xFok (((4, 16), (5, 1))) := ⟨by decide, by decide, xws0_of (i := 215) (by decide +kernel) rfl⟩
theorem xFt_ok_41 : xFok (((4, 22), (5, 2))) := ⟨by decide, by decide, xws0_of (i := 216) (by decide +kernel) rfl⟩
theorem xFt_ok_42 : xFok (((4, 26), (5, 3))) := ⟨by decide, by decide, xws0_of (i := 217) (by decide +kernel) rfl⟩
theorem xFt_ok_43 : xFok (((4, 30), (5, 4))) := ⟨by decide, by decide, xws0_of (i := 218) (by decide +kernel) rfl⟩
theorem xFt_ok_44 : xFok (((4, 37), (5, 5))) := ⟨by decide, by decide, xws0_of (i := 219) (by decide +kernel) rfl⟩
theorem xFt_ok_45 : xFok (((4, 49), (3, 0))) := ⟨by decide, by decide, xws0_of (i := 136) (by decide +kernel) rfl⟩
theorem xFt_ok_46 : xFok (((4, 53), (1, 4))) := ⟨by decide, by decide, xws0_of (i := 91) (by decide +kernel) rfl⟩
theorem xFt_ok_47 : xFok (((4, 71), (4, 4))) := ⟨by decide, by decide, xws0_of (i := 192) (by decide +kernel) rfl⟩
theorem xFt_ok_48 : xFok (((4, 78), (4, 1))) := ⟨by decide, by decide, xws0_of (i := 187) (by decide +kernel) rfl⟩
theorem xFt_ok_49 : xFok (((4, 84), (1, 8))) := ⟨by decide, by decide, xws0_of (i := 103) (by decide +kernel) rfl⟩
theorem xFt_ok_50 : xFok (((4, 87), (1, 9))) := ⟨by decide, by decide, xws0_of (i := 107) (by decide +kernel) rfl⟩
theorem xFt_ok_51 : xFok (((4, 97), (3, 1))) := ⟨by decide, by decide, xws0_of (i := 138) (by decide +kernel) rfl⟩
theorem xFt_ok_52 : xFok (((4, 104), (3, 3))) := ⟨by decide, by decide, xws0_of (i := 141) (by decide +kernel) rfl⟩
theorem xFt_ok_53 : xFok (((4, 116), (1, 6))) := ⟨by decide, by decide, xws0_of (i := 98) (by decide +kernel) rfl⟩
theorem xFt_ok_54 : xFok (((4, 119), (1, 7))) := ⟨by decide, by decide, xws0_of (i := 100) (by decide +kernel) rfl⟩
theorem xFt_ok_55 : xFok (((4, 130), (1, 10))) := ⟨by decide, by decide, xws0_of (i := 110) (by decide +kernel) rfl⟩
theorem xFt_ok_56 : xFok (((4, 145), (1, 3))) := ⟨by decide, by decide, xws0_of (i := 89) (by decide +kernel) rfl⟩
theorem xFt_ok_57 : xFok (((4, 148), (1, 0))) := ⟨by decide, by decide, xws0_of (i := 82) (by decide +kernel) rfl⟩
theorem xFt_ok_58 : xFok (((4, 151), (1, 1))) := ⟨by decide, by decide, xws0_of (i := 85) (by decide +kernel) rfl⟩
theorem xFt_ok_59 : xFok (((4, 154), (1, 5))) := ⟨by decide, by decide, xws0_of (i := 95) (by decide +kernel) rfl⟩
theorem xFt_ok_60 : xFok (((4, 157), (1, 2))) := ⟨by decide, by decide, xws0_of (i := 87) (by decide +kernel) rfl⟩
theorem xFt_ok_61 : xFok (((4, 172), (3, 4))) := ⟨by decide, by decide, xws0_of (i := 143) (by decide +kernel) rfl⟩
theorem xFt_ok_62 : xFok (((4, 175), (3, 5))) := ⟨by decide, by decide, xws0_of (i := 145) (by decide +kernel) rfl⟩
theorem xFt_ok_63 : xFok (((4, 185), (2, 2))) := ⟨by decide, by decide, xws0_of (i := 171) (by decide +kernel) rfl⟩
theorem xFt_ok_64 : xFok (((5, 7), (6, 1))) := ⟨by decide, by decide, xws0_of (i := 607) (by decide +kernel) rfl⟩
theorem xFt_ok_65 : xFok (((5, 13), (6, 2))) := ⟨by decide, by decide, xws0_of (i := 608) (by decide +kernel) rfl⟩
theorem xFt_ok_66 : xFok (((5, 16), (6, 3))) := ⟨by decide, by decide, xws0_of (i := 609) (by decide +kernel) rfl⟩
theorem xFt_ok_67 : xFok (((5, 19), (6, 5))) := ⟨by decide, by decide, xws0_of (i := 611) (by decide +kernel) rfl⟩
theorem xFt_ok_68 : xFok (((5, 22), (6, 6))) := ⟨by decide, by decide, xws0_of (i := 612) (by decide +kernel) rfl⟩
theorem xFt_ok_69 : xFok (((5, 26), (6, 7))) := ⟨by decide, by decide, xws0_of (i := 613) (by decide +kernel) rfl⟩
theorem xFt_ok_70 : xFok (((5, 29), (6, 9))) := ⟨by decide, by decide, xws0_of (i := 615) (by decide +kernel) rfl⟩
theorem xFt_ok_71 : xFok (((5, 32), (6, 10))) := ⟨by decide, by decide, xws0_of (i := 616) (by decide +kernel) rfl⟩
theorem xFt_ok_72 : xFok (((5, 35), (6, 14))) := ⟨by decide, by decide, xws0_of (i := 620) (by decide +kernel) rfl⟩
theorem xFt_ok_73 : xFok (((5, 38), (6, 0))) := ⟨by decide, by decide, xws0_of (i := 606) (by decide +kernel) rfl⟩
theorem xFt_ok_74 : xFok (((5, 46), (6, 4))) := ⟨by decide, by decide, xws0_of (i := 610) (by decide +kernel) rfl⟩
theorem xFt_ok_75 : xFok (((5, 147), (6, 8))) := ⟨by decide, by decide, xws0_of (i := 614) (by decide +kernel) rfl⟩
theorem xFt_ok_76 : xFok (((5, 155), (6, 11))) := ⟨by decide, by decide, xws0_of (i := 617) (by decide +kernel) rfl⟩
theorem xFt_ok_77 : xFok (((5, 158), (6, 12))) := ⟨by decide, by decide, xws0_of (i := 618) (by decide +kernel) rfl⟩
theorem xFt_ok_78 : xFok (((5, 177), (6, 15))) := ⟨by decide, by decide, xws0_of (i := 621) (by decide +kernel) rfl⟩
theorem xFt_ok_79 : xFok (((5, 180), (6, 13))) := ⟨by decide, by decide, xws0_of (i := 619) (by decide +kernel) rfl⟩
theorem xFt_ok_80 : xFok (((7, 9), (13, 0))) := ⟨by decide, by decide, xws0_of (i := 891) (by decide +kernel) rfl⟩
theorem xFt_ok_81 : xFok (((7, 15), (13, 1))) := ⟨by decide, by decide, xws0_of (i := 890) (by decide +kernel) rfl⟩
set_option maxRecDepth 4000 in
theorem xFt_ok : ∀ e ∈ xFt, xFok e := List.forall_mem_cons.mpr ⟨xFt_ok_0, List.forall_mem_cons.mpr ⟨xFt_ok_1, List.forall_mem_cons.mpr ⟨xFt_ok_2, List.forall_mem_cons.mpr ⟨xFt_ok_3, List.forall_mem_cons.mpr ⟨xFt_ok_4, List.forall_mem_cons.mpr ⟨xFt_ok_5, List.forall_mem_cons.mpr ⟨xFt_ok_6, List.forall_mem_cons.mpr ⟨xFt_ok_7, List.forall_mem_cons.mpr ⟨xFt_ok_8, List.forall_mem_cons.mpr ⟨xFt_ok_9, List.forall_mem_cons.mpr ⟨xFt_ok_10, List.forall_mem_cons.mpr ⟨xFt_ok_11, List.forall_mem_cons.mpr ⟨xFt_ok_12, List.forall_mem_cons.mpr ⟨xFt_ok_13, List.forall_mem_cons.mpr ⟨xFt_ok_14, List.forall_mem_cons.mpr ⟨xFt_ok_15, List.forall_mem_cons.mpr ⟨xFt_ok_16, List.forall_mem_cons.mpr ⟨xFt_ok_17, List.forall_mem_cons.mpr ⟨xFt_ok_18, List.forall_mem_cons.mpr ⟨xFt_ok_19, List.forall_mem_cons.mpr ⟨xFt_ok_20, List.forall_mem_cons.mpr ⟨xFt_ok_21, List.forall_mem_cons.mpr ⟨xFt_ok_22, List.forall_mem_cons.mpr ⟨xFt_ok_23, List.forall_mem_cons.mpr ⟨xFt_ok_24, List.forall_mem_cons.mpr ⟨xFt_ok_25, List.forall_mem_cons.mpr ⟨xFt_ok_26, List.forall_mem_cons.mpr ⟨xFt_ok_27, List.forall_mem_cons.mpr ⟨xFt_ok_28, List.forall_mem_cons.mpr ⟨xFt_ok_29, List.forall_mem_cons.mpr ⟨xFt_ok_30, List.forall_mem_cons.mpr ⟨xFt_ok_31, List.forall_mem_cons.mpr ⟨xFt_ok_32, List.forall_mem_cons.mpr ⟨xFt_ok_33, List.forall_mem_cons.mpr ⟨xFt_ok_34, List.forall_mem_cons.mpr ⟨xFt_ok_35, List.forall_mem_cons.mpr ⟨xFt_ok_36, List.forall_mem_cons.mpr ⟨xFt_ok_37, List.forall_mem_cons.mpr ⟨xFt_ok_38, List.forall_mem_cons.mpr ⟨xFt_ok_39, List.forall_mem_cons.mpr ⟨xFt_ok_40, List.forall_mem_cons.mpr ⟨xFt_ok_41, List.forall_mem_cons.mpr ⟨xFt_ok_42, List.forall_mem_cons.mpr ⟨xFt_ok_43, List.forall_mem_cons.mpr ⟨xFt_ok_44, List.forall_mem_cons.mpr ⟨xFt_ok_45, List.forall_mem_cons.mpr ⟨xFt_ok_46, List.forall_mem_cons.mpr ⟨xFt_ok_47, List.forall_mem_cons.mpr ⟨xFt_ok_48, List.forall_mem_cons.mpr ⟨xFt_ok_49, List.forall_mem_cons.mpr ⟨xFt_ok_50, List.forall_mem_cons.mpr ⟨xFt_ok_51, List.forall_mem_cons.mpr ⟨xFt_ok_52, List.forall_mem_cons.mpr ⟨xFt_ok_53, List.forall_mem_cons.mpr ⟨xFt_ok_54, List.forall_mem_cons.mpr ⟨xFt_ok_55, List.forall_mem_cons.mpr ⟨xFt_ok_56, List.forall_mem_cons.mpr ⟨xFt_ok_57, List.forall_mem_cons.mpr ⟨xFt_ok_58, List.forall_mem_cons.mpr ⟨xFt_ok_59, List.forall_mem_cons.mpr ⟨xFt_ok_60, List.forall_mem_cons.mpr ⟨xFt_ok_61, List.forall_mem_cons.mpr ⟨xFt_ok_62, List.forall_mem_cons.mpr ⟨xFt_ok_63, List.forall_mem_cons.mpr ⟨xFt_ok_64, List.forall_mem_cons.mpr ⟨xFt_ok_65, List.forall_mem_cons.mpr ⟨xFt_ok_66, List.forall_mem_cons.mpr ⟨xFt_ok_67, List.forall_mem_cons.mpr ⟨xFt_ok_68, List.forall_mem_cons.mpr ⟨xFt_ok_69, List.forall_mem_cons.mpr ⟨xFt_ok_70, List.forall_mem_cons.mpr ⟨xFt_ok_71, List.forall_mem_cons.mpr ⟨xFt_ok_72, List.forall_mem_cons.mpr ⟨xFt_ok_73, List.forall_mem_cons.mpr ⟨xFt_ok_74, List.forall_mem_cons.mpr ⟨xFt_ok_75, List.forall_mem_cons.mpr ⟨xFt_ok_76, List.forall_mem_cons.mpr ⟨xFt_ok_77, List.forall_mem_cons.mpr ⟨xFt_ok_78, List.forall_mem_cons.mpr ⟨xFt_ok_79, List.forall_mem_cons.mpr ⟨xFt_ok_80, List.forall_mem_cons.mpr ⟨xFt_ok_81, fun _ h => absurd h List.not_mem_nil⟩⟩⟩⟩⟩⟩⟩⟩⟩⟩⟩⟩⟩⟩⟩⟩⟩⟩⟩⟩⟩⟩⟩⟩⟩⟩⟩⟩⟩⟩⟩⟩⟩⟩⟩⟩⟩⟩⟩⟩⟩⟩⟩⟩⟩⟩⟩⟩⟩⟩⟩⟩⟩⟩⟩⟩⟩⟩⟩⟩⟩⟩⟩⟩⟩⟩⟩⟩⟩⟩⟩⟩⟩⟩⟩⟩⟩⟩⟩⟩⟩⟩
def xSok (e : (Nat × Nat) × Nat) : Prop := (e.2 = 0 → Cond.fieldLink (xcn e.1.1) e.1.2 "TurnSlots" "LEAST_N" "[I" ∈ xws0 ∨ Cond.fieldLinkNest (xcn e.1.1) e.1.2 "TurnSlots" "LEAST_N" "[I" "TurnSlots" ∈ xNw) ∧ (e.2 = 1 → Cond.fieldLink (xcn e.1.1) e.1.2 "TurnSlots" "GREATEST_N" "[I" ∈ xws0 ∨ Cond.fieldLinkNest (xcn e.1.1) e.1.2 "TurnSlots" "GREATEST_N" "[I" "TurnSlots" ∈ xNw) ∧ (e.2 = 2 → Cond.fieldLink (xcn e.1.1) e.1.2 "java/lang/String" "COMPACT_STRINGS" "Z" ∈ xws0)
theorem xSt_ok_0 : xSok (((3, 61), 0)) := ⟨fun _ => Or.inr (List.mem_of_getElem? (i := 2) (by decide +kernel)), fun h => absurd h (by decide), fun h => absurd h (by decide)⟩
theorem xSt_ok_1 : xSok (((3, 64), 1)) := ⟨fun h => absurd h (by decide), fun _ => Or.inr (List.mem_of_getElem? (i := 3) (by decide +kernel)), fun h => absurd h (by decide)⟩
theorem xSt_ok_2 : xSok (((4, 207), 0)) := ⟨fun _ => Or.inl (xws0_of (i := 243) (by decide +kernel) rfl), fun h => absurd h (by decide), fun h => absurd h (by decide)⟩
theorem xSt_ok_3 : xSok (((4, 210), 1)) := ⟨fun h => absurd h (by decide), fun _ => Or.inl (xws0_of (i := 245) (by decide +kernel) rfl), fun h => absurd h (by decide)⟩
theorem xSt_ok_4 : xSok (((7, 38), 2)) := ⟨fun h => absurd h (by decide), fun h => absurd h (by decide), fun _ => xws0_of (i := 304) (by decide +kernel) rfl⟩
set_option maxRecDepth 4000 in
theorem xSt_ok : ∀ e ∈ xSt, xSok e := List.forall_mem_cons.mpr ⟨xSt_ok_0, List.forall_mem_cons.mpr ⟨xSt_ok_1, List.forall_mem_cons.mpr ⟨xSt_ok_2, List.forall_mem_cons.mpr ⟨xSt_ok_3, List.forall_mem_cons.mpr ⟨xSt_ok_4, fun _ h => absurd h List.not_mem_nil⟩⟩⟩⟩⟩
def xIok (e : (Nat × Nat) × Int32) : Prop := Cond.constant (xcn e.1.1) e.1.2 e.2 ∈ xws0
theorem xIt_ok_0 : xIok (((4, 107), 100000)) := xws0_of (i := 419) (by decide +kernel) rfl
theorem xIt_ok_1 : xIok (((4, 112), 99000)) := xws0_of (i := 492) (by decide +kernel) rfl
theorem xIt_ok_2 : xIok (((5, 119), 100000)) := xws0_of (i := 704) (by decide +kernel) rfl
theorem xIt_ok_3 : xIok (((5, 124), 99000)) := xws0_of (i := 765) (by decide +kernel) rfl
theorem xIt_ok_4 : xIok (((10, 265), 1431655765)) := xws0_of (i := 538) (by decide +kernel) rfl
theorem xIt_ok_5 : xIok (((10, 266), 858993459)) := xws0_of (i := 539) (by decide +kernel) rfl
theorem xIt_ok_6 : xIok (((10, 267), 252645135)) := xws0_of (i := 540) (by decide +kernel) rfl
set_option maxRecDepth 4000 in
theorem xIt_ok : ∀ e ∈ xIt, xIok e := List.forall_mem_cons.mpr ⟨xIt_ok_0, List.forall_mem_cons.mpr ⟨xIt_ok_1, List.forall_mem_cons.mpr ⟨xIt_ok_2, List.forall_mem_cons.mpr ⟨xIt_ok_3, List.forall_mem_cons.mpr ⟨xIt_ok_4, List.forall_mem_cons.mpr ⟨xIt_ok_5, List.forall_mem_cons.mpr ⟨xIt_ok_6, fun _ h => absurd h List.not_mem_nil⟩⟩⟩⟩⟩⟩⟩
def xJok (e : (Nat × Nat) × Int64) : Prop := Cond.constantLong (xcn e.1.1) e.1.2 e.2 ∈ xws0
theorem xJt_ok_0 : xJok (((3, 22), 255)) := xws0_of (i := 568) (by decide +kernel) rfl
theorem xJt_ok_1 : xJok (((5, 153), 255)) := xws0_of (i := 837) (by decide +kernel) rfl
theorem xJt_ok_2 : xJok (((6, 77), 4294967295)) := xws0_of (i := 889) (by decide +kernel) rfl
set_option maxRecDepth 4000 in
theorem xJt_ok : ∀ e ∈ xJt, xJok e := List.forall_mem_cons.mpr ⟨xJt_ok_0, List.forall_mem_cons.mpr ⟨xJt_ok_1, List.forall_mem_cons.mpr ⟨xJt_ok_2, fun _ h => absurd h List.not_mem_nil⟩⟩⟩
def xKok (e : (Nat × Nat) × Nat) : Prop := e.2 ≤ 5 ∧ Cond.classLink (xcn e.1.1) e.1.2 (xcn e.2) ∈ xws0
theorem xKt_ok_0 : xKok (((1, 9), 2)) := ⟨by decide, xws0_of (i := 165) (by decide +kernel) rfl⟩
theorem xKt_ok_1 : xKok (((2, 9), 0)) := ⟨by decide, xws0_of (i := 73) (by decide +kernel) rfl⟩
theorem xKt_ok_2 : xKok (((4, 7), 2)) := ⟨by decide, xws0_of (i := 67) (by decide +kernel) rfl⟩
theorem xKt_ok_3 : xKok (((4, 19), 1)) := ⟨by decide, xws0_of (i := 159) (by decide +kernel) rfl⟩
theorem xKt_ok_4 : xKok (((4, 34), 3)) := ⟨by decide, xws0_of (i := 179) (by decide +kernel) rfl⟩
theorem xKt_ok_5 : xKok (((6, 7), 4)) := ⟨by decide, xws0_of (i := 59) (by decide +kernel) rfl⟩
theorem xKt_ok_6 : xKok (((6, 10), 5)) := ⟨by decide, xws0_of (i := 600) (by decide +kernel) rfl⟩
set_option maxRecDepth 4000 in
theorem xKt_ok : ∀ e ∈ xKt, xKok e := List.forall_mem_cons.mpr ⟨xKt_ok_0, List.forall_mem_cons.mpr ⟨xKt_ok_1, List.forall_mem_cons.mpr ⟨xKt_ok_2, List.forall_mem_cons.mpr ⟨xKt_ok_3, List.forall_mem_cons.mpr ⟨xKt_ok_4, List.forall_mem_cons.mpr ⟨xKt_ok_5, List.forall_mem_cons.mpr ⟨xKt_ok_6, fun _ h => absurd h List.not_mem_nil⟩⟩⟩⟩⟩⟩⟩
def xAok (e : Nat × Nat) : Prop := Cond.methodLink (xcn e.1) e.2 arraycopyName ∈ xws0
theorem xAt_ok_0 : xAok ((0, 24)) := xws0_of (i := 259) (by decide +kernel) rfl
theorem xAt_ok_1 : xAok ((2, 29)) := xws0_of (i := 262) (by decide +kernel) rfl
set_option maxRecDepth 4000 in
theorem xAt_ok : ∀ e ∈ xAt, xAok e := List.forall_mem_cons.mpr ⟨xAt_ok_0, List.forall_mem_cons.mpr ⟨xAt_ok_1, fun _ h => absurd h List.not_mem_nil⟩⟩
def xOok (e : Nat × Nat) : Prop := Cond.methodLink (xcn e.1) e.2 objectInit ∈ xws0
theorem xOt_ok_0 : xOok ((4, 1)) := xws0_of (i := 64) (by decide +kernel) rfl
theorem xOt_ok_1 : xOok ((2, 3)) := xws0_of (i := 72) (by decide +kernel) rfl
theorem xOt_ok_2 : xOok ((0, 3)) := xws0_of (i := 79) (by decide +kernel) rfl
theorem xOt_ok_3 : xOok ((1, 3)) := xws0_of (i := 164) (by decide +kernel) rfl
theorem xOt_ok_4 : xOok ((3, 3)) := xws0_of (i := 184) (by decide +kernel) rfl
theorem xOt_ok_5 : xOok ((5, 1)) := xws0_of (i := 605) (by decide +kernel) rfl
set_option maxRecDepth 4000 in
theorem xOt_ok : ∀ e ∈ xOt, xOok e := List.forall_mem_cons.mpr ⟨xOt_ok_0, List.forall_mem_cons.mpr ⟨xOt_ok_1, List.forall_mem_cons.mpr ⟨xOt_ok_2, List.forall_mem_cons.mpr ⟨xOt_ok_3, List.forall_mem_cons.mpr ⟨xOt_ok_4, List.forall_mem_cons.mpr ⟨xOt_ok_5, fun _ h => absurd h List.not_mem_nil⟩⟩⟩⟩⟩⟩
def xXok (e : (Nat × Nat) × Nat) : Prop := (e.2 = 0 → Cond.methodLink (xcn e.1.1) e.1.2 Lib.Math.max.name ∈ xws0) ∧ (e.2 = 1 → Cond.methodLink (xcn e.1.1) e.1.2 Lib.Math.min.name ∈ xws0)
theorem xMt_ok_0 : xXok (((0, 69), 0)) := ⟨fun _ => xws0_of (i := 473) (by decide +kernel) rfl, fun h => absurd h (by decide)⟩
theorem xMt_ok_1 : xXok (((2, 80), 0)) := ⟨fun _ => xws0_of (i := 428) (by decide +kernel) rfl, fun h => absurd h (by decide)⟩
theorem xMt_ok_2 : xXok (((8, 38), 1)) := ⟨fun h => absurd h (by decide), fun _ => xws0_of (i := 323) (by decide +kernel) rfl⟩
theorem xMt_ok_3 : xXok (((8, 92), 0)) := ⟨fun _ => xws0_of (i := 320) (by decide +kernel) rfl, fun h => absurd h (by decide)⟩
set_option maxRecDepth 4000 in
theorem xMt_ok : ∀ e ∈ xMt, xXok e := List.forall_mem_cons.mpr ⟨xMt_ok_0, List.forall_mem_cons.mpr ⟨xMt_ok_1, List.forall_mem_cons.mpr ⟨xMt_ok_2, List.forall_mem_cons.mpr ⟨xMt_ok_3, fun _ h => absurd h List.not_mem_nil⟩⟩⟩⟩
theorem xw_max_s : Cond.static Lib.Math.max.name ∈ xws0 := xws0_of (i := 321) (by decide +kernel) rfl
theorem xw_max_c : Cond.code Lib.Math.max.name Lib.Math.max.code 2 (some .int) ∈ xws0 := xws0_of (i := 322) (by decide +kernel) rfl
theorem xw_min_s : Cond.static Lib.Math.min.name ∈ xws0 := xws0_of (i := 324) (by decide +kernel) rfl
theorem xw_min_c : Cond.code Lib.Math.min.name Lib.Math.min.code 2 (some .int) ∈ xws0 := xws0_of (i := 325) (by decide +kernel) rfl
theorem xw_math : Cond.initialized "java/lang/Math" ∈ xws0 := xws0_of (i := 54) (by decide +kernel) rfl
theorem xw_acNative : Cond.native arraycopyName ∈ xws0 := xws0_of (i := 261) (by decide +kernel) rfl
theorem xw_acStatic : Cond.static arraycopyName ∈ xws0 := xws0_of (i := 260) (by decide +kernel) rfl
theorem xw_acInit : Cond.initialized "java/lang/System" ∈ xws0 := xws0_of (i := 51) (by decide +kernel) rfl
theorem xw_oiInst : Cond.instanceMethod objectInit ∈ xws0 := xws0_of (i := 65) (by decide +kernel) rfl
theorem xw_oiCode : Cond.code objectInit ⟨#[0xb1]⟩ 1 none ∈ xws0 := xws0_of (i := 66) (by decide +kernel) rfl
theorem xw_arr_int : Cond.arrayClass .int ∈ xws0 := xws0_of (i := 134) (by decide +kernel) rfl
theorem xw_arr_boolean : Cond.arrayClass .boolean ∈ xws0 := xws0_of (i := 212) (by decide +kernel) rfl
theorem xw_arr_char : Cond.arrayClass .char ∈ xws0 := xws0_of (i := 213) (by decide +kernel) rfl
theorem xw_inst_0 : Cond.instantiable (xcn 0) (xN 1) ∈ xws0 := xws0_of (i := 75) (by decide +kernel) rfl
theorem xw_ini_0 : Cond.initialized (xcn 0) ∈ xws0 := xws0_of (i := 47) (by decide +kernel) rfl
theorem xw_lay_0 : ∀ w ∈ u_ws (xcn 0) (xT 1) (xN 1), w ∈ xws0 := by
  show ∀ w ∈ [u_lay (xcn 0) (xT 1) 0, u_lay (xcn 0) (xT 1) 1, u_lay (xcn 0) (xT 1) 2, u_lay (xcn 0) (xT 1) 3, u_lay (xcn 0) (xT 1) 4, u_lay (xcn 0) (xT 1) 5, u_lay (xcn 0) (xT 1) 6, u_lay (xcn 0) (xT 1) 7, u_lay (xcn 0) (xT 1) 8, u_lay (xcn 0) (xT 1) 9, u_lay (xcn 0) (xT 1) 10], w ∈ xws0
  exact List.forall_mem_cons.mpr ⟨xws0_of (i := 111) (by decide +kernel) rfl, List.forall_mem_cons.mpr ⟨xws0_of (i := 113) (by decide +kernel) rfl, List.forall_mem_cons.mpr ⟨xws0_of (i := 115) (by decide +kernel) rfl, List.forall_mem_cons.mpr ⟨xws0_of (i := 117) (by decide +kernel) rfl, List.forall_mem_cons.mpr ⟨xws0_of (i := 119) (by decide +kernel) rfl, List.forall_mem_cons.mpr ⟨xws0_of (i := 121) (by decide +kernel) rfl, List.forall_mem_cons.mpr ⟨xws0_of (i := 123) (by decide +kernel) rfl, List.forall_mem_cons.mpr ⟨xws0_of (i := 125) (by decide +kernel) rfl, List.forall_mem_cons.mpr ⟨xws0_of (i := 127) (by decide +kernel) rfl, List.forall_mem_cons.mpr ⟨xws0_of (i := 129) (by decide +kernel) rfl, List.forall_mem_cons.mpr ⟨xws0_of (i := 131) (by decide +kernel) rfl, fun _ h => absurd h List.not_mem_nil⟩⟩⟩⟩⟩⟩⟩⟩⟩⟩⟩
theorem xw_inst_1 : Cond.instantiable (xcn 1) (xN 2) ∈ xws0 := xws0_of (i := 160) (by decide +kernel) rfl
theorem xw_ini_1 : Cond.initialized (xcn 1) ∈ xws0 := xws0_of (i := 48) (by decide +kernel) rfl
theorem xw_lay_1 : ∀ w ∈ u_ws (xcn 1) (xT 2) (xN 2), w ∈ xws0 := by
  show ∀ w ∈ [u_lay (xcn 1) (xT 2) 0, u_lay (xcn 1) (xT 2) 1, u_lay (xcn 1) (xT 2) 2], w ∈ xws0
  exact List.forall_mem_cons.mpr ⟨xws0_of (i := 172) (by decide +kernel) rfl, List.forall_mem_cons.mpr ⟨xws0_of (i := 174) (by decide +kernel) rfl, List.forall_mem_cons.mpr ⟨xws0_of (i := 176) (by decide +kernel) rfl, fun _ h => absurd h List.not_mem_nil⟩⟩⟩
theorem xw_inst_2 : Cond.instantiable (xcn 2) (xN 3) ∈ xws0 := xws0_of (i := 68) (by decide +kernel) rfl
theorem xw_ini_2 : Cond.initialized (xcn 2) ∈ xws0 := xws0_of (i := 46) (by decide +kernel) rfl
theorem xw_lay_2 : ∀ w ∈ u_ws (xcn 2) (xT 3) (xN 3), w ∈ xws0 := by
  show ∀ w ∈ [u_lay (xcn 2) (xT 3) 0, u_lay (xcn 2) (xT 3) 1, u_lay (xcn 2) (xT 3) 2, u_lay (xcn 2) (xT 3) 3, u_lay (xcn 2) (xT 3) 4, u_lay (xcn 2) (xT 3) 5], w ∈ xws0
  exact List.forall_mem_cons.mpr ⟨xws0_of (i := 146) (by decide +kernel) rfl, List.forall_mem_cons.mpr ⟨xws0_of (i := 148) (by decide +kernel) rfl, List.forall_mem_cons.mpr ⟨xws0_of (i := 150) (by decide +kernel) rfl, List.forall_mem_cons.mpr ⟨xws0_of (i := 152) (by decide +kernel) rfl, List.forall_mem_cons.mpr ⟨xws0_of (i := 154) (by decide +kernel) rfl, List.forall_mem_cons.mpr ⟨xws0_of (i := 156) (by decide +kernel) rfl, fun _ h => absurd h List.not_mem_nil⟩⟩⟩⟩⟩⟩
theorem xw_inst_3 : Cond.instantiable (xcn 3) (xN 4) ∈ xws0 := xws0_of (i := 180) (by decide +kernel) rfl
theorem xw_ini_3 : Cond.initialized (xcn 3) ∈ xws0 := xws0_of (i := 49) (by decide +kernel) rfl
theorem xw_lay_3 : ∀ w ∈ u_ws (xcn 3) (xT 4) (xN 4), w ∈ xws0 := by
  show ∀ w ∈ [u_lay (xcn 3) (xT 4) 0, u_lay (xcn 3) (xT 4) 1, u_lay (xcn 3) (xT 4) 2, u_lay (xcn 3) (xT 4) 3, u_lay (xcn 3) (xT 4) 4, u_lay (xcn 3) (xT 4) 5, u_lay (xcn 3) (xT 4) 6], w ∈ xws0
  exact List.forall_mem_cons.mpr ⟨xws0_of (i := 197) (by decide +kernel) rfl, List.forall_mem_cons.mpr ⟨xws0_of (i := 199) (by decide +kernel) rfl, List.forall_mem_cons.mpr ⟨xws0_of (i := 201) (by decide +kernel) rfl, List.forall_mem_cons.mpr ⟨xws0_of (i := 203) (by decide +kernel) rfl, List.forall_mem_cons.mpr ⟨xws0_of (i := 205) (by decide +kernel) rfl, List.forall_mem_cons.mpr ⟨xws0_of (i := 207) (by decide +kernel) rfl, List.forall_mem_cons.mpr ⟨xws0_of (i := 209) (by decide +kernel) rfl, fun _ h => absurd h List.not_mem_nil⟩⟩⟩⟩⟩⟩⟩
theorem xw_inst_4 : Cond.instantiable (xcn 4) (xN 5) ∈ xws0 := xws0_of (i := 60) (by decide +kernel) rfl
theorem xw_ini_4 : Cond.initialized (xcn 4) ∈ xws0 := xws0_of (i := 45) (by decide +kernel) rfl
theorem xw_lay_4 : ∀ w ∈ u_ws (xcn 4) (xT 5) (xN 5), w ∈ xws0 := by
  show ∀ w ∈ [u_lay (xcn 4) (xT 5) 0, u_lay (xcn 4) (xT 5) 1, u_lay (xcn 4) (xT 5) 2, u_lay (xcn 4) (xT 5) 3, u_lay (xcn 4) (xT 5) 4, u_lay (xcn 4) (xT 5) 5], w ∈ xws0
  exact List.forall_mem_cons.mpr ⟨xws0_of (i := 220) (by decide +kernel) rfl, List.forall_mem_cons.mpr ⟨xws0_of (i := 222) (by decide +kernel) rfl, List.forall_mem_cons.mpr ⟨xws0_of (i := 224) (by decide +kernel) rfl, List.forall_mem_cons.mpr ⟨xws0_of (i := 226) (by decide +kernel) rfl, List.forall_mem_cons.mpr ⟨xws0_of (i := 228) (by decide +kernel) rfl, List.forall_mem_cons.mpr ⟨xws0_of (i := 230) (by decide +kernel) rfl, fun _ h => absurd h List.not_mem_nil⟩⟩⟩⟩⟩⟩
theorem xw_inst_5 : Cond.instantiable (xcn 5) (xN 6) ∈ xws0 := xws0_of (i := 601) (by decide +kernel) rfl
theorem xw_ini_5 : Cond.initialized (xcn 5) ∈ xws0 := xws0_of (i := 50) (by decide +kernel) rfl
theorem xw_lay_5 : ∀ w ∈ u_ws (xcn 5) (xT 6) (xN 6), w ∈ xws0 := by
  show ∀ w ∈ [u_lay (xcn 5) (xT 6) 0, u_lay (xcn 5) (xT 6) 1, u_lay (xcn 5) (xT 6) 2, u_lay (xcn 5) (xT 6) 3, u_lay (xcn 5) (xT 6) 4, u_lay (xcn 5) (xT 6) 5, u_lay (xcn 5) (xT 6) 6, u_lay (xcn 5) (xT 6) 7, u_lay (xcn 5) (xT 6) 8, u_lay (xcn 5) (xT 6) 9, u_lay (xcn 5) (xT 6) 10, u_lay (xcn 5) (xT 6) 11, u_lay (xcn 5) (xT 6) 12, u_lay (xcn 5) (xT 6) 13, u_lay (xcn 5) (xT 6) 14, u_lay (xcn 5) (xT 6) 15], w ∈ xws0
  exact List.forall_mem_cons.mpr ⟨xws0_of (i := 622) (by decide +kernel) rfl, List.forall_mem_cons.mpr ⟨xws0_of (i := 624) (by decide +kernel) rfl, List.forall_mem_cons.mpr ⟨xws0_of (i := 626) (by decide +kernel) rfl, List.forall_mem_cons.mpr ⟨xws0_of (i := 628) (by decide +kernel) rfl, List.forall_mem_cons.mpr ⟨xws0_of (i := 630) (by decide +kernel) rfl, List.forall_mem_cons.mpr ⟨xws0_of (i := 632) (by decide +kernel) rfl, List.forall_mem_cons.mpr ⟨xws0_of (i := 634) (by decide +kernel) rfl, List.forall_mem_cons.mpr ⟨xws0_of (i := 636) (by decide +kernel) rfl, List.forall_mem_cons.mpr ⟨xws0_of (i := 638) (by decide +kernel) rfl, List.forall_mem_cons.mpr ⟨xws0_of (i := 640) (by decide +kernel) rfl, List.forall_mem_cons.mpr ⟨xws0_of (i := 642) (by decide +kernel) rfl, List.forall_mem_cons.mpr ⟨xws0_of (i := 644) (by decide +kernel) rfl, List.forall_mem_cons.mpr ⟨xws0_of (i := 646) (by decide +kernel) rfl, List.forall_mem_cons.mpr ⟨xws0_of (i := 648) (by decide +kernel) rfl, List.forall_mem_cons.mpr ⟨xws0_of (i := 650) (by decide +kernel) rfl, List.forall_mem_cons.mpr ⟨xws0_of (i := 652) (by decide +kernel) rfl, fun _ h => absurd h List.not_mem_nil⟩⟩⟩⟩⟩⟩⟩⟩⟩⟩⟩⟩⟩⟩⟩⟩
/-- a method whose code the words hold -/
def xMok (y : xM) : Prop := Cond.code y.1 y.2.1 y.2.2.1 y.2.2.2.1 ∈ xws0 ∧ Cond.initialized y.1.cls ∈ xws0 ∧ (y.1.cls ≠ "java/lang/invoke/MethodHandle" ∧ y.1.cls ≠ "java/lang/invoke/VarHandle") ∧ y.1.cls = xcn (xown y) ∧ y.2.2.1 ≤ 13 ∧ plainName y.1.cls = true
set_option maxRecDepth 100000 in
theorem xMok_mX0_addToSum : xMok mX0_addToSum := ⟨xws0_of (i := 477) rfl rfl, xws0_of (i := 47) (by decide +kernel) rfl, ⟨by decide +kernel, by decide +kernel⟩, rfl, by decide, by decide +kernel⟩
set_option maxRecDepth 100000 in
theorem xMok_mX0_append : xMok mX0_append := ⟨xws0_of (i := 266) rfl rfl, xws0_of (i := 47) (by decide +kernel) rfl, ⟨by decide +kernel, by decide +kernel⟩, rfl, by decide, by decide +kernel⟩
set_option maxRecDepth 100000 in
theorem xMok_mX0_receive : xMok mX0_receive := ⟨xws0_of (i := 404) rfl rfl, xws0_of (i := 47) (by decide +kernel) rfl, ⟨by decide +kernel, by decide +kernel⟩, rfl, by decide, by decide +kernel⟩
set_option maxRecDepth 100000 in
theorem xMok_mX2_account : xMok mX2_account := ⟨xws0_of (i := 463) rfl rfl, xws0_of (i := 46) (by decide +kernel) rfl, ⟨by decide +kernel, by decide +kernel⟩, rfl, by decide, by decide +kernel⟩
set_option maxRecDepth 100000 in
theorem xMok_mX2_freeIfHeldBy : xMok mX2_freeIfHeldBy := ⟨xws0_of (i := 487) rfl rfl, xws0_of (i := 46) (by decide +kernel) rfl, ⟨by decide +kernel, by decide +kernel⟩, rfl, by decide, by decide +kernel⟩
set_option maxRecDepth 100000 in
theorem xMok_mX2_sendersTo : xMok mX2_sendersTo := ⟨xws0_of (i := 455) rfl rfl, xws0_of (i := 46) (by decide +kernel) rfl, ⟨by decide +kernel, by decide +kernel⟩, rfl, by decide, by decide +kernel⟩
set_option maxRecDepth 100000 in
theorem xMok_mX2_stateOf : xMok mX2_stateOf := ⟨xws0_of (i := 440) rfl rfl, xws0_of (i := 46) (by decide +kernel) rfl, ⟨by decide +kernel, by decide +kernel⟩, rfl, by decide, by decide +kernel⟩
set_option maxRecDepth 100000 in
theorem xMok_mX3_append : xMok mX3_append := ⟨xws0_of (i := 572) rfl rfl, xws0_of (i := 49) (by decide +kernel) rfl, ⟨by decide +kernel, by decide +kernel⟩, rfl, by decide, by decide +kernel⟩
set_option maxRecDepth 100000 in
theorem xMok_mX3_characterAt : xMok mX3_characterAt := ⟨xws0_of (i := 282) rfl rfl, xws0_of (i := 49) (by decide +kernel) rfl, ⟨by decide +kernel, by decide +kernel⟩, rfl, by decide, by decide +kernel⟩
set_option maxRecDepth 100000 in
theorem xMok_mX3_charactersIn : xMok mX3_charactersIn := ⟨xws0_of (i := 567) rfl rfl, xws0_of (i := 49) (by decide +kernel) rfl, ⟨by decide +kernel, by decide +kernel⟩, rfl, by decide, by decide +kernel⟩
set_option maxRecDepth 100000 in
theorem xMok_mX4_has : xMok mX4_has := ⟨xws0_of (i := 443) rfl rfl, xws0_of (i := 45) (by decide +kernel) rfl, ⟨by decide +kernel, by decide +kernel⟩, rfl, by decide, by decide +kernel⟩
set_option maxRecDepth 100000 in
theorem xMok_mX4_isCommand : xMok mX4_isCommand := ⟨xws0_of (i := 242) rfl rfl, xws0_of (i := 45) (by decide +kernel) rfl, ⟨by decide +kernel, by decide +kernel⟩, rfl, by decide, by decide +kernel⟩
set_option maxRecDepth 100000 in
theorem xMok_mX4_isContext : xMok mX4_isContext := ⟨xws0_of (i := 239) rfl rfl, xws0_of (i := 45) (by decide +kernel) rfl, ⟨by decide +kernel, by decide +kernel⟩, rfl, by decide, by decide +kernel⟩
set_option maxRecDepth 100000 in
theorem xMok_mX4_isLock : xMok mX4_isLock := ⟨xws0_of (i := 411) rfl rfl, xws0_of (i := 45) (by decide +kernel) rfl, ⟨by decide +kernel, by decide +kernel⟩, rfl, by decide, by decide +kernel⟩
set_option maxRecDepth 100000 in
theorem xMok_mX4_isPriority : xMok mX4_isPriority := ⟨xws0_of (i := 396) rfl rfl, xws0_of (i := 45) (by decide +kernel) rfl, ⟨by decide +kernel, by decide +kernel⟩, rfl, by decide, by decide +kernel⟩
set_option maxRecDepth 100000 in
theorem xMok_mX4_isSave : xMok mX4_isSave := ⟨xws0_of (i := 595) rfl rfl, xws0_of (i := 45) (by decide +kernel) rfl, ⟨by decide +kernel, by decide +kernel⟩, rfl, by decide, by decide +kernel⟩
set_option maxRecDepth 100000 in
theorem xMok_mX4_isStep : xMok mX4_isStep := ⟨xws0_of (i := 418) rfl rfl, xws0_of (i := 45) (by decide +kernel) rfl, ⟨by decide +kernel, by decide +kernel⟩, rfl, by decide, by decide +kernel⟩
set_option maxRecDepth 100000 in
theorem xMok_mX4_wipe : xMok mX4_wipe := ⟨xws0_of (i := 576) rfl rfl, xws0_of (i := 45) (by decide +kernel) rfl, ⟨by decide +kernel, by decide +kernel⟩, rfl, by decide, by decide +kernel⟩
set_option maxRecDepth 100000 in
theorem xMok_mX5_commandBy : xMok mX5_commandBy := ⟨xws0_of (i := 864) rfl rfl, xws0_of (i := 50) (by decide +kernel) rfl, ⟨by decide +kernel, by decide +kernel⟩, rfl, by decide, by decide +kernel⟩
set_option maxRecDepth 100000 in
theorem xMok_mX5_count1 : xMok mX5_count1 := ⟨xws0_of (i := 796) rfl rfl, xws0_of (i := 50) (by decide +kernel) rfl, ⟨by decide +kernel, by decide +kernel⟩, rfl, by decide, by decide +kernel⟩
set_option maxRecDepth 100000 in
theorem xMok_mX5_get : xMok mX5_get := ⟨xws0_of (i := 671) rfl rfl, xws0_of (i := 50) (by decide +kernel) rfl, ⟨by decide +kernel, by decide +kernel⟩, rfl, by decide, by decide +kernel⟩
set_option maxRecDepth 100000 in
theorem xMok_mX5_in : xMok mX5_in := ⟨xws0_of (i := 664) rfl rfl, xws0_of (i := 50) (by decide +kernel) rfl, ⟨by decide +kernel, by decide +kernel⟩, rfl, by decide, by decide +kernel⟩
set_option maxRecDepth 100000 in
theorem xMok_mX5_lay : xMok mX5_lay := ⟨xws0_of (i := 683) rfl rfl, xws0_of (i := 50) (by decide +kernel) rfl, ⟨by decide +kernel, by decide +kernel⟩, rfl, by decide, by decide +kernel⟩
set_option maxRecDepth 100000 in
theorem xMok_mX5_putAside : xMok mX5_putAside := ⟨xws0_of (i := 812) rfl rfl, xws0_of (i := 50) (by decide +kernel) rfl, ⟨by decide +kernel, by decide +kernel⟩, rfl, by decide, by decide +kernel⟩
set_option maxRecDepth 100000 in
theorem xMok_mX5_records : xMok mX5_records := ⟨xws0_of (i := 675) rfl rfl, xws0_of (i := 50) (by decide +kernel) rfl, ⟨by decide +kernel, by decide +kernel⟩, rfl, by decide, by decide +kernel⟩
set_option maxRecDepth 100000 in
theorem xMok_mX5_sign : xMok mX5_sign := ⟨xws0_of (i := 857) rfl rfl, xws0_of (i := 50) (by decide +kernel) rfl, ⟨by decide +kernel, by decide +kernel⟩, rfl, by decide, by decide +kernel⟩
set_option maxRecDepth 100000 in
theorem xMok_mX5_takeBack : xMok mX5_takeBack := ⟨xws0_of (i := 816) rfl rfl, xws0_of (i := 50) (by decide +kernel) rfl, ⟨by decide +kernel, by decide +kernel⟩, rfl, by decide, by decide +kernel⟩
set_option maxRecDepth 100000 in
theorem xMok_mX5_undo : xMok mX5_undo := ⟨xws0_of (i := 880) rfl rfl, xws0_of (i := 50) (by decide +kernel) rfl, ⟨by decide +kernel, by decide +kernel⟩, rfl, by decide, by decide +kernel⟩
set_option maxRecDepth 100000 in
theorem xMok_mX5_wipe : xMok mX5_wipe := ⟨xws0_of (i := 841) rfl rfl, xws0_of (i := 50) (by decide +kernel) rfl, ⟨by decide +kernel, by decide +kernel⟩, rfl, by decide, by decide +kernel⟩
set_option maxRecDepth 100000 in
theorem xMok_mJ0_coder_7d493 : xMok mJ0_coder_7d493 := ⟨xws0_of (i := 313) rfl rfl, xws0_of (i := 52) (by decide +kernel) rfl, ⟨by decide +kernel, by decide +kernel⟩, rfl, by decide, by decide +kernel⟩
set_option maxRecDepth 100000 in
theorem xMok_mJ0_isLatin1_aae02 : xMok mJ0_isLatin1_aae02 := ⟨xws0_of (i := 303) rfl rfl, xws0_of (i := 52) (by decide +kernel) rfl, ⟨by decide +kernel, by decide +kernel⟩, rfl, by decide, by decide +kernel⟩
set_option maxRecDepth 100000 in
theorem xMok_mJ1_canEncode_9a6ad : xMok mJ1_canEncode_9a6ad := ⟨xws0_of (i := 319) rfl rfl, xws0_of (i := 53) (by decide +kernel) rfl, ⟨by decide +kernel, by decide +kernel⟩, rfl, by decide, by decide +kernel⟩
set_option maxRecDepth 100000 in
theorem xMok_mJ1_indexOfChar_4cfef : xMok mJ1_indexOfChar_4cfef := ⟨xws0_of (i := 328) rfl rfl, xws0_of (i := 53) (by decide +kernel) rfl, ⟨by decide +kernel, by decide +kernel⟩, rfl, by decide, by decide +kernel⟩
set_option maxRecDepth 100000 in
theorem xMok_mJ6_bitCount_0f7a4 : xMok mJ6_bitCount_0f7a4 := ⟨xws0_of (i := 537) rfl rfl, xws0_of (i := 58) (by decide +kernel) rfl, ⟨by decide +kernel, by decide +kernel⟩, rfl, by decide, by decide +kernel⟩
set_option maxRecDepth 100000 in
theorem xMok_mX0_init : xMok mX0_init := ⟨xws0_of (i := 78) rfl rfl, xws0_of (i := 47) (by decide +kernel) rfl, ⟨by decide +kernel, by decide +kernel⟩, rfl, by decide, by decide +kernel⟩
set_option maxRecDepth 100000 in
theorem xMok_mX0_copyFrom : xMok mX0_copyFrom := ⟨xws0_of (i := 258) rfl rfl, xws0_of (i := 47) (by decide +kernel) rfl, ⟨by decide +kernel, by decide +kernel⟩, rfl, by decide, by decide +kernel⟩
set_option maxRecDepth 100000 in
theorem xMok_mX0_goBack : xMok mX0_goBack := ⟨xws0_of (i := 471) rfl rfl, xws0_of (i := 47) (by decide +kernel) rfl, ⟨by decide +kernel, by decide +kernel⟩, rfl, by decide, by decide +kernel⟩
set_option maxRecDepth 100000 in
theorem xMok_mX0_load : xMok mX0_load := ⟨xws0_of (i := 387) rfl rfl, xws0_of (i := 47) (by decide +kernel) rfl, ⟨by decide +kernel, by decide +kernel⟩, rfl, by decide, by decide +kernel⟩
set_option maxRecDepth 100000 in
theorem xMok_mX0_takeMessage : xMok mX0_takeMessage := ⟨xws0_of (i := 482) rfl rfl, xws0_of (i := 47) (by decide +kernel) rfl, ⟨by decide +kernel, by decide +kernel⟩, rfl, by decide, by decide +kernel⟩
set_option maxRecDepth 100000 in
theorem xMok_mX2_areDone : xMok mX2_areDone := ⟨xws0_of (i := 500) rfl rfl, xws0_of (i := 46) (by decide +kernel) rfl, ⟨by decide +kernel, by decide +kernel⟩, rfl, by decide, by decide +kernel⟩
set_option maxRecDepth 100000 in
theorem xMok_mX2_isStuck : xMok mX2_isStuck := ⟨xws0_of (i := 504) rfl rfl, xws0_of (i := 46) (by decide +kernel) rfl, ⟨by decide +kernel, by decide +kernel⟩, rfl, by decide, by decide +kernel⟩
set_option maxRecDepth 100000 in
theorem xMok_mX2_lentPriority : xMok mX2_lentPriority := ⟨xws0_of (i := 459) rfl rfl, xws0_of (i := 46) (by decide +kernel) rfl, ⟨by decide +kernel, by decide +kernel⟩, rfl, by decide, by decide +kernel⟩
set_option maxRecDepth 100000 in
theorem xMok_mX2_setIn : xMok mX2_setIn := ⟨xws0_of (i := 436) rfl rfl, xws0_of (i := 46) (by decide +kernel) rfl, ⟨by decide +kernel, by decide +kernel⟩, rfl, by decide, by decide +kernel⟩
set_option maxRecDepth 100000 in
theorem xMok_mX2_waitsOf : xMok mX2_waitsOf := ⟨xws0_of (i := 451) rfl rfl, xws0_of (i := 46) (by decide +kernel) rfl, ⟨by decide +kernel, by decide +kernel⟩, rfl, by decide, by decide +kernel⟩
set_option maxRecDepth 100000 in
theorem xMok_mX3_init : xMok mX3_init := ⟨xws0_of (i := 183) rfl rfl, xws0_of (i := 49) (by decide +kernel) rfl, ⟨by decide +kernel, by decide +kernel⟩, rfl, by decide, by decide +kernel⟩
set_option maxRecDepth 100000 in
theorem xMok_mX3_digitHere : xMok mX3_digitHere := ⟨xws0_of (i := 278) rfl rfl, xws0_of (i := 49) (by decide +kernel) rfl, ⟨by decide +kernel, by decide +kernel⟩, rfl, by decide, by decide +kernel⟩
set_option maxRecDepth 100000 in
theorem xMok_mX3_takeCharacter : xMok mX3_takeCharacter := ⟨xws0_of (i := 286) rfl rfl, xws0_of (i := 49) (by decide +kernel) rfl, ⟨by decide +kernel, by decide +kernel⟩, rfl, by decide, by decide +kernel⟩
set_option maxRecDepth 100000 in
theorem xMok_mX4_command : xMok mX4_command := ⟨xws0_of (i := 521) rfl rfl, xws0_of (i := 45) (by decide +kernel) rfl, ⟨by decide +kernel, by decide +kernel⟩, rfl, by decide, by decide +kernel⟩
set_option maxRecDepth 100000 in
theorem xMok_mX4_holder : xMok mX4_holder := ⟨xws0_of (i := 529) rfl rfl, xws0_of (i := 45) (by decide +kernel) rfl, ⟨by decide +kernel, by decide +kernel⟩, rfl, by decide, by decide +kernel⟩
set_option maxRecDepth 100000 in
theorem xMok_mX4_inbox : xMok mX4_inbox := ⟨xws0_of (i := 525) rfl rfl, xws0_of (i := 45) (by decide +kernel) rfl, ⟨by decide +kernel, by decide +kernel⟩, rfl, by decide, by decide +kernel⟩
set_option maxRecDepth 100000 in
theorem xMok_mX4_put : xMok mX4_put := ⟨xws0_of (i := 564) rfl rfl, xws0_of (i := 45) (by decide +kernel) rfl, ⟨by decide +kernel, by decide +kernel⟩, rfl, by decide, by decide +kernel⟩
set_option maxRecDepth 100000 in
theorem xMok_mX5_init : xMok mX5_init := ⟨xws0_of (i := 604) rfl rfl, xws0_of (i := 50) (by decide +kernel) rfl, ⟨by decide +kernel, by decide +kernel⟩, rfl, by decide, by decide +kernel⟩
set_option maxRecDepth 100000 in
theorem xMok_mX5_adds : xMok mX5_adds := ⟨xws0_of (i := 679) rfl rfl, xws0_of (i := 50) (by decide +kernel) rfl, ⟨by decide +kernel, by decide +kernel⟩, rfl, by decide, by decide +kernel⟩
set_option maxRecDepth 100000 in
theorem xMok_mX5_argumentOf : xMok mX5_argumentOf := ⟨xws0_of (i := 732) rfl rfl, xws0_of (i := 50) (by decide +kernel) rfl, ⟨by decide +kernel, by decide +kernel⟩, rfl, by decide, by decide +kernel⟩
set_option maxRecDepth 100000 in
theorem xMok_mX5_commandOf : xMok mX5_commandOf := ⟨xws0_of (i := 728) rfl rfl, xws0_of (i := 50) (by decide +kernel) rfl, ⟨by decide +kernel, by decide +kernel⟩, rfl, by decide, by decide +kernel⟩
set_option maxRecDepth 100000 in
theorem xMok_mX5_goesBack : xMok mX5_goesBack := ⟨xws0_of (i := 756) rfl rfl, xws0_of (i := 50) (by decide +kernel) rfl, ⟨by decide +kernel, by decide +kernel⟩, rfl, by decide, by decide +kernel⟩
set_option maxRecDepth 100000 in
theorem xMok_mX5_holder : xMok mX5_holder := ⟨xws0_of (i := 789) rfl rfl, xws0_of (i := 50) (by decide +kernel) rfl, ⟨by decide +kernel, by decide +kernel⟩, rfl, by decide, by decide +kernel⟩
set_option maxRecDepth 100000 in
theorem xMok_mX5_isContext : xMok mX5_isContext := ⟨xws0_of (i := 661) rfl rfl, xws0_of (i := 50) (by decide +kernel) rfl, ⟨by decide +kernel, by decide +kernel⟩, rfl, by decide, by decide +kernel⟩
set_option maxRecDepth 100000 in
theorem xMok_mX5_isDone : xMok mX5_isDone := ⟨xws0_of (i := 724) rfl rfl, xws0_of (i := 50) (by decide +kernel) rfl, ⟨by decide +kernel, by decide +kernel⟩, rfl, by decide, by decide +kernel⟩
set_option maxRecDepth 100000 in
theorem xMok_mX5_lent : xMok mX5_lent := ⟨xws0_of (i := 748) rfl rfl, xws0_of (i := 50) (by decide +kernel) rfl, ⟨by decide +kernel, by decide +kernel⟩, rfl, by decide, by decide +kernel⟩
set_option maxRecDepth 100000 in
theorem xMok_mX5_put : xMok mX5_put := ⟨xws0_of (i := 836) rfl rfl, xws0_of (i := 50) (by decide +kernel) rfl, ⟨by decide +kernel, by decide +kernel⟩, rfl, by decide, by decide +kernel⟩
set_option maxRecDepth 100000 in
theorem xMok_mX5_receives : xMok mX5_receives := ⟨xws0_of (i := 695) rfl rfl, xws0_of (i := 50) (by decide +kernel) rfl, ⟨by decide +kernel, by decide +kernel⟩, rfl, by decide, by decide +kernel⟩
set_option maxRecDepth 100000 in
theorem xMok_mX5_release : xMok mX5_release := ⟨xws0_of (i := 699) rfl rfl, xws0_of (i := 50) (by decide +kernel) rfl, ⟨by decide +kernel, by decide +kernel⟩, rfl, by decide, by decide +kernel⟩
set_option maxRecDepth 100000 in
theorem xMok_mX5_restore : xMok mX5_restore := ⟨xws0_of (i := 888) rfl rfl, xws0_of (i := 50) (by decide +kernel) rfl, ⟨by decide +kernel, by decide +kernel⟩, rfl, by decide, by decide +kernel⟩
set_option maxRecDepth 100000 in
theorem xMok_mX5_save : xMok mX5_save := ⟨xws0_of (i := 884) rfl rfl, xws0_of (i := 50) (by decide +kernel) rfl, ⟨by decide +kernel, by decide +kernel⟩, rfl, by decide, by decide +kernel⟩
set_option maxRecDepth 100000 in
theorem xMok_mX5_sumOver : xMok mX5_sumOver := ⟨xws0_of (i := 804) rfl rfl, xws0_of (i := 50) (by decide +kernel) rfl, ⟨by decide +kernel, by decide +kernel⟩, rfl, by decide, by decide +kernel⟩
set_option maxRecDepth 100000 in
theorem xMok_mX5_takes : xMok mX5_takes := ⟨xws0_of (i := 760) rfl rfl, xws0_of (i := 50) (by decide +kernel) rfl, ⟨by decide +kernel, by decide +kernel⟩, rfl, by decide, by decide +kernel⟩
set_option maxRecDepth 100000 in
theorem xMok_mX5_takesSign : xMok mX5_takesSign := ⟨xws0_of (i := 853) rfl rfl, xws0_of (i := 50) (by decide +kernel) rfl, ⟨by decide +kernel, by decide +kernel⟩, rfl, by decide, by decide +kernel⟩
set_option maxRecDepth 100000 in
theorem xMok_mX5_wakes : xMok mX5_wakes := ⟨xws0_of (i := 712) rfl rfl, xws0_of (i := 50) (by decide +kernel) rfl, ⟨by decide +kernel, by decide +kernel⟩, rfl, by decide, by decide +kernel⟩
set_option maxRecDepth 100000 in
theorem xMok_mJ0_length_8abf5 : xMok mJ0_length_8abf5 := ⟨xws0_of (i := 309) rfl rfl, xws0_of (i := 52) (by decide +kernel) rfl, ⟨by decide +kernel, by decide +kernel⟩, rfl, by decide, by decide +kernel⟩
set_option maxRecDepth 100000 in
theorem xMok_mJ1_indexOf_4cfef : xMok mJ1_indexOf_4cfef := ⟨xws0_of (i := 316) rfl rfl, xws0_of (i := 53) (by decide +kernel) rfl, ⟨by decide +kernel, by decide +kernel⟩, rfl, by decide, by decide +kernel⟩
set_option maxRecDepth 100000 in
theorem xMok_mX2_init : xMok mX2_init := ⟨xws0_of (i := 71) rfl rfl, xws0_of (i := 46) (by decide +kernel) rfl, ⟨by decide +kernel, by decide +kernel⟩, rfl, by decide, by decide +kernel⟩
set_option maxRecDepth 100000 in
theorem xMok_mX2_copyFrom : xMok mX2_copyFrom := ⟨xws0_of (i := 254) rfl rfl, xws0_of (i := 46) (by decide +kernel) rfl, ⟨by decide +kernel, by decide +kernel⟩, rfl, by decide, by decide +kernel⟩
set_option maxRecDepth 100000 in
theorem xMok_mX2_findAllWaits : xMok mX2_findAllWaits := ⟨xws0_of (i := 447) rfl rfl, xws0_of (i := 46) (by decide +kernel) rfl, ⟨by decide +kernel, by decide +kernel⟩, rfl, by decide, by decide +kernel⟩
set_option maxRecDepth 100000 in
theorem xMok_mX2_runNextOf : xMok mX2_runNextOf := ⟨xws0_of (i := 467) rfl rfl, xws0_of (i := 46) (by decide +kernel) rfl, ⟨by decide +kernel, by decide +kernel⟩, rfl, by decide, by decide +kernel⟩
set_option maxRecDepth 100000 in
theorem xMok_mX3_takeNumber : xMok mX3_takeNumber := ⟨xws0_of (i := 383) rfl rfl, xws0_of (i := 49) (by decide +kernel) rfl, ⟨by decide +kernel, by decide +kernel⟩, rfl, by decide, by decide +kernel⟩
set_option maxRecDepth 100000 in
theorem xMok_mX5_command : xMok mX5_command := ⟨xws0_of (i := 781) rfl rfl, xws0_of (i := 50) (by decide +kernel) rfl, ⟨by decide +kernel, by decide +kernel⟩, rfl, by decide, by decide +kernel⟩
set_option maxRecDepth 100000 in
theorem xMok_mX5_inbox : xMok mX5_inbox := ⟨xws0_of (i := 785) rfl rfl, xws0_of (i := 50) (by decide +kernel) rfl, ⟨by decide +kernel, by decide +kernel⟩, rfl, by decide, by decide +kernel⟩
set_option maxRecDepth 100000 in
theorem xMok_mX5_isArgument : xMok mX5_isArgument := ⟨xws0_of (i := 667) rfl rfl, xws0_of (i := 50) (by decide +kernel) rfl, ⟨by decide +kernel, by decide +kernel⟩, rfl, by decide, by decide +kernel⟩
set_option maxRecDepth 100000 in
theorem xMok_mX5_number : xMok mX5_number := ⟨xws0_of (i := 868) rfl rfl, xws0_of (i := 50) (by decide +kernel) rfl, ⟨by decide +kernel, by decide +kernel⟩, rfl, by decide, by decide +kernel⟩
set_option maxRecDepth 100000 in
theorem xMok_mX5_numberOfBack : xMok mX5_numberOfBack := ⟨xws0_of (i := 872) rfl rfl, xws0_of (i := 50) (by decide +kernel) rfl, ⟨by decide +kernel, by decide +kernel⟩, rfl, by decide, by decide +kernel⟩
set_option maxRecDepth 100000 in
theorem xMok_mX5_post : xMok mX5_post := ⟨xws0_of (i := 691) rfl rfl, xws0_of (i := 50) (by decide +kernel) rfl, ⟨by decide +kernel, by decide +kernel⟩, rfl, by decide, by decide +kernel⟩
set_option maxRecDepth 100000 in
theorem xMok_mX5_prefer : xMok mX5_prefer := ⟨xws0_of (i := 687) rfl rfl, xws0_of (i := 50) (by decide +kernel) rfl, ⟨by decide +kernel, by decide +kernel⟩, rfl, by decide, by decide +kernel⟩
set_option maxRecDepth 100000 in
theorem xMok_mX5_runs : xMok mX5_runs := ⟨xws0_of (i := 752) rfl rfl, xws0_of (i := 50) (by decide +kernel) rfl, ⟨by decide +kernel, by decide +kernel⟩, rfl, by decide, by decide +kernel⟩
set_option maxRecDepth 100000 in
theorem xMok_mX5_sendsTo : xMok mX5_sendsTo := ⟨xws0_of (i := 744) rfl rfl, xws0_of (i := 50) (by decide +kernel) rfl, ⟨by decide +kernel, by decide +kernel⟩, rfl, by decide, by decide +kernel⟩
set_option maxRecDepth 100000 in
theorem xMok_mX5_stateOf : xMok mX5_stateOf := ⟨xws0_of (i := 720) rfl rfl, xws0_of (i := 50) (by decide +kernel) rfl, ⟨by decide +kernel, by decide +kernel⟩, rfl, by decide, by decide +kernel⟩
set_option maxRecDepth 100000 in
theorem xMok_mJ0_indexOf_7cf53 : xMok mJ0_indexOf_7cf53 := ⟨xws0_of (i := 299) rfl rfl, xws0_of (i := 52) (by decide +kernel) rfl, ⟨by decide +kernel, by decide +kernel⟩, rfl, by decide, by decide +kernel⟩
set_option maxRecDepth 100000 in
theorem xMok_mX1_init : xMok mX1_init := ⟨xws0_of (i := 163) rfl rfl, xws0_of (i := 48) (by decide +kernel) rfl, ⟨by decide +kernel, by decide +kernel⟩, rfl, by decide, by decide +kernel⟩
set_option maxRecDepth 100000 in
theorem xMok_mX1_record : xMok mX1_record := ⟨xws0_of (i := 250) rfl rfl, xws0_of (i := 48) (by decide +kernel) rfl, ⟨by decide +kernel, by decide +kernel⟩, rfl, by decide, by decide +kernel⟩
set_option maxRecDepth 100000 in
theorem xMok_mX1_takeBack : xMok mX1_takeBack := ⟨xws0_of (i := 588) rfl rfl, xws0_of (i := 48) (by decide +kernel) rfl, ⟨by decide +kernel, by decide +kernel⟩, rfl, by decide, by decide +kernel⟩
set_option maxRecDepth 100000 in
theorem xMok_mX2_ringSet : xMok mX2_ringSet := ⟨xws0_of (i := 516) rfl rfl, xws0_of (i := 46) (by decide +kernel) rfl, ⟨by decide +kernel, by decide +kernel⟩, rfl, by decide, by decide +kernel⟩
set_option maxRecDepth 100000 in
theorem xMok_mX2_runnerInSlotOf : xMok mX2_runnerInSlotOf := ⟨xws0_of (i := 432) rfl rfl, xws0_of (i := 46) (by decide +kernel) rfl, ⟨by decide +kernel, by decide +kernel⟩, rfl, by decide, by decide +kernel⟩
set_option maxRecDepth 100000 in
theorem xMok_mX4_save : xMok mX4_save := ⟨xws0_of (i := 592) rfl rfl, xws0_of (i := 45) (by decide +kernel) rfl, ⟨by decide +kernel, by decide +kernel⟩, rfl, by decide, by decide +kernel⟩
set_option maxRecDepth 100000 in
theorem xMok_mX4_tryNow : xMok mX4_tryNow := ⟨xws0_of (i := 545) rfl rfl, xws0_of (i := 45) (by decide +kernel) rfl, ⟨by decide +kernel, by decide +kernel⟩, rfl, by decide, by decide +kernel⟩
set_option maxRecDepth 100000 in
theorem xMok_mX5_add : xMok mX5_add := ⟨xws0_of (i := 658) rfl rfl, xws0_of (i := 50) (by decide +kernel) rfl, ⟨by decide +kernel, by decide +kernel⟩, rfl, by decide, by decide +kernel⟩
set_option maxRecDepth 100000 in
theorem xMok_mX5_inState : xMok mX5_inState := ⟨xws0_of (i := 769) rfl rfl, xws0_of (i := 50) (by decide +kernel) rfl, ⟨by decide +kernel, by decide +kernel⟩, rfl, by decide, by decide +kernel⟩
set_option maxRecDepth 100000 in
theorem xMok_mX5_readsCommand : xMok mX5_readsCommand := ⟨xws0_of (i := 861) rfl rfl, xws0_of (i := 50) (by decide +kernel) rfl, ⟨by decide +kernel, by decide +kernel⟩, rfl, by decide, by decide +kernel⟩
set_option maxRecDepth 100000 in
theorem xMok_mX5_waitsFor : xMok mX5_waitsFor := ⟨xws0_of (i := 740) rfl rfl, xws0_of (i := 50) (by decide +kernel) rfl, ⟨by decide +kernel, by decide +kernel⟩, rfl, by decide, by decide +kernel⟩
set_option maxRecDepth 100000 in
theorem xMok_mJ0_indexOf_0f7a4 : xMok mJ0_indexOf_0f7a4 := ⟨xws0_of (i := 295) rfl rfl, xws0_of (i := 52) (by decide +kernel) rfl, ⟨by decide +kernel, by decide +kernel⟩, rfl, by decide, by decide +kernel⟩
set_option maxRecDepth 100000 in
theorem xMok_mX2_passSlot : xMok mX2_passSlot := ⟨xws0_of (i := 427) rfl rfl, xws0_of (i := 46) (by decide +kernel) rfl, ⟨by decide +kernel, by decide +kernel⟩, rfl, by decide, by decide +kernel⟩
set_option maxRecDepth 100000 in
theorem xMok_mX3_takeCommand : xMok mX3_takeCommand := ⟨xws0_of (i := 290) rfl rfl, xws0_of (i := 49) (by decide +kernel) rfl, ⟨by decide +kernel, by decide +kernel⟩, rfl, by decide, by decide +kernel⟩
set_option maxRecDepth 100000 in
theorem xMok_mX4_init : xMok mX4_init := ⟨xws0_of (i := 63) rfl rfl, xws0_of (i := 45) (by decide +kernel) rfl, ⟨by decide +kernel, by decide +kernel⟩, rfl, by decide, by decide +kernel⟩
set_option maxRecDepth 100000 in
theorem xMok_mX4_add : xMok mX4_add := ⟨xws0_of (i := 236) rfl rfl, xws0_of (i := 45) (by decide +kernel) rfl, ⟨by decide +kernel, by decide +kernel⟩, rfl, by decide, by decide +kernel⟩
set_option maxRecDepth 100000 in
theorem xMok_mX4_of : xMok mX4_of := ⟨xws0_of (i := 508) rfl rfl, xws0_of (i := 45) (by decide +kernel) rfl, ⟨by decide +kernel, by decide +kernel⟩, rfl, by decide, by decide +kernel⟩
set_option maxRecDepth 100000 in
theorem xMok_mX4_post : xMok mX4_post := ⟨xws0_of (i := 400) rfl rfl, xws0_of (i := 45) (by decide +kernel) rfl, ⟨by decide +kernel, by decide +kernel⟩, rfl, by decide, by decide +kernel⟩
set_option maxRecDepth 100000 in
theorem xMok_mX4_prefer : xMok mX4_prefer := ⟨xws0_of (i := 393) rfl rfl, xws0_of (i := 45) (by decide +kernel) rfl, ⟨by decide +kernel, by decide +kernel⟩, rfl, by decide, by decide +kernel⟩
set_option maxRecDepth 100000 in
theorem xMok_mX4_release : xMok mX4_release := ⟨xws0_of (i := 408) rfl rfl, xws0_of (i := 45) (by decide +kernel) rfl, ⟨by decide +kernel, by decide +kernel⟩, rfl, by decide, by decide +kernel⟩
set_option maxRecDepth 100000 in
theorem xMok_mX4_restore : xMok mX4_restore := ⟨xws0_of (i := 599) rfl rfl, xws0_of (i := 45) (by decide +kernel) rfl, ⟨by decide +kernel, by decide +kernel⟩, rfl, by decide, by decide +kernel⟩
set_option maxRecDepth 100000 in
theorem xMok_mX4_undo : xMok mX4_undo := ⟨xws0_of (i := 584) rfl rfl, xws0_of (i := 45) (by decide +kernel) rfl, ⟨by decide +kernel, by decide +kernel⟩, rfl, by decide, by decide +kernel⟩
set_option maxRecDepth 100000 in
theorem xMok_mX5_isStuck : xMok mX5_isStuck := ⟨xws0_of (i := 773) rfl rfl, xws0_of (i := 50) (by decide +kernel) rfl, ⟨by decide +kernel, by decide +kernel⟩, rfl, by decide, by decide +kernel⟩
set_option maxRecDepth 100000 in
theorem xMok_mX5_laysWaits : xMok mX5_laysWaits := ⟨xws0_of (i := 736) rfl rfl, xws0_of (i := 50) (by decide +kernel) rfl, ⟨by decide +kernel, by decide +kernel⟩, rfl, by decide, by decide +kernel⟩
set_option maxRecDepth 100000 in
theorem xMok_mX5_reads : xMok mX5_reads := ⟨xws0_of (i := 849) rfl rfl, xws0_of (i := 50) (by decide +kernel) rfl, ⟨by decide +kernel, by decide +kernel⟩, rfl, by decide, by decide +kernel⟩
set_option maxRecDepth 100000 in
theorem xMok_mX2_passSlots : xMok mX2_passSlots := ⟨xws0_of (i := 423) rfl rfl, xws0_of (i := 46) (by decide +kernel) rfl, ⟨by decide +kernel, by decide +kernel⟩, rfl, by decide, by decide +kernel⟩
set_option maxRecDepth 100000 in
theorem xMok_mX2_passUntilDone : xMok mX2_passUntilDone := ⟨xws0_of (i := 496) rfl rfl, xws0_of (i := 46) (by decide +kernel) rfl, ⟨by decide +kernel, by decide +kernel⟩, rfl, by decide, by decide +kernel⟩
set_option maxRecDepth 100000 in
theorem xMok_mX3_findFault : xMok mX3_findFault := ⟨xws0_of (i := 274) rfl rfl, xws0_of (i := 49) (by decide +kernel) rfl, ⟨by decide +kernel, by decide +kernel⟩, rfl, by decide, by decide +kernel⟩
set_option maxRecDepth 100000 in
theorem xMok_mX4_count : xMok mX4_count := ⟨xws0_of (i := 533) rfl rfl, xws0_of (i := 45) (by decide +kernel) rfl, ⟨by decide +kernel, by decide +kernel⟩, rfl, by decide, by decide +kernel⟩
set_option maxRecDepth 100000 in
theorem xMok_mX5_fault : xMok mX5_fault := ⟨xws0_of (i := 845) rfl rfl, xws0_of (i := 50) (by decide +kernel) rfl, ⟨by decide +kernel, by decide +kernel⟩, rfl, by decide, by decide +kernel⟩
set_option maxRecDepth 100000 in
theorem xMok_mX5_of : xMok mX5_of := ⟨xws0_of (i := 777) rfl rfl, xws0_of (i := 50) (by decide +kernel) rfl, ⟨by decide +kernel, by decide +kernel⟩, rfl, by decide, by decide +kernel⟩
set_option maxRecDepth 100000 in
theorem xMok_mX5_read : xMok mX5_read := ⟨xws0_of (i := 876) rfl rfl, xws0_of (i := 50) (by decide +kernel) rfl, ⟨by decide +kernel, by decide +kernel⟩, rfl, by decide, by decide +kernel⟩
set_option maxRecDepth 100000 in
theorem xMok_mX5_rings : xMok mX5_rings := ⟨xws0_of (i := 800) rfl rfl, xws0_of (i := 50) (by decide +kernel) rfl, ⟨by decide +kernel, by decide +kernel⟩, rfl, by decide, by decide +kernel⟩
set_option maxRecDepth 100000 in
theorem xMok_mX5_runner : xMok mX5_runner := ⟨xws0_of (i := 716) rfl rfl, xws0_of (i := 50) (by decide +kernel) rfl, ⟨by decide +kernel, by decide +kernel⟩, rfl, by decide, by decide +kernel⟩
set_option maxRecDepth 100000 in
theorem xMok_mX4_fault : xMok mX4_fault := ⟨xws0_of (i := 580) rfl rfl, xws0_of (i := 45) (by decide +kernel) rfl, ⟨by decide +kernel, by decide +kernel⟩, rfl, by decide, by decide +kernel⟩
set_option maxRecDepth 100000 in
theorem xMok_mX4_leftIf : xMok mX4_leftIf := ⟨xws0_of (i := 556) rfl rfl, xws0_of (i := 45) (by decide +kernel) rfl, ⟨by decide +kernel, by decide +kernel⟩, rfl, by decide, by decide +kernel⟩
set_option maxRecDepth 100000 in
theorem xMok_mX4_read : xMok mX4_read := ⟨xws0_of (i := 270) rfl rfl, xws0_of (i := 45) (by decide +kernel) rfl, ⟨by decide +kernel, by decide +kernel⟩, rfl, by decide, by decide +kernel⟩
set_option maxRecDepth 100000 in
theorem xMok_mX4_run : xMok mX4_run := ⟨xws0_of (i := 491) rfl rfl, xws0_of (i := 45) (by decide +kernel) rfl, ⟨by decide +kernel, by decide +kernel⟩, rfl, by decide, by decide +kernel⟩
set_option maxRecDepth 100000 in
theorem xMok_mX4_slotsLeft : xMok mX4_slotsLeft := ⟨xws0_of (i := 551) rfl rfl, xws0_of (i := 45) (by decide +kernel) rfl, ⟨by decide +kernel, by decide +kernel⟩, rfl, by decide, by decide +kernel⟩
set_option maxRecDepth 100000 in
theorem xMok_mX4_step : xMok mX4_step := ⟨xws0_of (i := 415) rfl rfl, xws0_of (i := 45) (by decide +kernel) rfl, ⟨by decide +kernel, by decide +kernel⟩, rfl, by decide, by decide +kernel⟩
set_option maxRecDepth 100000 in
theorem xMok_mX4_sumBehind : xMok mX4_sumBehind := ⟨xws0_of (i := 560) rfl rfl, xws0_of (i := 45) (by decide +kernel) rfl, ⟨by decide +kernel, by decide +kernel⟩, rfl, by decide, by decide +kernel⟩
set_option maxRecDepth 100000 in
theorem xMok_mX5_next : xMok mX5_next := ⟨xws0_of (i := 808) rfl rfl, xws0_of (i := 50) (by decide +kernel) rfl, ⟨by decide +kernel, by decide +kernel⟩, rfl, by decide, by decide +kernel⟩
set_option maxRecDepth 100000 in
theorem xMok_mX5_slot : xMok mX5_slot := ⟨xws0_of (i := 708) rfl rfl, xws0_of (i := 50) (by decide +kernel) rfl, ⟨by decide +kernel, by decide +kernel⟩, rfl, by decide, by decide +kernel⟩
set_option maxRecDepth 100000 in
theorem xMok_mX5_count : xMok mX5_count := ⟨xws0_of (i := 793) rfl rfl, xws0_of (i := 50) (by decide +kernel) rfl, ⟨by decide +kernel, by decide +kernel⟩, rfl, by decide, by decide +kernel⟩
set_option maxRecDepth 100000 in
theorem xMok_mX5_run : xMok mX5_run := ⟨xws0_of (i := 764) rfl rfl, xws0_of (i := 50) (by decide +kernel) rfl, ⟨by decide +kernel, by decide +kernel⟩, rfl, by decide, by decide +kernel⟩
set_option maxRecDepth 100000 in
theorem xMok_mX5_step : xMok mX5_step := ⟨xws0_of (i := 703) rfl rfl, xws0_of (i := 50) (by decide +kernel) rfl, ⟨by decide +kernel, by decide +kernel⟩, rfl, by decide, by decide +kernel⟩
set_option maxRecDepth 100000 in
theorem xMok_mX5_sumBehind : xMok mX5_sumBehind := ⟨xws0_of (i := 832) rfl rfl, xws0_of (i := 50) (by decide +kernel) rfl, ⟨by decide +kernel, by decide +kernel⟩, rfl, by decide, by decide +kernel⟩
set_option maxRecDepth 100000 in
theorem xMok_mX5_until : xMok mX5_until := ⟨xws0_of (i := 824) rfl rfl, xws0_of (i := 50) (by decide +kernel) rfl, ⟨by decide +kernel, by decide +kernel⟩, rfl, by decide, by decide +kernel⟩
set_option maxRecDepth 100000 in
theorem xMok_mX5_leftIf : xMok mX5_leftIf := ⟨xws0_of (i := 828) rfl rfl, xws0_of (i := 50) (by decide +kernel) rfl, ⟨by decide +kernel, by decide +kernel⟩, rfl, by decide, by decide +kernel⟩
set_option maxRecDepth 100000 in
theorem xMok_mX5_slotsLeft : xMok mX5_slotsLeft := ⟨xws0_of (i := 820) rfl rfl, xws0_of (i := 50) (by decide +kernel) rfl, ⟨by decide +kernel, by decide +kernel⟩, rfl, by decide, by decide +kernel⟩
def xCok (e : (Nat × Nat) × (xM × Nat × Nat)) : Prop := xMok e.2.1 ∧ (parseMethodDescriptor e.2.1.1.desc).map (fun d => d.parameters.length) = some e.2.2.1 ∧
  (e.2.2.2 = 0 → Cond.methodLink (xcn e.1.1) e.1.2 e.2.1.1 ∈ xws0 ∧ Cond.instanceMethod e.2.1.1 ∈ xws0 ∧ Cond.selects e.2.1.1.cls e.2.1.1 e.2.1.1 ∈ xws0 ∧ (xown e.2.1 ≤ 5 ∨ xown e.2.1 = 7)) ∧
  (e.2.2.2 = 1 → Cond.methodLink (xcn e.1.1) e.1.2 e.2.1.1 ∈ xws0 ∧ Cond.static e.2.1.1 ∈ xws0) ∧
  (e.2.2.2 = 2 → Cond.methodLink (xcn e.1.1) e.1.2 e.2.1.1 ∈ xws0 ∧ Cond.instanceMethod e.2.1.1 ∈ xws0 ∧ e.2.1.1.name = "<init>" ∧ e.2.1.2.2.2.1 = none) ∧
  (e.2.2.2 = 3 → Cond.methodLinkNest (xcn e.1.1) e.1.2 e.2.1.1 "TurnSlots" ∈ xNw ∧ Cond.static e.2.1.1 ∈ xws0) ∧
  (e.2.2.2 = 4 → Cond.methodLinkNest (xcn e.1.1) e.1.2 e.2.1.1 "TurnSlots" ∈ xNw ∧ Cond.instanceMethod e.2.1.1 ∈ xws0 ∧ e.2.1.1.name = "<init>" ∧ e.2.1.2.2.2.1 = none)
theorem xCt_ok_0 : xCok (((0, 57), (mX0_append, 2, 0))) := ⟨xMok_mX0_append, by decide +kernel, fun _ => ⟨xws0_of (i := 388) (by decide +kernel) rfl, xws0_of (i := 264) (by decide +kernel) rfl, xws0_of (i := 265) (by decide +kernel) rfl, by decide⟩, fun h => absurd h (by decide), fun h => absurd h (by decide), fun h => absurd h (by decide), fun h => absurd h (by decide)⟩
theorem xCt_ok_1 : xCok (((0, 61), (mX0_addToSum, 1, 0))) := ⟨xMok_mX0_addToSum, by decide +kernel, fun _ => ⟨xws0_of (i := 483) (by decide +kernel) rfl, xws0_of (i := 475) (by decide +kernel) rfl, xws0_of (i := 476) (by decide +kernel) rfl, by decide⟩, fun h => absurd h (by decide), fun h => absurd h (by decide), fun h => absurd h (by decide), fun h => absurd h (by decide)⟩
theorem xCt_ok_2 : xCok (((0, 65), (mX4_has, 2, 3))) := ⟨xMok_mX4_has, by decide +kernel, fun h => absurd h (by decide), fun h => absurd h (by decide), fun h => absurd h (by decide), fun _ => ⟨List.mem_of_getElem? (i := 5) (by decide +kernel), xws0_of (i := 442) (by decide +kernel) rfl⟩, fun h => absurd h (by decide)⟩
theorem xCt_ok_3 : xCok (((1, 17), (mX2_init, 0, 2))) := ⟨xMok_mX2_init, by decide +kernel, fun h => absurd h (by decide), fun h => absurd h (by decide), fun _ => ⟨xws0_of (i := 167) (by decide +kernel) rfl, xws0_of (i := 70) (by decide +kernel) rfl, rfl, rfl⟩, fun h => absurd h (by decide), fun h => absurd h (by decide)⟩
theorem xCt_ok_4 : xCok (((1, 25), (mX2_copyFrom, 1, 0))) := ⟨xMok_mX2_copyFrom, by decide +kernel, fun _ => ⟨xws0_of (i := 251) (by decide +kernel) rfl, xws0_of (i := 252) (by decide +kernel) rfl, xws0_of (i := 253) (by decide +kernel) rfl, by decide⟩, fun h => absurd h (by decide), fun h => absurd h (by decide), fun h => absurd h (by decide), fun h => absurd h (by decide)⟩
theorem xCt_ok_5 : xCok (((2, 24), (mX0_init, 0, 4))) := ⟨xMok_mX0_init, by decide +kernel, fun h => absurd h (by decide), fun h => absurd h (by decide), fun h => absurd h (by decide), fun h => absurd h (by decide), fun _ => ⟨List.mem_of_getElem? (i := 0) (by decide +kernel), xws0_of (i := 77) (by decide +kernel) rfl, rfl, rfl⟩⟩
theorem xCt_ok_6 : xCok (((2, 25), (mX0_copyFrom, 1, 0))) := ⟨xMok_mX0_copyFrom, by decide +kernel, fun _ => ⟨xws0_of (i := 255) (by decide +kernel) rfl, xws0_of (i := 256) (by decide +kernel) rfl, xws0_of (i := 257) (by decide +kernel) rfl, by decide⟩, fun h => absurd h (by decide), fun h => absurd h (by decide), fun h => absurd h (by decide), fun h => absurd h (by decide)⟩
theorem xCt_ok_7 : xCok (((2, 63), (mX2_stateOf, 1, 0))) := ⟨xMok_mX2_stateOf, by decide +kernel, fun _ => ⟨xws0_of (i := 437) (by decide +kernel) rfl, xws0_of (i := 438) (by decide +kernel) rfl, xws0_of (i := 439) (by decide +kernel) rfl, by decide⟩, fun h => absurd h (by decide), fun h => absurd h (by decide), fun h => absurd h (by decide), fun h => absurd h (by decide)⟩
theorem xCt_ok_8 : xCok (((2, 67), (mX4_has, 2, 3))) := ⟨xMok_mX4_has, by decide +kernel, fun h => absurd h (by decide), fun h => absurd h (by decide), fun h => absurd h (by decide), fun _ => ⟨List.mem_of_getElem? (i := 4) (by decide +kernel), xws0_of (i := 442) (by decide +kernel) rfl⟩, fun h => absurd h (by decide)⟩
theorem xCt_ok_9 : xCok (((2, 71), (mX2_sendersTo, 1, 0))) := ⟨xMok_mX2_sendersTo, by decide +kernel, fun _ => ⟨xws0_of (i := 452) (by decide +kernel) rfl, xws0_of (i := 454) (by decide +kernel) rfl, xws0_of (i := 6) (by decide +kernel) rfl, by decide⟩, fun h => absurd h (by decide), fun h => absurd h (by decide), fun h => absurd h (by decide), fun h => absurd h (by decide)⟩
theorem xCt_ok_10 : xCok (((2, 74), (mX2_waitsOf, 1, 0))) := ⟨xMok_mX2_waitsOf, by decide +kernel, fun _ => ⟨xws0_of (i := 448) (by decide +kernel) rfl, xws0_of (i := 449) (by decide +kernel) rfl, xws0_of (i := 450) (by decide +kernel) rfl, by decide⟩, fun h => absurd h (by decide), fun h => absurd h (by decide), fun h => absurd h (by decide), fun h => absurd h (by decide)⟩
theorem xCt_ok_11 : xCok (((2, 86), (mX2_findAllWaits, 0, 0))) := ⟨xMok_mX2_findAllWaits, by decide +kernel, fun _ => ⟨xws0_of (i := 444) (by decide +kernel) rfl, xws0_of (i := 445) (by decide +kernel) rfl, xws0_of (i := 446) (by decide +kernel) rfl, by decide⟩, fun h => absurd h (by decide), fun h => absurd h (by decide), fun h => absurd h (by decide), fun h => absurd h (by decide)⟩
theorem xCt_ok_12 : xCok (((2, 90), (mX2_passSlot, 0, 0))) := ⟨xMok_mX2_passSlot, by decide +kernel, fun _ => ⟨xws0_of (i := 424) (by decide +kernel) rfl, xws0_of (i := 425) (by decide +kernel) rfl, xws0_of (i := 426) (by decide +kernel) rfl, by decide⟩, fun h => absurd h (by decide), fun h => absurd h (by decide), fun h => absurd h (by decide), fun h => absurd h (by decide)⟩
theorem xCt_ok_13 : xCok (((2, 94), (mX2_areDone, 1, 0))) := ⟨xMok_mX2_areDone, by decide +kernel, fun _ => ⟨xws0_of (i := 497) (by decide +kernel) rfl, xws0_of (i := 498) (by decide +kernel) rfl, xws0_of (i := 499) (by decide +kernel) rfl, by decide⟩, fun h => absurd h (by decide), fun h => absurd h (by decide), fun h => absurd h (by decide), fun h => absurd h (by decide)⟩
theorem xCt_ok_14 : xCok (((2, 98), (mX2_isStuck, 0, 0))) := ⟨xMok_mX2_isStuck, by decide +kernel, fun _ => ⟨xws0_of (i := 501) (by decide +kernel) rfl, xws0_of (i := 502) (by decide +kernel) rfl, xws0_of (i := 503) (by decide +kernel) rfl, by decide⟩, fun h => absurd h (by decide), fun h => absurd h (by decide), fun h => absurd h (by decide), fun h => absurd h (by decide)⟩
theorem xCt_ok_15 : xCok (((2, 102), (mX2_runnerInSlotOf, 1, 0))) := ⟨xMok_mX2_runnerInSlotOf, by decide +kernel, fun _ => ⟨xws0_of (i := 429) (by decide +kernel) rfl, xws0_of (i := 431) (by decide +kernel) rfl, xws0_of (i := 5) (by decide +kernel) rfl, by decide⟩, fun h => absurd h (by decide), fun h => absurd h (by decide), fun h => absurd h (by decide), fun h => absurd h (by decide)⟩
theorem xCt_ok_16 : xCok (((2, 105), (mX2_account, 2, 0))) := ⟨xMok_mX2_account, by decide +kernel, fun _ => ⟨xws0_of (i := 460) (by decide +kernel) rfl, xws0_of (i := 462) (by decide +kernel) rfl, xws0_of (i := 7) (by decide +kernel) rfl, by decide⟩, fun h => absurd h (by decide), fun h => absurd h (by decide), fun h => absurd h (by decide), fun h => absurd h (by decide)⟩
theorem xCt_ok_17 : xCok (((2, 109), (mX2_runNextOf, 1, 0))) := ⟨xMok_mX2_runNextOf, by decide +kernel, fun _ => ⟨xws0_of (i := 464) (by decide +kernel) rfl, xws0_of (i := 466) (by decide +kernel) rfl, xws0_of (i := 8) (by decide +kernel) rfl, by decide⟩, fun h => absurd h (by decide), fun h => absurd h (by decide), fun h => absurd h (by decide), fun h => absurd h (by decide)⟩
theorem xCt_ok_18 : xCok (((2, 113), (mX2_setIn, 1, 0))) := ⟨xMok_mX2_setIn, by decide +kernel, fun _ => ⟨xws0_of (i := 433) (by decide +kernel) rfl, xws0_of (i := 434) (by decide +kernel) rfl, xws0_of (i := 435) (by decide +kernel) rfl, by decide⟩, fun h => absurd h (by decide), fun h => absurd h (by decide), fun h => absurd h (by decide), fun h => absurd h (by decide)⟩
theorem xCt_ok_19 : xCok (((2, 116), (mX2_lentPriority, 2, 0))) := ⟨xMok_mX2_lentPriority, by decide +kernel, fun _ => ⟨xws0_of (i := 456) (by decide +kernel) rfl, xws0_of (i := 457) (by decide +kernel) rfl, xws0_of (i := 458) (by decide +kernel) rfl, by decide⟩, fun h => absurd h (by decide), fun h => absurd h (by decide), fun h => absurd h (by decide), fun h => absurd h (by decide)⟩
theorem xCt_ok_20 : xCok (((2, 123), (mX0_goBack, 1, 0))) := ⟨xMok_mX0_goBack, by decide +kernel, fun _ => ⟨xws0_of (i := 468) (by decide +kernel) rfl, xws0_of (i := 469) (by decide +kernel) rfl, xws0_of (i := 470) (by decide +kernel) rfl, by decide⟩, fun h => absurd h (by decide), fun h => absurd h (by decide), fun h => absurd h (by decide), fun h => absurd h (by decide)⟩
theorem xCt_ok_21 : xCok (((2, 126), (mX0_addToSum, 1, 0))) := ⟨xMok_mX0_addToSum, by decide +kernel, fun _ => ⟨xws0_of (i := 474) (by decide +kernel) rfl, xws0_of (i := 475) (by decide +kernel) rfl, xws0_of (i := 476) (by decide +kernel) rfl, by decide⟩, fun h => absurd h (by decide), fun h => absurd h (by decide), fun h => absurd h (by decide), fun h => absurd h (by decide)⟩
theorem xCt_ok_22 : xCok (((2, 132), (mX0_receive, 1, 0))) := ⟨xMok_mX0_receive, by decide +kernel, fun _ => ⟨xws0_of (i := 478) (by decide +kernel) rfl, xws0_of (i := 402) (by decide +kernel) rfl, xws0_of (i := 403) (by decide +kernel) rfl, by decide⟩, fun h => absurd h (by decide), fun h => absurd h (by decide), fun h => absurd h (by decide), fun h => absurd h (by decide)⟩
theorem xCt_ok_23 : xCok (((2, 135), (mX0_takeMessage, 0, 0))) := ⟨xMok_mX0_takeMessage, by decide +kernel, fun _ => ⟨xws0_of (i := 479) (by decide +kernel) rfl, xws0_of (i := 480) (by decide +kernel) rfl, xws0_of (i := 481) (by decide +kernel) rfl, by decide⟩, fun h => absurd h (by decide), fun h => absurd h (by decide), fun h => absurd h (by decide), fun h => absurd h (by decide)⟩
theorem xCt_ok_24 : xCok (((2, 138), (mX2_freeIfHeldBy, 2, 0))) := ⟨xMok_mX2_freeIfHeldBy, by decide +kernel, fun _ => ⟨xws0_of (i := 484) (by decide +kernel) rfl, xws0_of (i := 486) (by decide +kernel) rfl, xws0_of (i := 9) (by decide +kernel) rfl, by decide⟩, fun h => absurd h (by decide), fun h => absurd h (by decide), fun h => absurd h (by decide), fun h => absurd h (by decide)⟩
theorem xCt_ok_25 : xCok (((3, 34), (mX3_digitHere, 0, 0))) := ⟨xMok_mX3_digitHere, by decide +kernel, fun _ => ⟨xws0_of (i := 275) (by decide +kernel) rfl, xws0_of (i := 277) (by decide +kernel) rfl, xws0_of (i := 0) (by decide +kernel) rfl, by decide⟩, fun h => absurd h (by decide), fun h => absurd h (by decide), fun h => absurd h (by decide), fun h => absurd h (by decide)⟩
theorem xCt_ok_26 : xCok (((3, 41), (mX3_takeCharacter, 1, 0))) := ⟨xMok_mX3_takeCharacter, by decide +kernel, fun _ => ⟨xws0_of (i := 283) (by decide +kernel) rfl, xws0_of (i := 285) (by decide +kernel) rfl, xws0_of (i := 2) (by decide +kernel) rfl, by decide⟩, fun h => absurd h (by decide), fun h => absurd h (by decide), fun h => absurd h (by decide), fun h => absurd h (by decide)⟩
theorem xCt_ok_27 : xCok (((3, 45), (mX3_takeCommand, 0, 0))) := ⟨xMok_mX3_takeCommand, by decide +kernel, fun _ => ⟨xws0_of (i := 287) (by decide +kernel) rfl, xws0_of (i := 289) (by decide +kernel) rfl, xws0_of (i := 3) (by decide +kernel) rfl, by decide⟩, fun h => absurd h (by decide), fun h => absurd h (by decide), fun h => absurd h (by decide), fun h => absurd h (by decide)⟩
theorem xCt_ok_28 : xCok (((3, 49), (mX3_characterAt, 1, 0))) := ⟨xMok_mX3_characterAt, by decide +kernel, fun _ => ⟨xws0_of (i := 279) (by decide +kernel) rfl, xws0_of (i := 281) (by decide +kernel) rfl, xws0_of (i := 1) (by decide +kernel) rfl, by decide⟩, fun h => absurd h (by decide), fun h => absurd h (by decide), fun h => absurd h (by decide), fun h => absurd h (by decide)⟩
theorem xCt_ok_29 : xCok (((3, 55), (mJ0_indexOf_0f7a4, 1, 0))) := ⟨xMok_mJ0_indexOf_0f7a4, by decide +kernel, fun _ => ⟨xws0_of (i := 292) (by decide +kernel) rfl, xws0_of (i := 293) (by decide +kernel) rfl, xws0_of (i := 294) (by decide +kernel) rfl, by decide⟩, fun h => absurd h (by decide), fun h => absurd h (by decide), fun h => absurd h (by decide), fun h => absurd h (by decide)⟩
theorem xCt_ok_30 : xCok (((3, 67), (mX3_takeNumber, 2, 0))) := ⟨xMok_mX3_takeNumber, by decide +kernel, fun _ => ⟨xws0_of (i := 380) (by decide +kernel) rfl, xws0_of (i := 382) (by decide +kernel) rfl, xws0_of (i := 4) (by decide +kernel) rfl, by decide⟩, fun h => absurd h (by decide), fun h => absurd h (by decide), fun h => absurd h (by decide), fun h => absurd h (by decide)⟩
theorem xCt_ok_31 : xCok (((4, 9), (mX2_init, 0, 2))) := ⟨xMok_mX2_init, by decide +kernel, fun h => absurd h (by decide), fun h => absurd h (by decide), fun _ => ⟨xws0_of (i := 69) (by decide +kernel) rfl, xws0_of (i := 70) (by decide +kernel) rfl, rfl, rfl⟩, fun h => absurd h (by decide), fun h => absurd h (by decide)⟩
theorem xCt_ok_32 : xCok (((4, 21), (mX1_init, 0, 2))) := ⟨xMok_mX1_init, by decide +kernel, fun h => absurd h (by decide), fun h => absurd h (by decide), fun _ => ⟨xws0_of (i := 161) (by decide +kernel) rfl, xws0_of (i := 162) (by decide +kernel) rfl, rfl, rfl⟩, fun h => absurd h (by decide), fun h => absurd h (by decide)⟩
theorem xCt_ok_33 : xCok (((4, 36), (mX3_init, 0, 4))) := ⟨xMok_mX3_init, by decide +kernel, fun h => absurd h (by decide), fun h => absurd h (by decide), fun h => absurd h (by decide), fun h => absurd h (by decide), fun _ => ⟨List.mem_of_getElem? (i := 1) (by decide +kernel), xws0_of (i := 182) (by decide +kernel) rfl, rfl, rfl⟩⟩
theorem xCt_ok_34 : xCok (((4, 41), (mX4_isContext, 1, 1))) := ⟨xMok_mX4_isContext, by decide +kernel, fun h => absurd h (by decide), fun _ => ⟨xws0_of (i := 237) (by decide +kernel) rfl, xws0_of (i := 238) (by decide +kernel) rfl⟩, fun h => absurd h (by decide), fun h => absurd h (by decide), fun h => absurd h (by decide)⟩
theorem xCt_ok_35 : xCok (((4, 45), (mX4_isCommand, 2, 1))) := ⟨xMok_mX4_isCommand, by decide +kernel, fun h => absurd h (by decide), fun _ => ⟨xws0_of (i := 240) (by decide +kernel) rfl, xws0_of (i := 241) (by decide +kernel) rfl⟩, fun h => absurd h (by decide), fun h => absurd h (by decide), fun h => absurd h (by decide)⟩
theorem xCt_ok_36 : xCok (((4, 59), (mX1_record, 1, 0))) := ⟨xMok_mX1_record, by decide +kernel, fun _ => ⟨xws0_of (i := 247) (by decide +kernel) rfl, xws0_of (i := 248) (by decide +kernel) rfl, xws0_of (i := 249) (by decide +kernel) rfl, by decide⟩, fun h => absurd h (by decide), fun h => absurd h (by decide), fun h => absurd h (by decide), fun h => absurd h (by decide)⟩
theorem xCt_ok_37 : xCok (((4, 63), (mX0_append, 2, 0))) := ⟨xMok_mX0_append, by decide +kernel, fun _ => ⟨xws0_of (i := 263) (by decide +kernel) rfl, xws0_of (i := 264) (by decide +kernel) rfl, xws0_of (i := 265) (by decide +kernel) rfl, by decide⟩, fun h => absurd h (by decide), fun h => absurd h (by decide), fun h => absurd h (by decide), fun h => absurd h (by decide)⟩
theorem xCt_ok_38 : xCok (((4, 67), (mX3_findFault, 0, 0))) := ⟨xMok_mX3_findFault, by decide +kernel, fun _ => ⟨xws0_of (i := 271) (by decide +kernel) rfl, xws0_of (i := 272) (by decide +kernel) rfl, xws0_of (i := 273) (by decide +kernel) rfl, by decide⟩, fun h => absurd h (by decide), fun h => absurd h (by decide), fun h => absurd h (by decide), fun h => absurd h (by decide)⟩
theorem xCt_ok_39 : xCok (((4, 74), (mX0_load, 1, 0))) := ⟨xMok_mX0_load, by decide +kernel, fun _ => ⟨xws0_of (i := 384) (by decide +kernel) rfl, xws0_of (i := 385) (by decide +kernel) rfl, xws0_of (i := 386) (by decide +kernel) rfl, by decide⟩, fun h => absurd h (by decide), fun h => absurd h (by decide), fun h => absurd h (by decide), fun h => absurd h (by decide)⟩
theorem xCt_ok_40 : xCok (((4, 81), (mX4_isPriority, 1, 1))) := ⟨xMok_mX4_isPriority, by decide +kernel, fun h => absurd h (by decide), fun _ => ⟨xws0_of (i := 394) (by decide +kernel) rfl, xws0_of (i := 395) (by decide +kernel) rfl⟩, fun h => absurd h (by decide), fun h => absurd h (by decide), fun h => absurd h (by decide)⟩
theorem xCt_ok_41 : xCok (((4, 90), (mX0_receive, 1, 0))) := ⟨xMok_mX0_receive, by decide +kernel, fun _ => ⟨xws0_of (i := 401) (by decide +kernel) rfl, xws0_of (i := 402) (by decide +kernel) rfl, xws0_of (i := 403) (by decide +kernel) rfl, by decide⟩, fun h => absurd h (by decide), fun h => absurd h (by decide), fun h => absurd h (by decide), fun h => absurd h (by decide)⟩
theorem xCt_ok_42 : xCok (((4, 94), (mX4_isLock, 1, 1))) := ⟨xMok_mX4_isLock, by decide +kernel, fun h => absurd h (by decide), fun _ => ⟨xws0_of (i := 409) (by decide +kernel) rfl, xws0_of (i := 410) (by decide +kernel) rfl⟩, fun h => absurd h (by decide), fun h => absurd h (by decide), fun h => absurd h (by decide)⟩
theorem xCt_ok_43 : xCok (((4, 101), (mX4_isStep, 1, 1))) := ⟨xMok_mX4_isStep, by decide +kernel, fun h => absurd h (by decide), fun _ => ⟨xws0_of (i := 416) (by decide +kernel) rfl, xws0_of (i := 417) (by decide +kernel) rfl⟩, fun h => absurd h (by decide), fun h => absurd h (by decide), fun h => absurd h (by decide)⟩
theorem xCt_ok_44 : xCok (((4, 108), (mX2_passSlots, 1, 0))) := ⟨xMok_mX2_passSlots, by decide +kernel, fun _ => ⟨xws0_of (i := 420) (by decide +kernel) rfl, xws0_of (i := 421) (by decide +kernel) rfl, xws0_of (i := 422) (by decide +kernel) rfl, by decide⟩, fun h => absurd h (by decide), fun h => absurd h (by decide), fun h => absurd h (by decide), fun h => absurd h (by decide)⟩
theorem xCt_ok_45 : xCok (((4, 113), (mX2_passUntilDone, 1, 0))) := ⟨xMok_mX2_passUntilDone, by decide +kernel, fun _ => ⟨xws0_of (i := 493) (by decide +kernel) rfl, xws0_of (i := 494) (by decide +kernel) rfl, xws0_of (i := 495) (by decide +kernel) rfl, by decide⟩, fun h => absurd h (by decide), fun h => absurd h (by decide), fun h => absurd h (by decide), fun h => absurd h (by decide)⟩
theorem xCt_ok_46 : xCok (((4, 122), (mX2_findAllWaits, 0, 0))) := ⟨xMok_mX2_findAllWaits, by decide +kernel, fun _ => ⟨xws0_of (i := 509) (by decide +kernel) rfl, xws0_of (i := 445) (by decide +kernel) rfl, xws0_of (i := 446) (by decide +kernel) rfl, by decide⟩, fun h => absurd h (by decide), fun h => absurd h (by decide), fun h => absurd h (by decide), fun h => absurd h (by decide)⟩
theorem xCt_ok_47 : xCok (((4, 126), (mX2_lentPriority, 2, 0))) := ⟨xMok_mX2_lentPriority, by decide +kernel, fun _ => ⟨xws0_of (i := 510) (by decide +kernel) rfl, xws0_of (i := 457) (by decide +kernel) rfl, xws0_of (i := 458) (by decide +kernel) rfl, by decide⟩, fun h => absurd h (by decide), fun h => absurd h (by decide), fun h => absurd h (by decide), fun h => absurd h (by decide)⟩
theorem xCt_ok_48 : xCok (((4, 133), (mX2_stateOf, 1, 0))) := ⟨xMok_mX2_stateOf, by decide +kernel, fun _ => ⟨xws0_of (i := 511) (by decide +kernel) rfl, xws0_of (i := 438) (by decide +kernel) rfl, xws0_of (i := 439) (by decide +kernel) rfl, by decide⟩, fun h => absurd h (by decide), fun h => absurd h (by decide), fun h => absurd h (by decide), fun h => absurd h (by decide)⟩
theorem xCt_ok_49 : xCok (((4, 136), (mX2_waitsOf, 1, 0))) := ⟨xMok_mX2_waitsOf, by decide +kernel, fun _ => ⟨xws0_of (i := 512) (by decide +kernel) rfl, xws0_of (i := 449) (by decide +kernel) rfl, xws0_of (i := 450) (by decide +kernel) rfl, by decide⟩, fun h => absurd h (by decide), fun h => absurd h (by decide), fun h => absurd h (by decide), fun h => absurd h (by decide)⟩
theorem xCt_ok_50 : xCok (((4, 139), (mX2_ringSet, 0, 0))) := ⟨xMok_mX2_ringSet, by decide +kernel, fun _ => ⟨xws0_of (i := 513) (by decide +kernel) rfl, xws0_of (i := 514) (by decide +kernel) rfl, xws0_of (i := 515) (by decide +kernel) rfl, by decide⟩, fun h => absurd h (by decide), fun h => absurd h (by decide), fun h => absurd h (by decide), fun h => absurd h (by decide)⟩
theorem xCt_ok_51 : xCok (((4, 142), (mX4_has, 2, 1))) := ⟨xMok_mX4_has, by decide +kernel, fun h => absurd h (by decide), fun _ => ⟨xws0_of (i := 517) (by decide +kernel) rfl, xws0_of (i := 442) (by decide +kernel) rfl⟩, fun h => absurd h (by decide), fun h => absurd h (by decide), fun h => absurd h (by decide)⟩
theorem xCt_ok_52 : xCok (((4, 160), (mX2_setIn, 1, 0))) := ⟨xMok_mX2_setIn, by decide +kernel, fun _ => ⟨xws0_of (i := 534) (by decide +kernel) rfl, xws0_of (i := 434) (by decide +kernel) rfl, xws0_of (i := 435) (by decide +kernel) rfl, by decide⟩, fun h => absurd h (by decide), fun h => absurd h (by decide), fun h => absurd h (by decide), fun h => absurd h (by decide)⟩
theorem xCt_ok_53 : xCok (((4, 163), (mJ6_bitCount_0f7a4, 1, 1))) := ⟨xMok_mJ6_bitCount_0f7a4, by decide +kernel, fun h => absurd h (by decide), fun _ => ⟨xws0_of (i := 535) (by decide +kernel) rfl, xws0_of (i := 536) (by decide +kernel) rfl⟩, fun h => absurd h (by decide), fun h => absurd h (by decide), fun h => absurd h (by decide)⟩
theorem xCt_ok_54 : xCok (((4, 168), (mX2_isStuck, 0, 0))) := ⟨xMok_mX2_isStuck, by decide +kernel, fun _ => ⟨xws0_of (i := 541) (by decide +kernel) rfl, xws0_of (i := 502) (by decide +kernel) rfl, xws0_of (i := 503) (by decide +kernel) rfl, by decide⟩, fun h => absurd h (by decide), fun h => absurd h (by decide), fun h => absurd h (by decide), fun h => absurd h (by decide)⟩
theorem xCt_ok_55 : xCok (((4, 178), (mX4_tryNow, 0, 0))) := ⟨xMok_mX4_tryNow, by decide +kernel, fun _ => ⟨xws0_of (i := 542) (by decide +kernel) rfl, xws0_of (i := 544) (by decide +kernel) rfl, xws0_of (i := 10) (by decide +kernel) rfl, by decide⟩, fun h => absurd h (by decide), fun h => absurd h (by decide), fun h => absurd h (by decide), fun h => absurd h (by decide)⟩
theorem xCt_ok_56 : xCok (((4, 182), (mX2_passSlot, 0, 0))) := ⟨xMok_mX2_passSlot, by decide +kernel, fun _ => ⟨xws0_of (i := 547) (by decide +kernel) rfl, xws0_of (i := 425) (by decide +kernel) rfl, xws0_of (i := 426) (by decide +kernel) rfl, by decide⟩, fun h => absurd h (by decide), fun h => absurd h (by decide), fun h => absurd h (by decide), fun h => absurd h (by decide)⟩
theorem xCt_ok_57 : xCok (((4, 188), (mX2_areDone, 1, 0))) := ⟨xMok_mX2_areDone, by decide +kernel, fun _ => ⟨xws0_of (i := 552) (by decide +kernel) rfl, xws0_of (i := 498) (by decide +kernel) rfl, xws0_of (i := 499) (by decide +kernel) rfl, by decide⟩, fun h => absurd h (by decide), fun h => absurd h (by decide), fun h => absurd h (by decide), fun h => absurd h (by decide)⟩
theorem xCt_ok_58 : xCok (((4, 191), (mX3_charactersIn, 1, 1))) := ⟨xMok_mX3_charactersIn, by decide +kernel, fun h => absurd h (by decide), fun _ => ⟨xws0_of (i := 565) (by decide +kernel) rfl, xws0_of (i := 566) (by decide +kernel) rfl⟩, fun h => absurd h (by decide), fun h => absurd h (by decide), fun h => absurd h (by decide)⟩
theorem xCt_ok_59 : xCok (((4, 195), (mX3_append, 2, 0))) := ⟨xMok_mX3_append, by decide +kernel, fun _ => ⟨xws0_of (i := 569) (by decide +kernel) rfl, xws0_of (i := 570) (by decide +kernel) rfl, xws0_of (i := 571) (by decide +kernel) rfl, by decide⟩, fun h => absurd h (by decide), fun h => absurd h (by decide), fun h => absurd h (by decide), fun h => absurd h (by decide)⟩
theorem xCt_ok_60 : xCok (((4, 198), (mX1_takeBack, 1, 0))) := ⟨xMok_mX1_takeBack, by decide +kernel, fun _ => ⟨xws0_of (i := 585) (by decide +kernel) rfl, xws0_of (i := 586) (by decide +kernel) rfl, xws0_of (i := 587) (by decide +kernel) rfl, by decide⟩, fun h => absurd h (by decide), fun h => absurd h (by decide), fun h => absurd h (by decide), fun h => absurd h (by decide)⟩
theorem xCt_ok_61 : xCok (((4, 201), (mX4_isSave, 1, 1))) := ⟨xMok_mX4_isSave, by decide +kernel, fun h => absurd h (by decide), fun _ => ⟨xws0_of (i := 593) (by decide +kernel) rfl, xws0_of (i := 594) (by decide +kernel) rfl⟩, fun h => absurd h (by decide), fun h => absurd h (by decide), fun h => absurd h (by decide)⟩
theorem xCt_ok_62 : xCok (((4, 204), (mX2_copyFrom, 1, 0))) := ⟨xMok_mX2_copyFrom, by decide +kernel, fun _ => ⟨xws0_of (i := 546) (by decide +kernel) rfl, xws0_of (i := 252) (by decide +kernel) rfl, xws0_of (i := 253) (by decide +kernel) rfl, by decide⟩, fun h => absurd h (by decide), fun h => absurd h (by decide), fun h => absurd h (by decide), fun h => absurd h (by decide)⟩
theorem xCt_ok_63 : xCok (((5, 42), (mX5_in, 3, 1))) := ⟨xMok_mX5_in, by decide +kernel, fun h => absurd h (by decide), fun _ => ⟨xws0_of (i := 662) (by decide +kernel) rfl, xws0_of (i := 663) (by decide +kernel) rfl⟩, fun h => absurd h (by decide), fun h => absurd h (by decide), fun h => absurd h (by decide)⟩
theorem xCt_ok_64 : xCok (((5, 49), (mX5_get, 2, 0))) := ⟨xMok_mX5_get, by decide +kernel, fun _ => ⟨xws0_of (i := 668) (by decide +kernel) rfl, xws0_of (i := 670) (by decide +kernel) rfl, xws0_of (i := 11) (by decide +kernel) rfl, by decide⟩, fun h => absurd h (by decide), fun h => absurd h (by decide), fun h => absurd h (by decide), fun h => absurd h (by decide)⟩
theorem xCt_ok_65 : xCok (((5, 53), (mX5_isDone, 1, 0))) := ⟨xMok_mX5_isDone, by decide +kernel, fun _ => ⟨xws0_of (i := 721) (by decide +kernel) rfl, xws0_of (i := 723) (by decide +kernel) rfl, xws0_of (i := 20) (by decide +kernel) rfl, by decide⟩, fun h => absurd h (by decide), fun h => absurd h (by decide), fun h => absurd h (by decide), fun h => absurd h (by decide)⟩
theorem xCt_ok_66 : xCok (((5, 57), (mX5_commandOf, 2, 0))) := ⟨xMok_mX5_commandOf, by decide +kernel, fun _ => ⟨xws0_of (i := 725) (by decide +kernel) rfl, xws0_of (i := 727) (by decide +kernel) rfl, xws0_of (i := 21) (by decide +kernel) rfl, by decide⟩, fun h => absurd h (by decide), fun h => absurd h (by decide), fun h => absurd h (by decide), fun h => absurd h (by decide)⟩
theorem xCt_ok_67 : xCok (((5, 60), (mX5_argumentOf, 2, 0))) := ⟨xMok_mX5_argumentOf, by decide +kernel, fun _ => ⟨xws0_of (i := 729) (by decide +kernel) rfl, xws0_of (i := 731) (by decide +kernel) rfl, xws0_of (i := 22) (by decide +kernel) rfl, by decide⟩, fun h => absurd h (by decide), fun h => absurd h (by decide), fun h => absurd h (by decide), fun h => absurd h (by decide)⟩
theorem xCt_ok_68 : xCok (((5, 63), (mX5_stateOf, 1, 0))) := ⟨xMok_mX5_stateOf, by decide +kernel, fun _ => ⟨xws0_of (i := 717) (by decide +kernel) rfl, xws0_of (i := 719) (by decide +kernel) rfl, xws0_of (i := 19) (by decide +kernel) rfl, by decide⟩, fun h => absurd h (by decide), fun h => absurd h (by decide), fun h => absurd h (by decide), fun h => absurd h (by decide)⟩
theorem xCt_ok_69 : xCok (((5, 67), (mX5_sendsTo, 2, 0))) := ⟨xMok_mX5_sendsTo, by decide +kernel, fun _ => ⟨xws0_of (i := 741) (by decide +kernel) rfl, xws0_of (i := 743) (by decide +kernel) rfl, xws0_of (i := 25) (by decide +kernel) rfl, by decide⟩, fun h => absurd h (by decide), fun h => absurd h (by decide), fun h => absurd h (by decide), fun h => absurd h (by decide)⟩
theorem xCt_ok_70 : xCok (((5, 71), (mX5_waitsFor, 1, 0))) := ⟨xMok_mX5_waitsFor, by decide +kernel, fun _ => ⟨xws0_of (i := 737) (by decide +kernel) rfl, xws0_of (i := 739) (by decide +kernel) rfl, xws0_of (i := 24) (by decide +kernel) rfl, by decide⟩, fun h => absurd h (by decide), fun h => absurd h (by decide), fun h => absurd h (by decide), fun h => absurd h (by decide)⟩
theorem xCt_ok_71 : xCok (((5, 74), (mX5_laysWaits, 0, 0))) := ⟨xMok_mX5_laysWaits, by decide +kernel, fun _ => ⟨xws0_of (i := 733) (by decide +kernel) rfl, xws0_of (i := 735) (by decide +kernel) rfl, xws0_of (i := 23) (by decide +kernel) rfl, by decide⟩, fun h => absurd h (by decide), fun h => absurd h (by decide), fun h => absurd h (by decide), fun h => absurd h (by decide)⟩
theorem xCt_ok_72 : xCok (((5, 77), (mX5_inState, 1, 0))) := ⟨xMok_mX5_inState, by decide +kernel, fun _ => ⟨xws0_of (i := 766) (by decide +kernel) rfl, xws0_of (i := 768) (by decide +kernel) rfl, xws0_of (i := 30) (by decide +kernel) rfl, by decide⟩, fun h => absurd h (by decide), fun h => absurd h (by decide), fun h => absurd h (by decide), fun h => absurd h (by decide)⟩
theorem xCt_ok_73 : xCok (((5, 80), (mX5_lay, 3, 0))) := ⟨xMok_mX5_lay, by decide +kernel, fun _ => ⟨xws0_of (i := 680) (by decide +kernel) rfl, xws0_of (i := 682) (by decide +kernel) rfl, xws0_of (i := 14) (by decide +kernel) rfl, by decide⟩, fun h => absurd h (by decide), fun h => absurd h (by decide), fun h => absurd h (by decide), fun h => absurd h (by decide)⟩
theorem xCt_ok_74 : xCok (((5, 84), (mX5_goesBack, 2, 0))) := ⟨xMok_mX5_goesBack, by decide +kernel, fun _ => ⟨xws0_of (i := 753) (by decide +kernel) rfl, xws0_of (i := 755) (by decide +kernel) rfl, xws0_of (i := 28) (by decide +kernel) rfl, by decide⟩, fun h => absurd h (by decide), fun h => absurd h (by decide), fun h => absurd h (by decide), fun h => absurd h (by decide)⟩
theorem xCt_ok_75 : xCok (((5, 88), (mX5_receives, 2, 0))) := ⟨xMok_mX5_receives, by decide +kernel, fun _ => ⟨xws0_of (i := 692) (by decide +kernel) rfl, xws0_of (i := 694) (by decide +kernel) rfl, xws0_of (i := 15) (by decide +kernel) rfl, by decide⟩, fun h => absurd h (by decide), fun h => absurd h (by decide), fun h => absurd h (by decide), fun h => absurd h (by decide)⟩
theorem xCt_ok_76 : xCok (((5, 91), (mX5_takes, 1, 0))) := ⟨xMok_mX5_takes, by decide +kernel, fun _ => ⟨xws0_of (i := 757) (by decide +kernel) rfl, xws0_of (i := 759) (by decide +kernel) rfl, xws0_of (i := 29) (by decide +kernel) rfl, by decide⟩, fun h => absurd h (by decide), fun h => absurd h (by decide), fun h => absurd h (by decide), fun h => absurd h (by decide)⟩
theorem xCt_ok_77 : xCok (((5, 95), (mX5_lent, 1, 0))) := ⟨xMok_mX5_lent, by decide +kernel, fun _ => ⟨xws0_of (i := 745) (by decide +kernel) rfl, xws0_of (i := 747) (by decide +kernel) rfl, xws0_of (i := 26) (by decide +kernel) rfl, by decide⟩, fun h => absurd h (by decide), fun h => absurd h (by decide), fun h => absurd h (by decide), fun h => absurd h (by decide)⟩
theorem xCt_ok_78 : xCok (((5, 98), (mX5_wakes, 0, 0))) := ⟨xMok_mX5_wakes, by decide +kernel, fun _ => ⟨xws0_of (i := 709) (by decide +kernel) rfl, xws0_of (i := 711) (by decide +kernel) rfl, xws0_of (i := 17) (by decide +kernel) rfl, by decide⟩, fun h => absurd h (by decide), fun h => absurd h (by decide), fun h => absurd h (by decide), fun h => absurd h (by decide)⟩
theorem xCt_ok_79 : xCok (((5, 101), (mX5_runner, 1, 0))) := ⟨xMok_mX5_runner, by decide +kernel, fun _ => ⟨xws0_of (i := 713) (by decide +kernel) rfl, xws0_of (i := 715) (by decide +kernel) rfl, xws0_of (i := 18) (by decide +kernel) rfl, by decide⟩, fun h => absurd h (by decide), fun h => absurd h (by decide), fun h => absurd h (by decide), fun h => absurd h (by decide)⟩
theorem xCt_ok_80 : xCok (((5, 104), (mX5_runs, 1, 0))) := ⟨xMok_mX5_runs, by decide +kernel, fun _ => ⟨xws0_of (i := 749) (by decide +kernel) rfl, xws0_of (i := 751) (by decide +kernel) rfl, xws0_of (i := 27) (by decide +kernel) rfl, by decide⟩, fun h => absurd h (by decide), fun h => absurd h (by decide), fun h => absurd h (by decide), fun h => absurd h (by decide)⟩
theorem xCt_ok_81 : xCok (((5, 107), (mX5_isContext, 1, 1))) := ⟨xMok_mX5_isContext, by decide +kernel, fun h => absurd h (by decide), fun _ => ⟨xws0_of (i := 659) (by decide +kernel) rfl, xws0_of (i := 660) (by decide +kernel) rfl⟩, fun h => absurd h (by decide), fun h => absurd h (by decide), fun h => absurd h (by decide)⟩
theorem xCt_ok_82 : xCok (((5, 110), (mX5_isArgument, 2, 1))) := ⟨xMok_mX5_isArgument, by decide +kernel, fun h => absurd h (by decide), fun _ => ⟨xws0_of (i := 665) (by decide +kernel) rfl, xws0_of (i := 666) (by decide +kernel) rfl⟩, fun h => absurd h (by decide), fun h => absurd h (by decide), fun h => absurd h (by decide)⟩
theorem xCt_ok_83 : xCok (((5, 113), (mX5_records, 0, 0))) := ⟨xMok_mX5_records, by decide +kernel, fun _ => ⟨xws0_of (i := 672) (by decide +kernel) rfl, xws0_of (i := 674) (by decide +kernel) rfl, xws0_of (i := 12) (by decide +kernel) rfl, by decide⟩, fun h => absurd h (by decide), fun h => absurd h (by decide), fun h => absurd h (by decide), fun h => absurd h (by decide)⟩
theorem xCt_ok_84 : xCok (((5, 116), (mX5_adds, 3, 0))) := ⟨xMok_mX5_adds, by decide +kernel, fun _ => ⟨xws0_of (i := 676) (by decide +kernel) rfl, xws0_of (i := 678) (by decide +kernel) rfl, xws0_of (i := 13) (by decide +kernel) rfl, by decide⟩, fun h => absurd h (by decide), fun h => absurd h (by decide), fun h => absurd h (by decide), fun h => absurd h (by decide)⟩
theorem xCt_ok_85 : xCok (((5, 120), (mX5_slot, 0, 0))) := ⟨xMok_mX5_slot, by decide +kernel, fun _ => ⟨xws0_of (i := 705) (by decide +kernel) rfl, xws0_of (i := 707) (by decide +kernel) rfl, xws0_of (i := 16) (by decide +kernel) rfl, by decide⟩, fun h => absurd h (by decide), fun h => absurd h (by decide), fun h => absurd h (by decide), fun h => absurd h (by decide)⟩
theorem xCt_ok_86 : xCok (((5, 125), (mX5_isStuck, 0, 0))) := ⟨xMok_mX5_isStuck, by decide +kernel, fun _ => ⟨xws0_of (i := 770) (by decide +kernel) rfl, xws0_of (i := 772) (by decide +kernel) rfl, xws0_of (i := 31) (by decide +kernel) rfl, by decide⟩, fun h => absurd h (by decide), fun h => absurd h (by decide), fun h => absurd h (by decide), fun h => absurd h (by decide)⟩
theorem xCt_ok_87 : xCok (((5, 129), (mX5_putAside, 0, 0))) := ⟨xMok_mX5_putAside, by decide +kernel, fun _ => ⟨xws0_of (i := 809) (by decide +kernel) rfl, xws0_of (i := 811) (by decide +kernel) rfl, xws0_of (i := 35) (by decide +kernel) rfl, by decide⟩, fun h => absurd h (by decide), fun h => absurd h (by decide), fun h => absurd h (by decide), fun h => absurd h (by decide)⟩
theorem xCt_ok_88 : xCok (((5, 132), (mX5_takeBack, 0, 0))) := ⟨xMok_mX5_takeBack, by decide +kernel, fun _ => ⟨xws0_of (i := 813) (by decide +kernel) rfl, xws0_of (i := 815) (by decide +kernel) rfl, xws0_of (i := 36) (by decide +kernel) rfl, by decide⟩, fun h => absurd h (by decide), fun h => absurd h (by decide), fun h => absurd h (by decide), fun h => absurd h (by decide)⟩
theorem xCt_ok_89 : xCok (((5, 135), (mX5_count1, 1, 1))) := ⟨xMok_mX5_count1, by decide +kernel, fun h => absurd h (by decide), fun _ => ⟨xws0_of (i := 794) (by decide +kernel) rfl, xws0_of (i := 795) (by decide +kernel) rfl⟩, fun h => absurd h (by decide), fun h => absurd h (by decide), fun h => absurd h (by decide)⟩
theorem xCt_ok_90 : xCok (((5, 138), (mX5_rings, 0, 0))) := ⟨xMok_mX5_rings, by decide +kernel, fun _ => ⟨xws0_of (i := 797) (by decide +kernel) rfl, xws0_of (i := 799) (by decide +kernel) rfl, xws0_of (i := 32) (by decide +kernel) rfl, by decide⟩, fun h => absurd h (by decide), fun h => absurd h (by decide), fun h => absurd h (by decide), fun h => absurd h (by decide)⟩
theorem xCt_ok_91 : xCok (((5, 141), (mX5_sumOver, 1, 0))) := ⟨xMok_mX5_sumOver, by decide +kernel, fun _ => ⟨xws0_of (i := 801) (by decide +kernel) rfl, xws0_of (i := 803) (by decide +kernel) rfl, xws0_of (i := 33) (by decide +kernel) rfl, by decide⟩, fun h => absurd h (by decide), fun h => absurd h (by decide), fun h => absurd h (by decide), fun h => absurd h (by decide)⟩
theorem xCt_ok_92 : xCok (((5, 144), (mX5_next, 0, 0))) := ⟨xMok_mX5_next, by decide +kernel, fun _ => ⟨xws0_of (i := 805) (by decide +kernel) rfl, xws0_of (i := 807) (by decide +kernel) rfl, xws0_of (i := 34) (by decide +kernel) rfl, by decide⟩, fun h => absurd h (by decide), fun h => absurd h (by decide), fun h => absurd h (by decide), fun h => absurd h (by decide)⟩
theorem xCt_ok_93 : xCok (((5, 150), (mX5_until, 1, 0))) := ⟨xMok_mX5_until, by decide +kernel, fun _ => ⟨xws0_of (i := 821) (by decide +kernel) rfl, xws0_of (i := 823) (by decide +kernel) rfl, xws0_of (i := 37) (by decide +kernel) rfl, by decide⟩, fun h => absurd h (by decide), fun h => absurd h (by decide), fun h => absurd h (by decide), fun h => absurd h (by decide)⟩
theorem xCt_ok_94 : xCok (((5, 162), (mX5_sign, 0, 0))) := ⟨xMok_mX5_sign, by decide +kernel, fun _ => ⟨xws0_of (i := 854) (by decide +kernel) rfl, xws0_of (i := 856) (by decide +kernel) rfl, xws0_of (i := 40) (by decide +kernel) rfl, by decide⟩, fun h => absurd h (by decide), fun h => absurd h (by decide), fun h => absurd h (by decide), fun h => absurd h (by decide)⟩
theorem xCt_ok_95 : xCok (((5, 165), (mX5_takesSign, 2, 0))) := ⟨xMok_mX5_takesSign, by decide +kernel, fun _ => ⟨xws0_of (i := 850) (by decide +kernel) rfl, xws0_of (i := 852) (by decide +kernel) rfl, xws0_of (i := 39) (by decide +kernel) rfl, by decide⟩, fun h => absurd h (by decide), fun h => absurd h (by decide), fun h => absurd h (by decide), fun h => absurd h (by decide)⟩
theorem xCt_ok_96 : xCok (((5, 168), (mX5_commandBy, 1, 1))) := ⟨xMok_mX5_commandBy, by decide +kernel, fun h => absurd h (by decide), fun _ => ⟨xws0_of (i := 862) (by decide +kernel) rfl, xws0_of (i := 863) (by decide +kernel) rfl⟩, fun h => absurd h (by decide), fun h => absurd h (by decide), fun h => absurd h (by decide)⟩
theorem xCt_ok_97 : xCok (((5, 171), (mX5_number, 0, 0))) := ⟨xMok_mX5_number, by decide +kernel, fun _ => ⟨xws0_of (i := 865) (by decide +kernel) rfl, xws0_of (i := 867) (by decide +kernel) rfl, xws0_of (i := 42) (by decide +kernel) rfl, by decide⟩, fun h => absurd h (by decide), fun h => absurd h (by decide), fun h => absurd h (by decide), fun h => absurd h (by decide)⟩
theorem xCt_ok_98 : xCok (((5, 174), (mX5_numberOfBack, 0, 0))) := ⟨xMok_mX5_numberOfBack, by decide +kernel, fun _ => ⟨xws0_of (i := 869) (by decide +kernel) rfl, xws0_of (i := 871) (by decide +kernel) rfl, xws0_of (i := 43) (by decide +kernel) rfl, by decide⟩, fun h => absurd h (by decide), fun h => absurd h (by decide), fun h => absurd h (by decide), fun h => absurd h (by decide)⟩
theorem xCt_ok_99 : xCok (((5, 183), (mX5_readsCommand, 0, 0))) := ⟨xMok_mX5_readsCommand, by decide +kernel, fun _ => ⟨xws0_of (i := 858) (by decide +kernel) rfl, xws0_of (i := 860) (by decide +kernel) rfl, xws0_of (i := 41) (by decide +kernel) rfl, by decide⟩, fun h => absurd h (by decide), fun h => absurd h (by decide), fun h => absurd h (by decide), fun h => absurd h (by decide)⟩
theorem xCt_ok_100 : xCok (((5, 186), (mX5_reads, 0, 0))) := ⟨xMok_mX5_reads, by decide +kernel, fun _ => ⟨xws0_of (i := 846) (by decide +kernel) rfl, xws0_of (i := 848) (by decide +kernel) rfl, xws0_of (i := 38) (by decide +kernel) rfl, by decide⟩, fun h => absurd h (by decide), fun h => absurd h (by decide), fun h => absurd h (by decide), fun h => absurd h (by decide)⟩
theorem xCt_ok_101 : xCok (((6, 9), (mX4_init, 0, 2))) := ⟨xMok_mX4_init, by decide +kernel, fun h => absurd h (by decide), fun h => absurd h (by decide), fun _ => ⟨xws0_of (i := 61) (by decide +kernel) rfl, xws0_of (i := 62) (by decide +kernel) rfl, rfl, rfl⟩, fun h => absurd h (by decide), fun h => absurd h (by decide)⟩
theorem xCt_ok_102 : xCok (((6, 12), (mX5_init, 0, 2))) := ⟨xMok_mX5_init, by decide +kernel, fun h => absurd h (by decide), fun h => absurd h (by decide), fun _ => ⟨xws0_of (i := 602) (by decide +kernel) rfl, xws0_of (i := 603) (by decide +kernel) rfl, rfl, rfl⟩, fun h => absurd h (by decide), fun h => absurd h (by decide)⟩
theorem xCt_ok_103 : xCok (((6, 13), (mX4_add, 3, 0))) := ⟨xMok_mX4_add, by decide +kernel, fun _ => ⟨xws0_of (i := 233) (by decide +kernel) rfl, xws0_of (i := 234) (by decide +kernel) rfl, xws0_of (i := 235) (by decide +kernel) rfl, by decide⟩, fun h => absurd h (by decide), fun h => absurd h (by decide), fun h => absurd h (by decide), fun h => absurd h (by decide)⟩
theorem xCt_ok_104 : xCok (((6, 17), (mX5_add, 3, 0))) := ⟨xMok_mX5_add, by decide +kernel, fun _ => ⟨xws0_of (i := 655) (by decide +kernel) rfl, xws0_of (i := 656) (by decide +kernel) rfl, xws0_of (i := 657) (by decide +kernel) rfl, by decide⟩, fun h => absurd h (by decide), fun h => absurd h (by decide), fun h => absurd h (by decide), fun h => absurd h (by decide)⟩
theorem xCt_ok_105 : xCok (((6, 18), (mX4_read, 0, 0))) := ⟨xMok_mX4_read, by decide +kernel, fun _ => ⟨xws0_of (i := 267) (by decide +kernel) rfl, xws0_of (i := 268) (by decide +kernel) rfl, xws0_of (i := 269) (by decide +kernel) rfl, by decide⟩, fun h => absurd h (by decide), fun h => absurd h (by decide), fun h => absurd h (by decide), fun h => absurd h (by decide)⟩
theorem xCt_ok_106 : xCok (((6, 22), (mX5_read, 0, 0))) := ⟨xMok_mX5_read, by decide +kernel, fun _ => ⟨xws0_of (i := 873) (by decide +kernel) rfl, xws0_of (i := 874) (by decide +kernel) rfl, xws0_of (i := 875) (by decide +kernel) rfl, by decide⟩, fun h => absurd h (by decide), fun h => absurd h (by decide), fun h => absurd h (by decide), fun h => absurd h (by decide)⟩
theorem xCt_ok_107 : xCok (((6, 23), (mX4_prefer, 2, 0))) := ⟨xMok_mX4_prefer, by decide +kernel, fun _ => ⟨xws0_of (i := 390) (by decide +kernel) rfl, xws0_of (i := 391) (by decide +kernel) rfl, xws0_of (i := 392) (by decide +kernel) rfl, by decide⟩, fun h => absurd h (by decide), fun h => absurd h (by decide), fun h => absurd h (by decide), fun h => absurd h (by decide)⟩
theorem xCt_ok_108 : xCok (((6, 27), (mX5_prefer, 2, 0))) := ⟨xMok_mX5_prefer, by decide +kernel, fun _ => ⟨xws0_of (i := 684) (by decide +kernel) rfl, xws0_of (i := 685) (by decide +kernel) rfl, xws0_of (i := 686) (by decide +kernel) rfl, by decide⟩, fun h => absurd h (by decide), fun h => absurd h (by decide), fun h => absurd h (by decide), fun h => absurd h (by decide)⟩
theorem xCt_ok_109 : xCok (((6, 28), (mX4_post, 2, 0))) := ⟨xMok_mX4_post, by decide +kernel, fun _ => ⟨xws0_of (i := 397) (by decide +kernel) rfl, xws0_of (i := 398) (by decide +kernel) rfl, xws0_of (i := 399) (by decide +kernel) rfl, by decide⟩, fun h => absurd h (by decide), fun h => absurd h (by decide), fun h => absurd h (by decide), fun h => absurd h (by decide)⟩
theorem xCt_ok_110 : xCok (((6, 31), (mX5_post, 2, 0))) := ⟨xMok_mX5_post, by decide +kernel, fun _ => ⟨xws0_of (i := 688) (by decide +kernel) rfl, xws0_of (i := 689) (by decide +kernel) rfl, xws0_of (i := 690) (by decide +kernel) rfl, by decide⟩, fun h => absurd h (by decide), fun h => absurd h (by decide), fun h => absurd h (by decide), fun h => absurd h (by decide)⟩
theorem xCt_ok_111 : xCok (((6, 32), (mX4_release, 1, 0))) := ⟨xMok_mX4_release, by decide +kernel, fun _ => ⟨xws0_of (i := 405) (by decide +kernel) rfl, xws0_of (i := 406) (by decide +kernel) rfl, xws0_of (i := 407) (by decide +kernel) rfl, by decide⟩, fun h => absurd h (by decide), fun h => absurd h (by decide), fun h => absurd h (by decide), fun h => absurd h (by decide)⟩
theorem xCt_ok_112 : xCok (((6, 36), (mX5_release, 1, 0))) := ⟨xMok_mX5_release, by decide +kernel, fun _ => ⟨xws0_of (i := 696) (by decide +kernel) rfl, xws0_of (i := 697) (by decide +kernel) rfl, xws0_of (i := 698) (by decide +kernel) rfl, by decide⟩, fun h => absurd h (by decide), fun h => absurd h (by decide), fun h => absurd h (by decide), fun h => absurd h (by decide)⟩
theorem xCt_ok_113 : xCok (((6, 37), (mX4_step, 1, 0))) := ⟨xMok_mX4_step, by decide +kernel, fun _ => ⟨xws0_of (i := 412) (by decide +kernel) rfl, xws0_of (i := 413) (by decide +kernel) rfl, xws0_of (i := 414) (by decide +kernel) rfl, by decide⟩, fun h => absurd h (by decide), fun h => absurd h (by decide), fun h => absurd h (by decide), fun h => absurd h (by decide)⟩
theorem xCt_ok_114 : xCok (((6, 40), (mX5_step, 1, 0))) := ⟨xMok_mX5_step, by decide +kernel, fun _ => ⟨xws0_of (i := 700) (by decide +kernel) rfl, xws0_of (i := 701) (by decide +kernel) rfl, xws0_of (i := 702) (by decide +kernel) rfl, by decide⟩, fun h => absurd h (by decide), fun h => absurd h (by decide), fun h => absurd h (by decide), fun h => absurd h (by decide)⟩
theorem xCt_ok_115 : xCok (((6, 41), (mX4_run, 0, 0))) := ⟨xMok_mX4_run, by decide +kernel, fun _ => ⟨xws0_of (i := 488) (by decide +kernel) rfl, xws0_of (i := 489) (by decide +kernel) rfl, xws0_of (i := 490) (by decide +kernel) rfl, by decide⟩, fun h => absurd h (by decide), fun h => absurd h (by decide), fun h => absurd h (by decide), fun h => absurd h (by decide)⟩
theorem xCt_ok_116 : xCok (((6, 44), (mX5_run, 0, 0))) := ⟨xMok_mX5_run, by decide +kernel, fun _ => ⟨xws0_of (i := 761) (by decide +kernel) rfl, xws0_of (i := 762) (by decide +kernel) rfl, xws0_of (i := 763) (by decide +kernel) rfl, by decide⟩, fun h => absurd h (by decide), fun h => absurd h (by decide), fun h => absurd h (by decide), fun h => absurd h (by decide)⟩
theorem xCt_ok_117 : xCok (((6, 45), (mX4_of, 2, 0))) := ⟨xMok_mX4_of, by decide +kernel, fun _ => ⟨xws0_of (i := 505) (by decide +kernel) rfl, xws0_of (i := 506) (by decide +kernel) rfl, xws0_of (i := 507) (by decide +kernel) rfl, by decide⟩, fun h => absurd h (by decide), fun h => absurd h (by decide), fun h => absurd h (by decide), fun h => absurd h (by decide)⟩
theorem xCt_ok_118 : xCok (((6, 48), (mX5_of, 2, 0))) := ⟨xMok_mX5_of, by decide +kernel, fun _ => ⟨xws0_of (i := 774) (by decide +kernel) rfl, xws0_of (i := 775) (by decide +kernel) rfl, xws0_of (i := 776) (by decide +kernel) rfl, by decide⟩, fun h => absurd h (by decide), fun h => absurd h (by decide), fun h => absurd h (by decide), fun h => absurd h (by decide)⟩
theorem xCt_ok_119 : xCok (((6, 49), (mX4_command, 3, 0))) := ⟨xMok_mX4_command, by decide +kernel, fun _ => ⟨xws0_of (i := 518) (by decide +kernel) rfl, xws0_of (i := 519) (by decide +kernel) rfl, xws0_of (i := 520) (by decide +kernel) rfl, by decide⟩, fun h => absurd h (by decide), fun h => absurd h (by decide), fun h => absurd h (by decide), fun h => absurd h (by decide)⟩
theorem xCt_ok_120 : xCok (((6, 52), (mX5_command, 3, 0))) := ⟨xMok_mX5_command, by decide +kernel, fun _ => ⟨xws0_of (i := 778) (by decide +kernel) rfl, xws0_of (i := 779) (by decide +kernel) rfl, xws0_of (i := 780) (by decide +kernel) rfl, by decide⟩, fun h => absurd h (by decide), fun h => absurd h (by decide), fun h => absurd h (by decide), fun h => absurd h (by decide)⟩
theorem xCt_ok_121 : xCok (((6, 53), (mX4_inbox, 2, 0))) := ⟨xMok_mX4_inbox, by decide +kernel, fun _ => ⟨xws0_of (i := 522) (by decide +kernel) rfl, xws0_of (i := 523) (by decide +kernel) rfl, xws0_of (i := 524) (by decide +kernel) rfl, by decide⟩, fun h => absurd h (by decide), fun h => absurd h (by decide), fun h => absurd h (by decide), fun h => absurd h (by decide)⟩
theorem xCt_ok_122 : xCok (((6, 56), (mX5_inbox, 2, 0))) := ⟨xMok_mX5_inbox, by decide +kernel, fun _ => ⟨xws0_of (i := 782) (by decide +kernel) rfl, xws0_of (i := 783) (by decide +kernel) rfl, xws0_of (i := 784) (by decide +kernel) rfl, by decide⟩, fun h => absurd h (by decide), fun h => absurd h (by decide), fun h => absurd h (by decide), fun h => absurd h (by decide)⟩
theorem xCt_ok_123 : xCok (((6, 57), (mX4_holder, 1, 0))) := ⟨xMok_mX4_holder, by decide +kernel, fun _ => ⟨xws0_of (i := 526) (by decide +kernel) rfl, xws0_of (i := 527) (by decide +kernel) rfl, xws0_of (i := 528) (by decide +kernel) rfl, by decide⟩, fun h => absurd h (by decide), fun h => absurd h (by decide), fun h => absurd h (by decide), fun h => absurd h (by decide)⟩
theorem xCt_ok_124 : xCok (((6, 60), (mX5_holder, 1, 0))) := ⟨xMok_mX5_holder, by decide +kernel, fun _ => ⟨xws0_of (i := 786) (by decide +kernel) rfl, xws0_of (i := 787) (by decide +kernel) rfl, xws0_of (i := 788) (by decide +kernel) rfl, by decide⟩, fun h => absurd h (by decide), fun h => absurd h (by decide), fun h => absurd h (by decide), fun h => absurd h (by decide)⟩
theorem xCt_ok_125 : xCok (((6, 61), (mX4_count, 1, 0))) := ⟨xMok_mX4_count, by decide +kernel, fun _ => ⟨xws0_of (i := 530) (by decide +kernel) rfl, xws0_of (i := 531) (by decide +kernel) rfl, xws0_of (i := 532) (by decide +kernel) rfl, by decide⟩, fun h => absurd h (by decide), fun h => absurd h (by decide), fun h => absurd h (by decide), fun h => absurd h (by decide)⟩
theorem xCt_ok_126 : xCok (((6, 64), (mX5_count, 1, 0))) := ⟨xMok_mX5_count, by decide +kernel, fun _ => ⟨xws0_of (i := 790) (by decide +kernel) rfl, xws0_of (i := 791) (by decide +kernel) rfl, xws0_of (i := 792) (by decide +kernel) rfl, by decide⟩, fun h => absurd h (by decide), fun h => absurd h (by decide), fun h => absurd h (by decide), fun h => absurd h (by decide)⟩
theorem xCt_ok_127 : xCok (((6, 65), (mX4_slotsLeft, 0, 0))) := ⟨xMok_mX4_slotsLeft, by decide +kernel, fun _ => ⟨xws0_of (i := 548) (by decide +kernel) rfl, xws0_of (i := 549) (by decide +kernel) rfl, xws0_of (i := 550) (by decide +kernel) rfl, by decide⟩, fun h => absurd h (by decide), fun h => absurd h (by decide), fun h => absurd h (by decide), fun h => absurd h (by decide)⟩
theorem xCt_ok_128 : xCok (((6, 68), (mX5_slotsLeft, 0, 0))) := ⟨xMok_mX5_slotsLeft, by decide +kernel, fun _ => ⟨xws0_of (i := 817) (by decide +kernel) rfl, xws0_of (i := 818) (by decide +kernel) rfl, xws0_of (i := 819) (by decide +kernel) rfl, by decide⟩, fun h => absurd h (by decide), fun h => absurd h (by decide), fun h => absurd h (by decide), fun h => absurd h (by decide)⟩
theorem xCt_ok_129 : xCok (((6, 69), (mX4_leftIf, 3, 0))) := ⟨xMok_mX4_leftIf, by decide +kernel, fun _ => ⟨xws0_of (i := 553) (by decide +kernel) rfl, xws0_of (i := 554) (by decide +kernel) rfl, xws0_of (i := 555) (by decide +kernel) rfl, by decide⟩, fun h => absurd h (by decide), fun h => absurd h (by decide), fun h => absurd h (by decide), fun h => absurd h (by decide)⟩
theorem xCt_ok_130 : xCok (((6, 72), (mX5_leftIf, 3, 0))) := ⟨xMok_mX5_leftIf, by decide +kernel, fun _ => ⟨xws0_of (i := 825) (by decide +kernel) rfl, xws0_of (i := 826) (by decide +kernel) rfl, xws0_of (i := 827) (by decide +kernel) rfl, by decide⟩, fun h => absurd h (by decide), fun h => absurd h (by decide), fun h => absurd h (by decide), fun h => absurd h (by decide)⟩
theorem xCt_ok_131 : xCok (((6, 73), (mX4_sumBehind, 2, 0))) := ⟨xMok_mX4_sumBehind, by decide +kernel, fun _ => ⟨xws0_of (i := 557) (by decide +kernel) rfl, xws0_of (i := 558) (by decide +kernel) rfl, xws0_of (i := 559) (by decide +kernel) rfl, by decide⟩, fun h => absurd h (by decide), fun h => absurd h (by decide), fun h => absurd h (by decide), fun h => absurd h (by decide)⟩
theorem xCt_ok_132 : xCok (((6, 76), (mX5_sumBehind, 2, 0))) := ⟨xMok_mX5_sumBehind, by decide +kernel, fun _ => ⟨xws0_of (i := 829) (by decide +kernel) rfl, xws0_of (i := 830) (by decide +kernel) rfl, xws0_of (i := 831) (by decide +kernel) rfl, by decide⟩, fun h => absurd h (by decide), fun h => absurd h (by decide), fun h => absurd h (by decide), fun h => absurd h (by decide)⟩
theorem xCt_ok_133 : xCok (((6, 79), (mX4_put, 1, 0))) := ⟨xMok_mX4_put, by decide +kernel, fun _ => ⟨xws0_of (i := 561) (by decide +kernel) rfl, xws0_of (i := 562) (by decide +kernel) rfl, xws0_of (i := 563) (by decide +kernel) rfl, by decide⟩, fun h => absurd h (by decide), fun h => absurd h (by decide), fun h => absurd h (by decide), fun h => absurd h (by decide)⟩
theorem xCt_ok_134 : xCok (((6, 83), (mX5_put, 1, 0))) := ⟨xMok_mX5_put, by decide +kernel, fun _ => ⟨xws0_of (i := 833) (by decide +kernel) rfl, xws0_of (i := 834) (by decide +kernel) rfl, xws0_of (i := 835) (by decide +kernel) rfl, by decide⟩, fun h => absurd h (by decide), fun h => absurd h (by decide), fun h => absurd h (by decide), fun h => absurd h (by decide)⟩
theorem xCt_ok_135 : xCok (((6, 84), (mX4_wipe, 0, 0))) := ⟨xMok_mX4_wipe, by decide +kernel, fun _ => ⟨xws0_of (i := 573) (by decide +kernel) rfl, xws0_of (i := 574) (by decide +kernel) rfl, xws0_of (i := 575) (by decide +kernel) rfl, by decide⟩, fun h => absurd h (by decide), fun h => absurd h (by decide), fun h => absurd h (by decide), fun h => absurd h (by decide)⟩
theorem xCt_ok_136 : xCok (((6, 87), (mX5_wipe, 0, 0))) := ⟨xMok_mX5_wipe, by decide +kernel, fun _ => ⟨xws0_of (i := 838) (by decide +kernel) rfl, xws0_of (i := 839) (by decide +kernel) rfl, xws0_of (i := 840) (by decide +kernel) rfl, by decide⟩, fun h => absurd h (by decide), fun h => absurd h (by decide), fun h => absurd h (by decide), fun h => absurd h (by decide)⟩
theorem xCt_ok_137 : xCok (((6, 88), (mX4_fault, 0, 0))) := ⟨xMok_mX4_fault, by decide +kernel, fun _ => ⟨xws0_of (i := 577) (by decide +kernel) rfl, xws0_of (i := 578) (by decide +kernel) rfl, xws0_of (i := 579) (by decide +kernel) rfl, by decide⟩, fun h => absurd h (by decide), fun h => absurd h (by decide), fun h => absurd h (by decide), fun h => absurd h (by decide)⟩
theorem xCt_ok_138 : xCok (((6, 91), (mX5_fault, 0, 0))) := ⟨xMok_mX5_fault, by decide +kernel, fun _ => ⟨xws0_of (i := 842) (by decide +kernel) rfl, xws0_of (i := 843) (by decide +kernel) rfl, xws0_of (i := 844) (by decide +kernel) rfl, by decide⟩, fun h => absurd h (by decide), fun h => absurd h (by decide), fun h => absurd h (by decide), fun h => absurd h (by decide)⟩
theorem xCt_ok_139 : xCok (((6, 92), (mX4_undo, 0, 0))) := ⟨xMok_mX4_undo, by decide +kernel, fun _ => ⟨xws0_of (i := 581) (by decide +kernel) rfl, xws0_of (i := 582) (by decide +kernel) rfl, xws0_of (i := 583) (by decide +kernel) rfl, by decide⟩, fun h => absurd h (by decide), fun h => absurd h (by decide), fun h => absurd h (by decide), fun h => absurd h (by decide)⟩
theorem xCt_ok_140 : xCok (((6, 95), (mX5_undo, 0, 0))) := ⟨xMok_mX5_undo, by decide +kernel, fun _ => ⟨xws0_of (i := 877) (by decide +kernel) rfl, xws0_of (i := 878) (by decide +kernel) rfl, xws0_of (i := 879) (by decide +kernel) rfl, by decide⟩, fun h => absurd h (by decide), fun h => absurd h (by decide), fun h => absurd h (by decide), fun h => absurd h (by decide)⟩
theorem xCt_ok_141 : xCok (((6, 96), (mX4_save, 1, 0))) := ⟨xMok_mX4_save, by decide +kernel, fun _ => ⟨xws0_of (i := 589) (by decide +kernel) rfl, xws0_of (i := 590) (by decide +kernel) rfl, xws0_of (i := 591) (by decide +kernel) rfl, by decide⟩, fun h => absurd h (by decide), fun h => absurd h (by decide), fun h => absurd h (by decide), fun h => absurd h (by decide)⟩
theorem xCt_ok_142 : xCok (((6, 99), (mX5_save, 1, 0))) := ⟨xMok_mX5_save, by decide +kernel, fun _ => ⟨xws0_of (i := 881) (by decide +kernel) rfl, xws0_of (i := 882) (by decide +kernel) rfl, xws0_of (i := 883) (by decide +kernel) rfl, by decide⟩, fun h => absurd h (by decide), fun h => absurd h (by decide), fun h => absurd h (by decide), fun h => absurd h (by decide)⟩
theorem xCt_ok_143 : xCok (((6, 100), (mX4_restore, 1, 0))) := ⟨xMok_mX4_restore, by decide +kernel, fun _ => ⟨xws0_of (i := 596) (by decide +kernel) rfl, xws0_of (i := 597) (by decide +kernel) rfl, xws0_of (i := 598) (by decide +kernel) rfl, by decide⟩, fun h => absurd h (by decide), fun h => absurd h (by decide), fun h => absurd h (by decide), fun h => absurd h (by decide)⟩
theorem xCt_ok_144 : xCok (((6, 103), (mX5_restore, 1, 0))) := ⟨xMok_mX5_restore, by decide +kernel, fun _ => ⟨xws0_of (i := 885) (by decide +kernel) rfl, xws0_of (i := 886) (by decide +kernel) rfl, xws0_of (i := 887) (by decide +kernel) rfl, by decide⟩, fun h => absurd h (by decide), fun h => absurd h (by decide), fun h => absurd h (by decide), fun h => absurd h (by decide)⟩
theorem xCt_ok_145 : xCok (((7, 335), (mJ0_coder_7d493, 0, 0))) := ⟨xMok_mJ0_coder_7d493, by decide +kernel, fun _ => ⟨xws0_of (i := 310) (by decide +kernel) rfl, xws0_of (i := 311) (by decide +kernel) rfl, xws0_of (i := 312) (by decide +kernel) rfl, by decide⟩, fun h => absurd h (by decide), fun h => absurd h (by decide), fun h => absurd h (by decide), fun h => absurd h (by decide)⟩
theorem xCt_ok_146 : xCok (((7, 492), (mJ0_isLatin1_aae02, 0, 0))) := ⟨xMok_mJ0_isLatin1_aae02, by decide +kernel, fun _ => ⟨xws0_of (i := 300) (by decide +kernel) rfl, xws0_of (i := 301) (by decide +kernel) rfl, xws0_of (i := 302) (by decide +kernel) rfl, by decide⟩, fun h => absurd h (by decide), fun h => absurd h (by decide), fun h => absurd h (by decide), fun h => absurd h (by decide)⟩
theorem xCt_ok_147 : xCok (((7, 505), (mJ0_length_8abf5, 0, 0))) := ⟨xMok_mJ0_length_8abf5, by decide +kernel, fun _ => ⟨xws0_of (i := 306) (by decide +kernel) rfl, xws0_of (i := 307) (by decide +kernel) rfl, xws0_of (i := 308) (by decide +kernel) rfl, by decide⟩, fun h => absurd h (by decide), fun h => absurd h (by decide), fun h => absurd h (by decide), fun h => absurd h (by decide)⟩
theorem xCt_ok_148 : xCok (((7, 633), (mJ0_indexOf_7cf53, 2, 0))) := ⟨xMok_mJ0_indexOf_7cf53, by decide +kernel, fun _ => ⟨xws0_of (i := 296) (by decide +kernel) rfl, xws0_of (i := 297) (by decide +kernel) rfl, xws0_of (i := 298) (by decide +kernel) rfl, by decide⟩, fun h => absurd h (by decide), fun h => absurd h (by decide), fun h => absurd h (by decide), fun h => absurd h (by decide)⟩
theorem xCt_ok_149 : xCok (((7, 637), (mJ1_indexOf_4cfef, 4, 1))) := ⟨xMok_mJ1_indexOf_4cfef, by decide +kernel, fun h => absurd h (by decide), fun _ => ⟨xws0_of (i := 314) (by decide +kernel) rfl, xws0_of (i := 315) (by decide +kernel) rfl⟩, fun h => absurd h (by decide), fun h => absurd h (by decide), fun h => absurd h (by decide)⟩
theorem xCt_ok_150 : xCok (((8, 88), (mJ1_canEncode_9a6ad, 1, 1))) := ⟨xMok_mJ1_canEncode_9a6ad, by decide +kernel, fun h => absurd h (by decide), fun _ => ⟨xws0_of (i := 317) (by decide +kernel) rfl, xws0_of (i := 318) (by decide +kernel) rfl⟩, fun h => absurd h (by decide), fun h => absurd h (by decide), fun h => absurd h (by decide)⟩
theorem xCt_ok_151 : xCok (((8, 95), (mJ1_indexOfChar_4cfef, 4, 1))) := ⟨xMok_mJ1_indexOfChar_4cfef, by decide +kernel, fun h => absurd h (by decide), fun _ => ⟨xws0_of (i := 326) (by decide +kernel) rfl, xws0_of (i := 327) (by decide +kernel) rfl⟩, fun h => absurd h (by decide), fun h => absurd h (by decide), fun h => absurd h (by decide)⟩
set_option maxRecDepth 4000 in
theorem xCt_ok : ∀ e ∈ xCt, xCok e := List.forall_mem_cons.mpr ⟨xCt_ok_0, List.forall_mem_cons.mpr ⟨xCt_ok_1, List.forall_mem_cons.mpr ⟨xCt_ok_2, List.forall_mem_cons.mpr ⟨xCt_ok_3, List.forall_mem_cons.mpr ⟨xCt_ok_4, List.forall_mem_cons.mpr ⟨xCt_ok_5, List.forall_mem_cons.mpr ⟨xCt_ok_6, List.forall_mem_cons.mpr ⟨xCt_ok_7, List.forall_mem_cons.mpr ⟨xCt_ok_8, List.forall_mem_cons.mpr ⟨xCt_ok_9, List.forall_mem_cons.mpr ⟨xCt_ok_10, List.forall_mem_cons.mpr ⟨xCt_ok_11, List.forall_mem_cons.mpr ⟨xCt_ok_12, List.forall_mem_cons.mpr ⟨xCt_ok_13, List.forall_mem_cons.mpr ⟨xCt_ok_14, List.forall_mem_cons.mpr ⟨xCt_ok_15, List.forall_mem_cons.mpr ⟨xCt_ok_16, List.forall_mem_cons.mpr ⟨xCt_ok_17, List.forall_mem_cons.mpr ⟨xCt_ok_18, List.forall_mem_cons.mpr ⟨xCt_ok_19, List.forall_mem_cons.mpr ⟨xCt_ok_20, List.forall_mem_cons.mpr ⟨xCt_ok_21, List.forall_mem_cons.mpr ⟨xCt_ok_22, List.forall_mem_cons.mpr ⟨xCt_ok_23, List.forall_mem_cons.mpr ⟨xCt_ok_24, List.forall_mem_cons.mpr ⟨xCt_ok_25, List.forall_mem_cons.mpr ⟨xCt_ok_26, List.forall_mem_cons.mpr ⟨xCt_ok_27, List.forall_mem_cons.mpr ⟨xCt_ok_28, List.forall_mem_cons.mpr ⟨xCt_ok_29, List.forall_mem_cons.mpr ⟨xCt_ok_30, List.forall_mem_cons.mpr ⟨xCt_ok_31, List.forall_mem_cons.mpr ⟨xCt_ok_32, List.forall_mem_cons.mpr ⟨xCt_ok_33, List.forall_mem_cons.mpr ⟨xCt_ok_34, List.forall_mem_cons.mpr ⟨xCt_ok_35, List.forall_mem_cons.mpr ⟨xCt_ok_36, List.forall_mem_cons.mpr ⟨xCt_ok_37, List.forall_mem_cons.mpr ⟨xCt_ok_38, List.forall_mem_cons.mpr ⟨xCt_ok_39, List.forall_mem_cons.mpr ⟨xCt_ok_40, List.forall_mem_cons.mpr ⟨xCt_ok_41, List.forall_mem_cons.mpr ⟨xCt_ok_42, List.forall_mem_cons.mpr ⟨xCt_ok_43, List.forall_mem_cons.mpr ⟨xCt_ok_44, List.forall_mem_cons.mpr ⟨xCt_ok_45, List.forall_mem_cons.mpr ⟨xCt_ok_46, List.forall_mem_cons.mpr ⟨xCt_ok_47, List.forall_mem_cons.mpr ⟨xCt_ok_48, List.forall_mem_cons.mpr ⟨xCt_ok_49, List.forall_mem_cons.mpr ⟨xCt_ok_50, List.forall_mem_cons.mpr ⟨xCt_ok_51, List.forall_mem_cons.mpr ⟨xCt_ok_52, List.forall_mem_cons.mpr ⟨xCt_ok_53, List.forall_mem_cons.mpr ⟨xCt_ok_54, List.forall_mem_cons.mpr ⟨xCt_ok_55, List.forall_mem_cons.mpr ⟨xCt_ok_56, List.forall_mem_cons.mpr ⟨xCt_ok_57, List.forall_mem_cons.mpr ⟨xCt_ok_58, List.forall_mem_cons.mpr ⟨xCt_ok_59, List.forall_mem_cons.mpr ⟨xCt_ok_60, List.forall_mem_cons.mpr ⟨xCt_ok_61, List.forall_mem_cons.mpr ⟨xCt_ok_62, List.forall_mem_cons.mpr ⟨xCt_ok_63, List.forall_mem_cons.mpr ⟨xCt_ok_64, List.forall_mem_cons.mpr ⟨xCt_ok_65, List.forall_mem_cons.mpr ⟨xCt_ok_66, List.forall_mem_cons.mpr ⟨xCt_ok_67, List.forall_mem_cons.mpr ⟨xCt_ok_68, List.forall_mem_cons.mpr ⟨xCt_ok_69, List.forall_mem_cons.mpr ⟨xCt_ok_70, List.forall_mem_cons.mpr ⟨xCt_ok_71, List.forall_mem_cons.mpr ⟨xCt_ok_72, List.forall_mem_cons.mpr ⟨xCt_ok_73, List.forall_mem_cons.mpr ⟨xCt_ok_74, List.forall_mem_cons.mpr ⟨xCt_ok_75, List.forall_mem_cons.mpr ⟨xCt_ok_76, List.forall_mem_cons.mpr ⟨xCt_ok_77, List.forall_mem_cons.mpr ⟨xCt_ok_78, List.forall_mem_cons.mpr ⟨xCt_ok_79, List.forall_mem_cons.mpr ⟨xCt_ok_80, List.forall_mem_cons.mpr ⟨xCt_ok_81, List.forall_mem_cons.mpr ⟨xCt_ok_82, List.forall_mem_cons.mpr ⟨xCt_ok_83, List.forall_mem_cons.mpr ⟨xCt_ok_84, List.forall_mem_cons.mpr ⟨xCt_ok_85, List.forall_mem_cons.mpr ⟨xCt_ok_86, List.forall_mem_cons.mpr ⟨xCt_ok_87, List.forall_mem_cons.mpr ⟨xCt_ok_88, List.forall_mem_cons.mpr ⟨xCt_ok_89, List.forall_mem_cons.mpr ⟨xCt_ok_90, List.forall_mem_cons.mpr ⟨xCt_ok_91, List.forall_mem_cons.mpr ⟨xCt_ok_92, List.forall_mem_cons.mpr ⟨xCt_ok_93, List.forall_mem_cons.mpr ⟨xCt_ok_94, List.forall_mem_cons.mpr ⟨xCt_ok_95, List.forall_mem_cons.mpr ⟨xCt_ok_96, List.forall_mem_cons.mpr ⟨xCt_ok_97, List.forall_mem_cons.mpr ⟨xCt_ok_98, List.forall_mem_cons.mpr ⟨xCt_ok_99, List.forall_mem_cons.mpr ⟨xCt_ok_100, List.forall_mem_cons.mpr ⟨xCt_ok_101, List.forall_mem_cons.mpr ⟨xCt_ok_102, List.forall_mem_cons.mpr ⟨xCt_ok_103, List.forall_mem_cons.mpr ⟨xCt_ok_104, List.forall_mem_cons.mpr ⟨xCt_ok_105, List.forall_mem_cons.mpr ⟨xCt_ok_106, List.forall_mem_cons.mpr ⟨xCt_ok_107, List.forall_mem_cons.mpr ⟨xCt_ok_108, List.forall_mem_cons.mpr ⟨xCt_ok_109, List.forall_mem_cons.mpr ⟨xCt_ok_110, List.forall_mem_cons.mpr ⟨xCt_ok_111, List.forall_mem_cons.mpr ⟨xCt_ok_112, List.forall_mem_cons.mpr ⟨xCt_ok_113, List.forall_mem_cons.mpr ⟨xCt_ok_114, List.forall_mem_cons.mpr ⟨xCt_ok_115, List.forall_mem_cons.mpr ⟨xCt_ok_116, List.forall_mem_cons.mpr ⟨xCt_ok_117, List.forall_mem_cons.mpr ⟨xCt_ok_118, List.forall_mem_cons.mpr ⟨xCt_ok_119, List.forall_mem_cons.mpr ⟨xCt_ok_120, List.forall_mem_cons.mpr ⟨xCt_ok_121, List.forall_mem_cons.mpr ⟨xCt_ok_122, List.forall_mem_cons.mpr ⟨xCt_ok_123, List.forall_mem_cons.mpr ⟨xCt_ok_124, List.forall_mem_cons.mpr ⟨xCt_ok_125, List.forall_mem_cons.mpr ⟨xCt_ok_126, List.forall_mem_cons.mpr ⟨xCt_ok_127, List.forall_mem_cons.mpr ⟨xCt_ok_128, List.forall_mem_cons.mpr ⟨xCt_ok_129, List.forall_mem_cons.mpr ⟨xCt_ok_130, List.forall_mem_cons.mpr ⟨xCt_ok_131, List.forall_mem_cons.mpr ⟨xCt_ok_132, List.forall_mem_cons.mpr ⟨xCt_ok_133, List.forall_mem_cons.mpr ⟨xCt_ok_134, List.forall_mem_cons.mpr ⟨xCt_ok_135, List.forall_mem_cons.mpr ⟨xCt_ok_136, List.forall_mem_cons.mpr ⟨xCt_ok_137, List.forall_mem_cons.mpr ⟨xCt_ok_138, List.forall_mem_cons.mpr ⟨xCt_ok_139, List.forall_mem_cons.mpr ⟨xCt_ok_140, List.forall_mem_cons.mpr ⟨xCt_ok_141, List.forall_mem_cons.mpr ⟨xCt_ok_142, List.forall_mem_cons.mpr ⟨xCt_ok_143, List.forall_mem_cons.mpr ⟨xCt_ok_144, List.forall_mem_cons.mpr ⟨xCt_ok_145, List.forall_mem_cons.mpr ⟨xCt_ok_146, List.forall_mem_cons.mpr ⟨xCt_ok_147, List.forall_mem_cons.mpr ⟨xCt_ok_148, List.forall_mem_cons.mpr ⟨xCt_ok_149, List.forall_mem_cons.mpr ⟨xCt_ok_150, List.forall_mem_cons.mpr ⟨xCt_ok_151, fun _ h => absurd h List.not_mem_nil⟩⟩⟩⟩⟩⟩⟩⟩⟩⟩⟩⟩⟩⟩⟩⟩⟩⟩⟩⟩⟩⟩⟩⟩⟩⟩⟩⟩⟩⟩⟩⟩⟩⟩⟩⟩⟩⟩⟩⟩⟩⟩⟩⟩⟩⟩⟩⟩⟩⟩⟩⟩⟩⟩⟩⟩⟩⟩⟩⟩⟩⟩⟩⟩⟩⟩⟩⟩⟩⟩⟩⟩⟩⟩⟩⟩⟩⟩⟩⟩⟩⟩⟩⟩⟩⟩⟩⟩⟩⟩⟩⟩⟩⟩⟩⟩⟩⟩⟩⟩⟩⟩⟩⟩⟩⟩⟩⟩⟩⟩⟩⟩⟩⟩⟩⟩⟩⟩⟩⟩⟩⟩⟩⟩⟩⟩⟩⟩⟩⟩⟩⟩⟩⟩⟩⟩⟩⟩⟩⟩⟩⟩⟩⟩⟩⟩⟩⟩⟩⟩⟩⟩
end
section
/-! ===== what the pure machine computes, the machine does ===== -/
def xA (Bs : Nat) : Nat → Prop := fun q => Bs ≤ q
def xtys (cy : Nat → ClassId) : List (ClassId × FieldType) := [(cy 7, .int), (cy 8, .char), (cy 9, .boolean), (cy 10, .object RX0), (cy 11, .object RX2)]
def xfv (kd : Nat) (r : Nat → Option Nat) (v : Nat → Int32) : Nat → Value := fun k => if xisR kd k = true then va_rf (r k) else .int (v k)
def xat (cy : Nat → ClassId) (D : va_G) (S : xSh) (V : xV) (a : Nat) (H : Heap) : Prop :=
  (1 ≤ xkd S a → xkd S a ≤ 6 → t_OB a (D.1 (xkd S a - 1)) (xN (xkd S a)) (D.2 (xkd S a - 1)) H (xfv (xkd S a) (xrf S a) (V a))) ∧
  (7 ≤ xkd S a → xkd S a ≤ 9 → H[a]? = some (arrV (cy (xkd S a)) (xln S a) (fun j => .int (V a j)))) ∧
  (10 ≤ xkd S a → xkd S a ≤ 11 → H[a]? = some (arrV (cy (xkd S a)) (xln S a) (fun j => va_rf (xrf S a j))))
/-- the own cells -/
def xP (cy : Nat → ClassId) (D : va_G) (Bs : Nat) (S : xSh) (V : xV) (H : Heap) : Prop :=
  H.size = S.2.1 ∧ ∀ a : Nat, (1 ≤ xkd S a → xkd S a ≤ 11 → Bs ≤ a ∧ a < S.2.1) ∧ xat cy D S V a H
/-- the cells that were there before: read only -/
def xEx (Bs : Nat) (S : xSh) (V : xV) (U : State) (H : Heap) : Prop := ∀ a : Nat,
  (xkd S a = 14 → va_T .int a (xln S a) (fun j => .int (V a j)) (xA Bs) U H) ∧
  (xkd S a = 12 → va_T .byte a (xln S a) (fun j => .int (V a j)) (xA Bs) U H) ∧
  (xkd S a = 13 → va_O "java/lang/String" a (xA Bs) U H ∧ va_OF "java/lang/String" "value" "[B" (va_rf (xrf S a 0)) a (xA Bs) U H ∧ va_OF "java/lang/String" "coder" "B" (.int (V a 1)) a (xA Bs) U H)
/-- statics, the text, the links of nest mates -/
def xSo (Bs : Nat) (E : Nat × Nat × Nat) (U : State) (H : Heap) : Prop :=
  va_Z "TurnSlots" "LEAST_N" "[I" (.ref E.1) (xA Bs) U H ∧ va_Z "TurnSlots" "GREATEST_N" "[I" (.ref E.2.1) (xA Bs) U H ∧ va_Z "java/lang/String" "COMPACT_STRINGS" "Z" (.int 1) (xA Bs) U H ∧
  vk_R (xcn xStrKey.1) xStrKey.2 "astlfwb" E.2.2 U ∧ va_AO RX0 U ∧ va_AO RX2 U ∧ ∀ w ∈ xNw, va_Nw w U
theorem xEx.moved {Bs : Nat} {S : xSh} {V : xV} {u U : State} {H : Heap} (hvm : u.vm.Alike U.vm) (h : xEx Bs S V u H) : xEx Bs S V U H := fun a =>
  ⟨fun k => ((h a).1 k).moved hvm, fun k => ((h a).2.1 k).moved hvm, fun k => ⟨((h a).2.2 k).1.moved hvm, va_OF.moved hvm ((h a).2.2 k).2.1, va_OF.moved hvm ((h a).2.2 k).2.2⟩⟩
theorem xEx.kept {Bs : Nat} {S : xSh} {V : xV} {U : State} {H H1 : Heap} (h : xEx Bs S V U H) (hq : ∀ a : Nat, a < H.size → ¬ xA Bs a → H1[a]? = H[a]?) : xEx Bs S V U H1 := fun a =>
  ⟨fun k => ((h a).1 k).kept hq, fun k => ((h a).2.1 k).kept hq, fun k => ⟨((h a).2.2 k).1.kept hq, ((h a).2.2 k).2.1.kept hq, ((h a).2.2 k).2.2.kept hq⟩⟩
theorem xSo.same {Bs : Nat} {E : Nat × Nat × Nat} {u U : State} {H : Heap} (hvm : U.vm = u.vm) (h : xSo Bs E u H) : xSo Bs E U H := by
  have ha : u.vm.Alike U.vm := by rw [hvm]; exact Vm.Alike.refl u.vm
  obtain ⟨h1, h2, h3, h4, h5, h6, h7⟩ := h
  refine ⟨h1.moved ha, h2.moved ha, h3.moved ha, vk_R.same hvm h4, h5.moved ha, h6.moved ha, fun w hw => ?_⟩
  rcases xNw_kind w hw with ⟨_, _, _, _, rfl⟩ | ⟨_, _, _, _, _, _, rfl⟩
  · exact va_Nw.same rfl hvm.symm (h7 _ hw)
  · exact va_Nw.same rfl hvm.symm (h7 _ hw)
theorem xSo.warm {Bs : Nat} {E : Nat × Nat × Nat} {s U : State} {H : Heap} (hW : s.WarmedH U.vm) (h : xSo Bs E s H) : xSo Bs E U H := by
  obtain ⟨h1, h2, h3, h4, h5, h6, h7⟩ := h
  refine ⟨h1.moved hW.alike, h2.moved hW.alike, h3.moved hW.alike, h4.warm hW, h5.moved hW.alike, h6.moved hW.alike, fun w hw => ?_⟩
  rcases xNw_kind w hw with ⟨_, _, _, _, rfl⟩ | ⟨_, _, _, _, _, _, rfl⟩
  · exact va_Nw.warmM hW (h7 _ hw)
  · exact va_Nw.warmF hW (h7 _ hw)
theorem xSo.kept {Bs : Nat} {E : Nat × Nat × Nat} {U : State} {H H1 : Heap} (h : xSo Bs E U H) (hq : ∀ a : Nat, a < H.size → ¬ xA Bs a → H1[a]? = H[a]?) : xSo Bs E U H1 :=
  ⟨h.1.kept hq, h.2.1.kept hq, h.2.2.1.kept hq, h.2.2.2⟩
/-- the whole picture at a state -/
def xPic (cy : Nat → ClassId) (D : va_G) (Bs : Nat) (E : Nat × Nat × Nat) (S : xSh) (V : xV) (U : State) : Prop :=
  xP cy D Bs S V U.heap ∧ va_K D vwCl (xtys cy) U ∧ xEx Bs S V U U.heap ∧ xSo Bs E U U.heap ∧ Bs ≤ U.heap.size
def xQ (cy : Nat → ClassId) (D : va_G) (Bs : Nat) (E : Nat × Nat × Nat) (r : Option Value × xSh × xV) : Array Value → State → Outcome → State → Prop := fun _ st oc t =>
  oc = .returned r.1 ∧ xPic cy D Bs E r.2.1 r.2.2 t ∧ va_F (xA Bs) st t
def xrm (h mc ms : Nat) : Room := { frames := h, cells := mc, slots := ms, locals := 32 * h }
def xMet (l : Launch) (cy : Nat → ClassId) (D : va_G) (Bs : Nat) (E : Nat × Nat × Nat) (y : xM) (as : List Value) (S : xSh) (V : xV) (r : Option Value × xSh × xV) : Prop :=
  Met l y.1 (xwsOf y) (xrm (xht y) (r.2.1.2.1 - S.2.1) (r.2.1.2.2 - S.2.2)) (va_Pc as (xPic cy D Bs E S V)) (xQ cy D Bs E r) (r.2.1.2.1 - S.2.1) (r.2.1.2.2 - S.2.2) (xA Bs)
/-! the locals -/
def xlv (ls : List (Option Value)) : List (Nat × Value) := (List.range ls.length).filterMap (fun i => (xlocAt ls i).map (fun v => (i, v)))
theorem xlocAt_iff {ls : List (Option Value)} {i : Nat} {v : Value} : xlocAt ls i = some v ↔ ls[i]? = some (some v) := by
  unfold xlocAt
  cases h : ls[i]? with
  | none => simp
  | some o => cases o <;> simp
theorem xlv_mem {ls : List (Option Value)} {i : Nat} {v : Value} : (i, v) ∈ xlv ls ↔ ls[i]? = some (some v) := by
  unfold xlv
  rw [List.mem_filterMap]
  constructor
  · rintro ⟨j, -, h⟩
    cases hv : xlocAt ls j with
    | none => rw [hv] at h; cases h
    | some w =>
      rw [hv] at h
      cases h
      exact xlocAt_iff.mp hv
  · intro h
    refine ⟨i, List.mem_range.mpr ?_, by rw [xlocAt_iff.mpr h]; rfl⟩
    exact (List.getElem?_eq_some_iff.mp h).1
def xLo (lsA : Array Slot) (n : Nat) (ls : List (Option Value)) : Prop := ls.length = n ∧ lv_has lsA n (xlv ls)
theorem xLo_at {lsA : Array Slot} {n : Nat} {ls : List (Option Value)} (h : xLo lsA n ls) {i : Nat} {v : Value} (hv : xlocAt ls i = some v) : lsA[i]? = some (.val v) := h.2.2.2 (i, v) (xlv_mem.mpr (xlocAt_iff.mp hv))
theorem xclr_none {ls : List (Option Value)} {j : Nat} (h : xlocAt ls j = none) : xclr ls (j + 1) = ls := by
  show (match xlocAt ls j with | some v => if v.category = 2 then ls.set j none else ls | none => ls) = ls
  rw [h]
theorem xclr_some {ls : List (Option Value)} {j : Nat} {v : Value} (h : xlocAt ls j = some v) : xclr ls (j + 1) = if v.category = 2 then ls.set j none else ls := by
  show (match xlocAt ls j with | some v => if v.category = 2 then ls.set j none else ls | none => ls) = _
  rw [h]
theorem xclr_len (ls : List (Option Value)) (i : Nat) : (xclr ls i).length = ls.length := by
  cases i with
  | zero => rfl
  | succ j =>
    cases hv : xlocAt ls j with
    | none => rw [xclr_none hv]
    | some v =>
      rw [xclr_some hv]
      split <;> simp
theorem xclr_at {ls : List (Option Value)} {i j : Nat} {w : Value} (h : (xclr ls i)[j]? = some (some w)) : ls[j]? = some (some w) ∧ (j + 1 = i → ¬ w.category = 2) := by
  cases i with
  | zero => exact ⟨h, fun e => by omega⟩
  | succ k =>
    cases hk : xlocAt ls k with
    | none =>
      rw [xclr_none hk] at h
      refine ⟨h, fun e => ?_⟩
      have e2 : j = k := by omega
      subst e2
      have h2 : ls[j]? = some (some w) := h
      rw [xlocAt_iff.mpr h2] at hk
      cases hk
    | some v =>
      rw [xclr_some hk] at h
      have h' : (if v.category = 2 then ls.set k none else ls)[j]? = some (some w) := h
      by_cases hc : v.category = 2
      · rw [if_pos hc] at h'
        by_cases hj : k = j
        · subst hj
          rw [List.getElem?_set_self'] at h'
          cases hq : ls[k]? with
          | none => rw [hq] at h'; cases h'
          | some o => rw [hq] at h'; cases h'
        · rw [List.getElem?_set_ne hj] at h'
          exact ⟨h', fun e => absurd (by omega) hj⟩
      · rw [if_neg hc] at h'
        refine ⟨h', fun e => ?_⟩
        have e2 : j = k := by omega
        subst e2
        rw [xlocAt_iff.mpr h'] at hk
        cases hk
        exact hc
theorem xLo_st1 {lsA ls' : Array Slot} {n i : Nat} {ls : List (Option Value)} {v : Value} (h : xLo lsA n ls) (h' : lv_has ls' n ((i, v) :: (xlv ls).filter (fun q => !(q.1 == i) && !(q.1 + 1 == i && q.2.category == 2)))) : xLo ls' n (xst1 ls i v) := by
  refine ⟨by unfold xst1; rw [List.length_set, xclr_len]; exact h.1, h'.1, h'.2.1, fun q hq => h'.2.2 q ?_⟩
  obtain ⟨j, w⟩ := q
  have h1 := xlv_mem.mp hq
  unfold xst1 at h1
  by_cases hj : i = j
  · subst hj
    rw [List.getElem?_set_self'] at h1
    cases hq2 : (xclr ls i)[i]? with
    | none => rw [hq2] at h1; cases h1
    | some o =>
      rw [hq2] at h1
      cases h1
      exact List.mem_cons_self
  · rw [List.getElem?_set_ne hj] at h1
    obtain ⟨h2, h3⟩ := xclr_at h1
    refine List.mem_cons_of_mem _ (List.mem_filter.mpr ⟨xlv_mem.mpr h2, ?_⟩)
    by_cases hc : j + 1 = i
    · have := h3 hc
      simp [Ne.symm hj, this]
    · simp [Ne.symm hj, hc]
theorem xLo_st2 {lsA ls' : Array Slot} {n i : Nat} {ls : List (Option Value)} {v : Value} (h : xLo lsA n ls) (h' : lv_has ls' n ((i, v) :: (xlv ls).filter (fun q => !(q.1 == i) && (!(q.1 == i + 1) && !(q.1 + 1 == i && q.2.category == 2))))) : xLo ls' n (xst2 ls i v) := by
  refine ⟨by unfold xst2; rw [List.length_set, List.length_set, xclr_len]; exact h.1, h'.1, h'.2.1, fun q hq => h'.2.2 q ?_⟩
  obtain ⟨j, w⟩ := q
  have h1 := xlv_mem.mp hq
  unfold xst2 at h1
  by_cases hj1 : i + 1 = j
  · subst hj1
    rw [List.getElem?_set_self'] at h1
    cases hq2 : ((xclr ls i).set i (some v))[i + 1]? with
    | none => rw [hq2] at h1; cases h1
    | some o => rw [hq2] at h1; cases h1
  · rw [List.getElem?_set_ne hj1] at h1
    by_cases hj : i = j
    · subst hj
      rw [List.getElem?_set_self'] at h1
      cases hq2 : (xclr ls i)[i]? with
      | none => rw [hq2] at h1; cases h1
      | some o =>
        rw [hq2] at h1
        cases h1
        exact List.mem_cons_self
    · rw [List.getElem?_set_ne hj] at h1
      obtain ⟨h2, h3⟩ := xclr_at h1
      refine List.mem_cons_of_mem _ (List.mem_filter.mpr ⟨xlv_mem.mpr h2, ?_⟩)
      by_cases hc : j + 1 = i
      · have := h3 hc
        simp [Ne.symm hj, Ne.symm hj1, this]
      · simp [Ne.symm hj, Ne.symm hj1, hc]
theorem xargs_len (vs : List Value) : (xargs vs).length = (lg_sl vs).length := by
  induction vs with
  | nil => rfl
  | cons v vs ih =>
    unfold xargs lg_sl
    rw [List.flatMap_cons]
    by_cases h : v.category = 2
    · rw [if_pos h, if_pos h]; simp only [List.length_cons, List.length_append, ih, List.length_nil, lg_sl]; omega
    · rw [if_neg h, if_neg h]; simp only [List.length_cons, List.length_append, ih, List.length_nil, lg_sl]; omega
theorem xargs_at : ∀ (vs : List Value) (b i : Nat) (v : Value), (xargs vs)[i]? = some (some v) → (b + i, v) ∈ lv_args b vs := by
  intro vs
  induction vs with
  | nil => intro b i v h; simp [xargs] at h
  | cons w vs ih =>
    intro b i v h
    unfold xargs at h
    unfold lv_args
    by_cases hc : w.category = 2
    · rw [if_pos hc] at h
      rw [if_pos hc]
      match i, h with
      | 0, h => simp at h; subst h; exact List.mem_cons_self
      | 1, h => simp at h
      | i + 2, h =>
        have h2 : (xargs vs)[i]? = some (some v) := by simpa using h
        have := ih (b + 2) i v h2
        rw [show b + (i + 2) = b + 2 + i by omega]
        exact List.mem_cons_of_mem _ this
    · rw [if_neg hc] at h
      rw [if_neg hc]
      match i, h with
      | 0, h => simp at h; subst h; exact List.mem_cons_self
      | i + 1, h =>
        have h2 : (xargs vs)[i]? = some (some v) := by simpa using h
        have := ih (b + 1) i v h2
        rw [show b + (i + 1) = b + 1 + i by omega]
        exact List.mem_cons_of_mem _ this
theorem xLo_entry (vs : List Value) {n : Nat} (h : (xargs vs).length ≤ n) : xLo ((lg_sl vs ++ List.replicate (n - (lg_sl vs).length) Slot.unset).toArray) n (xlocs n vs) := by
  have hl := lv_entry vs (n := n) (by rw [← xargs_len]; exact h)
  refine ⟨by unfold xlocs; rw [List.length_append, List.length_replicate]; omega, hl.1, hl.2.1, fun q hq => hl.2.2 q ?_⟩
  obtain ⟨j, w⟩ := q
  have h1 := xlv_mem.mp hq
  unfold xlocs at h1
  by_cases hj : j < (xargs vs).length
  · rw [List.getElem?_append_left hj] at h1
    have := xargs_at vs 0 j w h1
    rwa [Nat.zero_add] at this
  · rw [List.getElem?_append_right (by omega), List.getElem?_replicate] at h1
    split at h1
    · cases h1
    · cases h1
end
section
/-! ===== a step of the pure machine is a step of the machine ===== -/
/-- what holds in a method, from its entry on -/
def xCx (cy : Nat → ClassId) (D : va_G) (Bs : Nat) (E : Nat × Nat × Nat) (p : Program) (R : Room) (s : State) (m : MethodId) (args : Array Value) (meth : Method) (c : Code) (mm : xM) : Prop :=
  p.tables.exec = Jvm.exec ∧ c.code = mm.2.1 ∧ c.maxLocals = mm.2.2.1 ∧ s.vm.findClass (xcn (xown mm)) = some m.cls ∧ meth.name = mm.1.name ∧ (∀ w ∈ xws0, w.before args s = true) ∧ va_K D vwCl (xtys cy) s ∧ xSo Bs E s s.heap ∧ Bs ≤ s.heap.size ∧ xht mm ≤ R.frames ∧ 32 * xht mm ≤ R.locals
section XST
variable {cy : Nat → ClassId} {D : va_G} {Bs : Nat} {E : Nat × Nat × Nat} {p : Program} {l : Launch} {e : Env} {R : Room} {s : State} {m : MethodId} {args : Array Value} {below : List Frame} {meth : Method} {c : Code} {Q : State → Prop} {mm : xM} {T0 Z0 : Nat}
theorem xCx.hx (h : xCx cy D Bs E p R s m args meth c mm) : p.tables.exec = Jvm.exec := h.1
theorem xCx.hb (h : xCx cy D Bs E p R s m args meth c mm) : c.code = mm.2.1 := h.2.1
theorem xCx.hml (h : xCx cy D Bs E p R s m args meth c mm) : c.maxLocals = mm.2.2.1 := h.2.2.1
theorem xCx.hown (h : xCx cy D Bs E p R s m args meth c mm) : s.vm.findClass (xcn (xown mm)) = some m.cls := h.2.2.2.1
theorem xCx.hnm (h : xCx cy D Bs E p R s m args meth c mm) : meth.name = mm.1.name := h.2.2.2.2.1
theorem xCx.hts (h : xCx cy D Bs E p R s m args meth c mm) : ∀ w ∈ xws0, w.before args s = true := h.2.2.2.2.2.1
theorem xCx.hK (h : xCx cy D Bs E p R s m args meth c mm) : va_K D vwCl (xtys cy) s := h.2.2.2.2.2.2.1
theorem xCx.hO (h : xCx cy D Bs E p R s m args meth c mm) : xSo Bs E s s.heap := h.2.2.2.2.2.2.2.1
theorem xCx.hB (h : xCx cy D Bs E p R s m args meth c mm) : Bs ≤ s.heap.size := h.2.2.2.2.2.2.2.2.1
theorem xCx.hfr (h : xCx cy D Bs E p R s m args meth c mm) : xht mm ≤ R.frames := h.2.2.2.2.2.2.2.2.2.1
theorem xCx.hlo (h : xCx cy D Bs E p R s m args meth c mm) : 32 * xht mm ≤ R.locals := h.2.2.2.2.2.2.2.2.2.2
end XST
/-- the machine, at this place of the method with cells as S and V say, comes to Q -/
def xG (cy : Nat → ClassId) (D : va_G) (Bs : Nat) (p : Program) (l : Launch) (e : Env) (R : Room) (s : State) (m : MethodId) (args : Array Value) (below : List Frame) (meth : Method) (c : Code) (Q : State → Prop) (n T0 Z0 : Nat) (pc : Nat) (ls : List (Option Value)) (st : List Value) (S : xSh) (V : xV) : Prop :=
  ∀ (H : Heap) (locs : List Loc) (lsA : Array Slot), xP cy D Bs S V H → va_S (xA Bs) s.heap H locs → xEx Bs S V s s.heap → xLo lsA n ls → W p l e R s m args below meth c H locs (S.2.1 - T0) (S.2.2 - Z0) Q (F0 m pc lsA st)
/-! kinds of objects -/
theorem xisR_ty {kd k : Nat} (h : xisR kd k = true) : (∃ t, xty kd k = .array t) ∨ (∃ t, xty kd k = .object t) := by
  unfold xisR at h
  split at h
  · rename_i t ht; exact Or.inl ⟨_, ht⟩
  · rename_i t ht; exact Or.inr ⟨_, ht⟩
  · cases h
theorem xkf (kd : Nat) (h1 : 1 ≤ kd) (h6 : kd ≤ 6) : vwCl[kd - 1]? = some (xcn (kd - 1), xT kd, xN kd) ∧ (∀ w ∈ u_ws (xcn (kd - 1)) (xT kd) (xN kd), w ∈ xws0) ∧ (∀ k, k < xN kd → parseFieldDescriptor (xT kd k).2.2.1 = some (xty kd k)) ∧ (∀ a, a < xN kd → ∀ b, b < xN kd → a ≠ b → (xT kd a).2.1 ≠ (xT kd b).2.1) ∧ (∀ k, k < xN kd → (xT kd k).2.2.2 = xisR kd k) ∧ (∀ k, k < xN kd → (xT kd k).1 = xcn (kd - 1)) ∧
    (∀ k, k < xN kd → xisR kd k = false → xty kd k = .int ∨ (xty kd k = .boolean ∧ xisZ kd k = true)) := by
  have r : kd = 1 ∨ kd = 2 ∨ kd = 3 ∨ kd = 4 ∨ kd = 5 ∨ kd = 6 := by omega
  rcases r with rfl | rfl | rfl | rfl | rfl | rfl
  · exact ⟨rfl, xw_lay_0, tyX0_ok, nmX0, by decide +kernel, by decide +kernel, by decide +kernel⟩
  · exact ⟨rfl, xw_lay_1, tyX1_ok, nmX1, by decide +kernel, by decide +kernel, by decide +kernel⟩
  · exact ⟨rfl, xw_lay_2, tyX2_ok, nmX2, by decide +kernel, by decide +kernel, by decide +kernel⟩
  · exact ⟨rfl, xw_lay_3, tyX3_ok, nmX3, by decide +kernel, by decide +kernel, by decide +kernel⟩
  · exact ⟨rfl, xw_lay_4, tyX4_ok, nmX4, by decide +kernel, by decide +kernel, by decide +kernel⟩
  · exact ⟨rfl, xw_lay_5, tyX5_ok, nmX5, by decide +kernel, by decide +kernel, by decide +kernel⟩
/-! stores -/
theorem xP_upd {cy : Nat → ClassId} {D : va_G} {Bs : Nat} {S S' : xSh} {V V' : xV} {H H' : Heap} {a : Nat} (hP : xP cy D Bs S V H) (e2 : H'.size = H.size) (e3 : ∀ q : Nat, q ≠ a → H'[q]? = H[q]?) (hT : S'.2.1 = S.2.1) (hk : xkd S' a = xkd S a) (ho : ∀ b, b ≠ a → S'.1 b = S.1 b ∧ V' b = V b) (ha : xat cy D S' V' a H') : xP cy D Bs S' V' H' := by
  refine ⟨by rw [e2, hT]; exact hP.1, fun b => ?_⟩
  by_cases hb : b = a
  · subst hb
    refine ⟨?_, ha⟩
    rw [hk, hT]
    exact (hP.2 b).1
  · obtain ⟨h1, h2⟩ := ho b hb
    have k1 : xkd S' b = xkd S b := by unfold xkd; rw [h1]
    have k2 : xln S' b = xln S b := by unfold xln; rw [h1]
    have k3 : xrf S' b = xrf S b := by funext q; unfold xrf; rw [h1]
    unfold xat
    rw [k1, k2, k3, h2, hT, e3 b hb]
    obtain ⟨g1, g2, g3, g4⟩ := hP.2 b
    exact ⟨g1, fun x y => (g2 x y).kept (e3 b hb), g3, g4⟩
theorem xEx_upd {Bs : Nat} {S S' : xSh} {V V' : xV} {U : State} {H : Heap} {a : Nat} (hE : xEx Bs S V U H) (hk : xkd S' a ≤ 11) (ho : ∀ b, b ≠ a → S'.1 b = S.1 b ∧ V' b = V b) : xEx Bs S' V' U H := by
  intro b
  by_cases hb : b = a
  · subst hb
    exact ⟨fun h => by omega, fun h => by omega, fun h => by omega⟩
  · obtain ⟨h1, h2⟩ := ho b hb
    have k1 : xkd S' b = xkd S b := by unfold xkd; rw [h1]
    have k2 : xln S' b = xln S b := by unfold xln; rw [h1]
    have k3 : xrf S' b = xrf S b := by funext q; unfold xrf; rw [h1]
    rw [k1, k2, k3, h2]
    exact hE b
theorem xup_o {V : xV} {S : xSh} {a j : Nat} {v : Int32} : ∀ b, b ≠ a → S.1 b = S.1 b ∧ xup V a j v b = V b := fun b hb => ⟨rfl, by funext i; simp [xup, hb]⟩
theorem xrow_o {V : xV} {S : xSh} {a : Nat} {f : Nat → Int32} : ∀ b, b ≠ a → S.1 b = S.1 b ∧ xrow V a f b = V b := fun b hb => ⟨rfl, by simp [xrow, hb]⟩
theorem xup_s (V : xV) (a j : Nat) (v : Int32) : xup V a j v a = upd (V a) j v := by funext i; simp [xup, upd]
theorem xsetr_o {V : xV} {S : xSh} {a k : Nat} {r : Option Nat} : ∀ b, b ≠ a → (xsetr S a k r).1 b = S.1 b ∧ V b = V b := fun b hb => ⟨by simp [xsetr, hb], rfl⟩
theorem xsetr_kd (S : xSh) (a k : Nat) (r : Option Nat) (b : Nat) : xkd (xsetr S a k r) b = xkd S b := by unfold xkd xsetr; by_cases h : b = a <;> simp [h]
theorem xsetr_ln (S : xSh) (a k : Nat) (r : Option Nat) (b : Nat) : xln (xsetr S a k r) b = xln S b := by unfold xln xsetr; by_cases h : b = a <;> simp [h]
theorem xsetr_s (S : xSh) (a k : Nat) (r : Option Nat) : xrf (xsetr S a k r) a = va_up (xrf S a) k r := by funext j; simp [xrf, xsetr, va_up]
theorem xnew_kd (S : xSh) (kd n z b : Nat) : xkd (xnew S kd n z) b = if b = S.2.1 then kd else xkd S b := by unfold xkd xnew; by_cases h : b = S.2.1 <;> simp [h]
theorem xnew_o {V : xV} {S : xSh} {kd n z : Nat} {f : Nat → Int32} : ∀ b, b ≠ S.2.1 → (xnew S kd n z).1 b = S.1 b ∧ xrow V S.2.1 f b = V b := fun b hb => ⟨by simp [xnew, hb], by simp [xrow, hb]⟩
theorem xP_new {cy : Nat → ClassId} {D : va_G} {Bs : Nat} {S : xSh} {V : xV} {H H' : Heap} {kd n z : Nat} {f : Nat → Int32} (hP : xP cy D Bs S V H) (hB : Bs ≤ H.size) (e2 : H'.size = H.size + 1) (e3 : ∀ q : Nat, q < H.size → H'[q]? = H[q]?) (ha : xat cy D (xnew S kd n z) (xrow V S.2.1 f) S.2.1 H') : xP cy D Bs (xnew S kd n z) (xrow V S.2.1 f) H' := by
  have hsz := hP.1
  refine ⟨by rw [e2, hsz]; rfl, fun b => ?_⟩
  by_cases hb : b = S.2.1
  · subst hb
    refine ⟨fun _ _ => ⟨by rw [← hsz]; exact hB, Nat.lt_succ_self _⟩, ha⟩
  · obtain ⟨h1, h2⟩ := xnew_o (V := V) (S := S) (kd := kd) (n := n) (z := z) (f := f) b hb
    have k1 : xkd (xnew S kd n z) b = xkd S b := by unfold xkd; rw [h1]
    have k2 : xln (xnew S kd n z) b = xln S b := by unfold xln; rw [h1]
    have k3 : xrf (xnew S kd n z) b = xrf S b := by funext q; unfold xrf; rw [h1]
    unfold xat
    rw [k1, k2, k3, h2]
    obtain ⟨g1, g2, g3, g4⟩ := hP.2 b
    have lt : 1 ≤ xkd S b → xkd S b ≤ 11 → b < H.size := fun x y => by rw [hsz]; exact (g1 x y).2
    refine ⟨fun x y => ⟨(g1 x y).1, Nat.lt_succ_of_lt (g1 x y).2⟩, fun x y => (g2 x y).kept (e3 b (lt x (by omega))), fun x y => ?_, fun x y => ?_⟩
    · rw [e3 b (lt (by omega) (by omega))]; exact g3 x y
    · rw [e3 b (lt (by omega) (by omega))]; exact g4 x y
end
section
/-! ===== the instructions that read or write cells ===== -/
section XOP
variable {cy : Nat → ClassId} {D : va_G} {Bs : Nat} {E : Nat × Nat × Nat} {p : Program} {l : Launch} {e : Env} {R : Room} {s : State} {m : MethodId} {args : Array Value} {below : List Frame} {meth : Method} {c : Code} {Q : State → Prop} {mm : xM} {T0 Z0 : Nat} {pc : Nat} {ls : List (Option Value)} {st : List Value} {S : xSh} {V : xV}
theorem g_getfield (hC : xCx cy D Bs E p R s m args meth c mm) {x kd j a : Nat} (hf : xassoc xFt (xkey mm x) = some (kd, j)) (hk : xkd S a = kd) (hd : decode mm.2.1 pc = .ok (.getfield x, 3)) (kk : xG cy D Bs p l e R s m args below meth c Q mm.2.2.1 T0 Z0 (pc + 3) ls ((if xisR kd j = true then va_rf (xrf S a j) else .int (V a j)) :: st) S V) : xG cy D Bs p l e R s m args below meth c Q mm.2.2.1 T0 Z0 pc ls (.ref a :: st) S V := by
  obtain ⟨hcase, hj, hw⟩ := xFt_ok _ (xassoc_mem hf)
  dsimp only at hcase hj hw
  intro H locs lsA hP hS hE hl
  have hlink := hC.hts _ hw
  rcases hcase with ⟨h1, h6⟩ | h13
  · obtain ⟨hc, hin, -⟩ := xkf kd h1 h6
    subst hk
    obtain ⟨cell, q1, q2, q3, q4⟩ := (hP.2 a).2.1 h1 h6
    obtain ⟨hS', hfc, kC, hkC, hkind⟩ := hC.hK.1 _ _ hc
    obtain ⟨cf, kf, fi, f, hi, hsl⟩ := hS' j hj
    exact W.getf hC.hx hC.hb hC.hown hlink hi (u_facts hfc hkC (u_lays hC.hts hin hj) hi).1 q1 (by rw [q3]; exact fun h => by cases h) (by rw [hsl]; exact q4 j hj) rfl rfl hd (kk H locs lsA hP hS hE hl)
  · have hk13 : xkd S a = 13 := by rw [hk, h13]
    obtain ⟨-, hval, hcod⟩ := (hE a).2.2 hk13
    subst h13
    have hj2 : j = 0 ∨ j = 1 := by (have : j < 2 := hj); omega
    rcases hj2 with rfl | rfl
    · exact vk_getf hC.hx hC.hb hval hS hC.hown hlink (fun _ h => h) hd (kk H locs lsA hP hS hE hl)
    · exact vk_getf hC.hx hC.hb hcod hS hC.hown hlink (fun _ h => h) hd (kk H locs lsA hP hS hE hl)
theorem g_putI (hC : xCx cy D Bs E p R s m args meth c mm) {x kd j a : Nat} {v : Int32} (hf : xassoc xFt (xkey mm x) = some (kd, j)) (hk : xkd S a = kd) (h6 : kd ≤ 6) (hR : xisR kd j = false) (hZ : xisZ kd j = true → v = 0 ∨ v = 1) (hd : decode mm.2.1 pc = .ok (.putfield x, 3)) (kk : xG cy D Bs p l e R s m args below meth c Q mm.2.2.1 T0 Z0 (pc + 3) ls st S (xup V a j v)) : xG cy D Bs p l e R s m args below meth c Q mm.2.2.1 T0 Z0 pc ls (.int v :: .ref a :: st) S V := by
  obtain ⟨hcase, hj, hw⟩ := xFt_ok _ (xassoc_mem hf)
  dsimp only at hcase hj hw
  intro H locs lsA hP hS hE hl
  have hlink := hC.hts _ hw
  have h1 : 1 ≤ kd := by omega
  obtain ⟨hc, hin, hty, hnm, hfn, hdc, hkind0⟩ := xkf kd h1 h6
  subst hk
  have hat := (hP.2 a).2.1 h1 h6
  obtain ⟨cell, q1, q2, q3, q4⟩ := hat
  obtain ⟨hS', hfc, kC, hkC, hkind⟩ := hC.hK.1 _ _ hc
  obtain ⟨cf, kf, fi, f, hi, hsl⟩ := hS' j hj
  have hap := va_apart (own := xcn (xkd S a - 1)) hC.hts hin _ hty hnm hC.hK hc
  have hlay := hC.hts _ (hin _ (u_in_lay hj))
  unfold u_lay at hlay
  rw [if_neg (by rw [hfn j hj, hR]; decide)] at hlay
  have hst := (u_facts hfc hkC (u_lays hC.hts hin hj) hi).1
  have hnf : narrow (xty (xkd S a) j) (.int v) = .int v ∧ fits (xty (xkd S a) j) (.int v) = true := by
    rcases hkind0 j hj hR with ht | ⟨ht, hz⟩
    · rw [ht]; exact ⟨rfl, rfl⟩
    · rw [ht]
      rcases hZ hz with rfl | rfl
      · exact ⟨by decide, by decide⟩
      · exact ⟨by decide, by decide⟩
  have h6' := u_store hfc hkC hkind hlay hi (hty j hj) hnf.1 hnf.2
  refine W.putK hC.hx hC.hb (f := f) ⟨hC.hown, hlink, ⟨_, _, _, hi⟩, hst⟩ (by rw [q2]; exact h6') q1 q3 (by rw [hsl]; exact k2_hasslot (q4 j hj)) rfl rfl hd fun H' e1 e2 e3 => ?_
  rw [hsl] at e1 ⊢
  have hr := (hP.2 a).1 h1 (by omega)
  refine kk H' _ lsA (xP_upd hP e2 e3 rfl rfl xup_o ⟨fun _ _ => ?_, fun h7 => by omega, fun h10 => by omega⟩) (hS.put e2 e3 hr.1) (xEx_upd hE (by omega) xup_o) hl
  refine t_OB.to (V := updV (xfv (xkd S a) (xrf S a) (V a)) j (.int v)) ⟨_, e1, q2, q3, t_set q4 hap hj (.int v)⟩ (fun k hk => ?_)
  rw [xup_s]
  unfold updV xfv upd
  by_cases hkj : k = j
  · subst hkj; simp [hR]
  · simp [hkj]
theorem g_putR (hC : xCx cy D Bs E p R s m args meth c mm) {x kd j a v : Nat} (hf : xassoc xFt (xkey mm x) = some (kd, j)) (hk : xkd S a = kd) (h6 : kd ≤ 6) (hR : xisR kd j = true) (hnm : mm.1.name = "<init>") (hown : xown mm + 1 = kd) (hd : decode mm.2.1 pc = .ok (.putfield x, 3)) (kk : xG cy D Bs p l e R s m args below meth c Q mm.2.2.1 T0 Z0 (pc + 3) ls st (xsetr S a j (some v)) V) : xG cy D Bs p l e R s m args below meth c Q mm.2.2.1 T0 Z0 pc ls (.ref v :: .ref a :: st) S V := by
  obtain ⟨hcase, hj, hw⟩ := xFt_ok _ (xassoc_mem hf)
  dsimp only at hcase hj hw
  intro H locs lsA hP hS hE hl
  have hlink := hC.hts _ hw
  have h1 : 1 ≤ kd := by omega
  obtain ⟨hc, hin, hty, hnm2, hfn, hdc, hkind0⟩ := xkf kd h1 h6
  subst hk
  obtain ⟨cell, q1, q2, q3, q4⟩ := (hP.2 a).2.1 h1 h6
  obtain ⟨hS', hfc, kC, hkC, hkind⟩ := hC.hK.1 _ _ hc
  obtain ⟨cf, kf, fi, f, hi, hsl⟩ := hS' j hj
  have hap := va_apart (own := xcn (xkd S a - 1)) hC.hts hin _ hty hnm2 hC.hK hc
  have hlay := hC.hts _ (hin _ (u_in_lay hj))
  unfold u_lay at hlay
  rw [if_pos (by rw [hfn j hj, hR])] at hlay
  have hst := (u_facts hfc hkC (u_lays hC.hts hin hj) hi).1
  have hown2 : xcn (xkd S a - 1) = xcn (xown mm) := by rw [← hown]; rfl
  have hcf : m.cls = cf := by
    obtain ⟨_, _, c', _, _, _, -, -, hf', -, -, -, hown3, -⟩ := Cond.laysFinal_spec hlay
    have e1 : c' = cf := by have := hi.symm.trans hf'; simp at this; exact this.1.symm
    rw [hdc j hj, hown2] at hown3
    rw [← e1]; exact Option.some.inj (hC.hown.symm.trans hown3)
  have hnf : narrow (xty (xkd S a) j) (.ref v) = .ref v ∧ fits (xty (xkd S a) j) (.ref v) = true := by
    rcases xisR_ty hR with ⟨t, ht⟩ | ⟨t, ht⟩
    · rw [ht]; exact ⟨rfl, rfl⟩
    · rw [ht]; exact ⟨rfl, rfl⟩
  have h6' := u_fits hfc hkC hkind (Or.inr hlay) hi (hty j hj) hnf.1 hnf.2
  refine W.putFinK hC.hx hC.hb hC.hown hlink hi hst hcf (hC.hnm.trans hnm) (by rw [q2]; exact h6') q1 q3 (by rw [hsl]; exact k2_hasslot (q4 j hj)) rfl rfl hd fun H' e1 e2 e3 => ?_
  rw [hsl] at e1 ⊢
  have hr := (hP.2 a).1 h1 (by omega)
  refine kk H' _ lsA (xP_upd hP e2 e3 rfl (xsetr_kd S a j (some v) a) xsetr_o ⟨fun _ _ => ?_, fun h7 => by rw [xsetr_kd] at h7; omega, fun h10 => by rw [xsetr_kd] at h10; omega⟩) (hS.put e2 e3 hr.1) (xEx_upd hE (by rw [xsetr_kd]; omega) xsetr_o) hl
  rw [xsetr_kd]
  refine t_OB.to (V := updV (xfv (xkd S a) (xrf S a) (V a)) j (.ref v)) ⟨_, e1, q2, q3, t_set q4 hap hj (.ref v)⟩ (fun k hk => ?_)
  rw [xsetr_s]
  unfold updV xfv va_up
  by_cases hkj : k = j
  · subst hkj; simp [hR, va_rf]
  · simp [hkj]
theorem xarrT (hC : xCx cy D Bs E p R s m args meth c mm) {kd : Nat} (h7 : 7 ≤ kd) (h11 : kd ≤ 11) : ∃ ty, (kd = 7 → ty = .int) ∧ (kd = 8 → ty = .char) ∧ (kd = 9 → ty = .boolean) ∧ (kd = 10 → ty = .object RX0) ∧ (kd = 11 → ty = .object RX2) ∧ ArrOfT s (cy kd) ty ∧ va_RA s (cy kd) ty := by
  have r : kd = 7 ∨ kd = 8 ∨ kd = 9 ∨ kd = 10 ∨ kd = 11 := by omega
  rcases r with rfl | rfl | rfl | rfl | rfl
  · exact ⟨.int, by simp, by simp, by simp, by simp, by simp, hC.hK.2 0 _ rfl⟩
  · exact ⟨.char, by simp, by simp, by simp, by simp, by simp, hC.hK.2 1 _ rfl⟩
  · exact ⟨.boolean, by simp, by simp, by simp, by simp, by simp, hC.hK.2 2 _ rfl⟩
  · exact ⟨.object RX0, by simp, by simp, by simp, by simp, by simp, hC.hK.2 3 _ rfl⟩
  · exact ⟨.object RX2, by simp, by simp, by simp, by simp, by simp, hC.hK.2 4 _ rfl⟩
theorem g_iaload (hC : xCx cy D Bs E p R s m args meth c mm) {a : Nat} {j : Int32} (hk : xkd S a = 7 ∨ xkd S a = 14) (hi : ¬ (j < 0 ∨ xln S a ≤ j.toNatClampNeg)) (hd : decode mm.2.1 pc = .ok (.iaload, 1)) (kk : xG cy D Bs p l e R s m args below meth c Q mm.2.2.1 T0 Z0 (pc + 1) ls (.int (V a j.toNatClampNeg) :: st) S V) : xG cy D Bs p l e R s m args below meth c Q mm.2.2.1 T0 Z0 pc ls (.int j :: .ref a :: st) S V := by
  intro H locs lsA hP hS hE hl
  rcases hk with hk | hk
  · have h1 := (hP.2 a).2.2.1 (by omega) (by omega)
    rw [hk] at h1
    have hlt : j.toNatClampNeg < xln S a := Nat.not_le.mp fun q => hi (Or.inr q)
    exact W.iald (v := .int (V a j.toNatClampNeg)) hC.hx hC.hb h1 ((hC.hK.2 0 _ rfl).1 _ _) (fun q => by cases q) (by rw [arrV_size]; exact hi) (by rw [arrV_read _ _ hlt]) rfl rfl hd (kk H locs lsA hP hS hE hl)
  · exact va_ti hC.hx hC.hb ((hE a).1 hk) hS hi rfl hd (kk H locs lsA hP hS hE hl)
theorem g_baload (hC : xCx cy D Bs E p R s m args meth c mm) {a : Nat} {j : Int32} (hk : xkd S a = 9 ∨ xkd S a = 12) (hi : ¬ (j < 0 ∨ xln S a ≤ j.toNatClampNeg)) (hd : decode mm.2.1 pc = .ok (.baload, 1)) (kk : xG cy D Bs p l e R s m args below meth c Q mm.2.2.1 T0 Z0 (pc + 1) ls (.int (V a j.toNatClampNeg) :: st) S V) : xG cy D Bs p l e R s m args below meth c Q mm.2.2.1 T0 Z0 pc ls (.int j :: .ref a :: st) S V := by
  intro H locs lsA hP hS hE hl
  rcases hk with hk | hk
  · have h1 := (hP.2 a).2.2.1 (by omega) (by omega)
    rw [hk] at h1
    have hlt : j.toNatClampNeg < xln S a := Nat.not_le.mp fun q => hi (Or.inr q)
    exact W.zald (v := .int (V a j.toNatClampNeg)) hC.hx hC.hb h1 ((hC.hK.2 2 _ rfl).1 _ _) (fun q => by cases q) (by rw [arrV_size]; exact hi) (by rw [arrV_read _ _ hlt]) rfl rfl hd (kk H locs lsA hP hS hE hl)
  · exact va_tb hC.hx hC.hb ((hE a).2.1 hk) hS hi rfl hd (kk H locs lsA hP hS hE hl)
theorem g_caload (hC : xCx cy D Bs E p R s m args meth c mm) {a : Nat} {j : Int32} (hk : xkd S a = 8) (hi : ¬ (j < 0 ∨ xln S a ≤ j.toNatClampNeg)) (hd : decode mm.2.1 pc = .ok (.caload, 1)) (kk : xG cy D Bs p l e R s m args below meth c Q mm.2.2.1 T0 Z0 (pc + 1) ls (.int (V a j.toNatClampNeg) :: st) S V) : xG cy D Bs p l e R s m args below meth c Q mm.2.2.1 T0 Z0 pc ls (.int j :: .ref a :: st) S V := by
  intro H locs lsA hP hS hE hl
  have h1 := (hP.2 a).2.2.1 (by omega) (by omega)
  rw [hk] at h1
  have hlt : j.toNatClampNeg < xln S a := Nat.not_le.mp fun q => hi (Or.inr q)
  exact W.cald (v := .int (V a j.toNatClampNeg)) hC.hx hC.hb h1 ((hC.hK.2 1 _ rfl).1 _ _) (fun q => by cases q) (by rw [arrV_size]; exact hi) (by rw [arrV_read _ _ hlt]) rfl rfl hd (kk H locs lsA hP hS hE hl)
theorem g_aaload (hC : xCx cy D Bs E p R s m args meth c mm) {a : Nat} {j : Int32} (hk : xkd S a = 10 ∨ xkd S a = 11) (hi : ¬ (j < 0 ∨ xln S a ≤ j.toNatClampNeg)) (hd : decode mm.2.1 pc = .ok (.aaload, 1)) (kk : xG cy D Bs p l e R s m args below meth c Q mm.2.2.1 T0 Z0 (pc + 1) ls (va_rf (xrf S a j.toNatClampNeg) :: st) S V) : xG cy D Bs p l e R s m args below meth c Q mm.2.2.1 T0 Z0 pc ls (.int j :: .ref a :: st) S V := by
  intro H locs lsA hP hS hE hl
  have hlt : j.toNatClampNeg < xln S a := Nat.not_le.mp fun q => hi (Or.inr q)
  have h1 := (hP.2 a).2.2.2 (by omega) (by omega)
  rcases hk with hk | hk
  · rw [hk] at h1
    exact W.aald (v := va_rf (xrf S a j.toNatClampNeg)) (ty := .object RX0) hC.hx hC.hb h1 ((hC.hK.2 3 _ rfl).1 _ _) rfl (fun q => by cases q) (by rw [arrV_size]; exact hi) (by rw [arrV_read _ _ hlt]) rfl rfl hd (kk H locs lsA hP hS hE hl)
  · rw [hk] at h1
    exact W.aald (v := va_rf (xrf S a j.toNatClampNeg)) (ty := .object RX2) hC.hx hC.hb h1 ((hC.hK.2 4 _ rfl).1 _ _) rfl (fun q => by cases q) (by rw [arrV_size]; exact hi) (by rw [arrV_read _ _ hlt]) rfl rfl hd (kk H locs lsA hP hS hE hl)
theorem g_iastore (hC : xCx cy D Bs E p R s m args meth c mm) {a : Nat} {j v : Int32} (hk : xkd S a = 7) (hi : ¬ (j < 0 ∨ xln S a ≤ j.toNatClampNeg)) (hd : decode mm.2.1 pc = .ok (.iastore, 1)) (kk : xG cy D Bs p l e R s m args below meth c Q mm.2.2.1 T0 Z0 (pc + 1) ls st S (xup V a j.toNatClampNeg v)) : xG cy D Bs p l e R s m args below meth c Q mm.2.2.1 T0 Z0 pc ls (.int v :: .int j :: .ref a :: st) S V := by
  intro H locs lsA hP hS hE hl
  have hr := (hP.2 a).1 (by omega) (by omega)
  have h1 := (hP.2 a).2.2.1 (by omega) (by omega)
  rw [hk] at h1
  refine W.iast hC.hx hC.hb h1 ((hC.hK.2 0 _ rfl).1 _ _) (fun q => by cases q) (by rw [arrV_size]; exact hi) rfl rfl hd fun H' e1 e2 e3 => ?_
  refine kk H' _ lsA (xP_upd hP e2 e3 rfl rfl xup_o ⟨fun _ h => by omega, fun _ _ => ?_, fun h => by omega⟩) (hS.put e2 e3 hr.1) (xEx_upd hE (by omega) xup_o) hl
  rw [e1, arrV_store, hk, xup_s]
  congr 2
  funext q
  by_cases hq : q = j.toNatClampNeg
  · subst hq; simp [updV, upd]
  · simp [updV, upd, hq]
theorem g_bastore (hC : xCx cy D Bs E p R s m args meth c mm) {a : Nat} {j v : Int32} (hk : xkd S a = 9) (hi : ¬ (j < 0 ∨ xln S a ≤ j.toNatClampNeg)) (hd : decode mm.2.1 pc = .ok (.bastore, 1)) (kk : xG cy D Bs p l e R s m args below meth c Q mm.2.2.1 T0 Z0 (pc + 1) ls st S (xup V a j.toNatClampNeg (vp_nar .boolean v))) : xG cy D Bs p l e R s m args below meth c Q mm.2.2.1 T0 Z0 pc ls (.int v :: .int j :: .ref a :: st) S V := by
  intro H locs lsA hP hS hE hl
  have hr := (hP.2 a).1 (by omega) (by omega)
  have h1 := (hP.2 a).2.2.1 (by omega) (by omega)
  rw [hk] at h1
  refine W.zast hC.hx hC.hb h1 ((hC.hK.2 2 _ rfl).1 _ _) (fun q => by cases q) (by rw [arrV_size]; exact hi) rfl rfl hd fun H' e1 e2 e3 => ?_
  refine kk H' _ lsA (xP_upd hP e2 e3 rfl rfl xup_o ⟨fun _ h => by omega, fun _ _ => ?_, fun h => by omega⟩) (hS.put e2 e3 hr.1) (xEx_upd hE (by omega) xup_o) hl
  rw [e1, arrV_store, hk, xup_s]
  congr 2
  funext q
  by_cases hq : q = j.toNatClampNeg
  · subst hq; simp [updV, upd, vp_nar, narrow]
  · simp [updV, upd, hq]
theorem g_castore (hC : xCx cy D Bs E p R s m args meth c mm) {a : Nat} {j v : Int32} (hk : xkd S a = 8) (hi : ¬ (j < 0 ∨ xln S a ≤ j.toNatClampNeg)) (hd : decode mm.2.1 pc = .ok (.castore, 1)) (kk : xG cy D Bs p l e R s m args below meth c Q mm.2.2.1 T0 Z0 (pc + 1) ls st S (xup V a j.toNatClampNeg (vp_nar .char v))) : xG cy D Bs p l e R s m args below meth c Q mm.2.2.1 T0 Z0 pc ls (.int v :: .int j :: .ref a :: st) S V := by
  intro H locs lsA hP hS hE hl
  have hr := (hP.2 a).1 (by omega) (by omega)
  have h1 := (hP.2 a).2.2.1 (by omega) (by omega)
  rw [hk] at h1
  refine W.cast hC.hx hC.hb h1 ((hC.hK.2 1 _ rfl).1 _ _) (fun q => by cases q) (by rw [arrV_size]; exact hi) rfl rfl hd fun H' e1 e2 e3 => ?_
  refine kk H' _ lsA (xP_upd hP e2 e3 rfl rfl xup_o ⟨fun _ h => by omega, fun _ _ => ?_, fun h => by omega⟩) (hS.put e2 e3 hr.1) (xEx_upd hE (by omega) xup_o) hl
  rw [e1, arrV_store, hk, xup_s]
  congr 2
  funext q
  by_cases hq : q = j.toNatClampNeg
  · subst hq; simp [updV, upd, vp_nar, narrow]
  · simp [updV, upd, hq]
theorem g_aastore (hC : xCx cy D Bs E p R s m args meth c mm) {a v : Nat} {j : Int32} (hk : (xkd S a = 10 ∧ xkd S v = 1) ∨ (xkd S a = 11 ∧ xkd S v = 3)) (hi : ¬ (j < 0 ∨ xln S a ≤ j.toNatClampNeg)) (hd : decode mm.2.1 pc = .ok (.aastore, 1)) (kk : xG cy D Bs p l e R s m args below meth c Q mm.2.2.1 T0 Z0 (pc + 1) ls st (xsetr S a j.toNatClampNeg (some v)) V) : xG cy D Bs p l e R s m args below meth c Q mm.2.2.1 T0 Z0 pc ls (.ref v :: .int j :: .ref a :: st) S V := by
  intro H locs lsA hP hS hE hl
  have hlt : j.toNatClampNeg < xln S a := Nat.not_le.mp fun q => hi (Or.inr q)
  have h0 : ¬ j < 0 := fun q => hi (Or.inl q)
  have hr := (hP.2 a).1 (by omega) (by omega)
  have h1 := (hP.2 a).2.2.2 (by omega) (by omega)
  obtain ⟨cellV, g1, g2, g3, -⟩ := (hP.2 v).2.1 (by omega) (by omega)
  have main : ∀ (kd : Nat) (C : String) (ci : Nat) (hcl : ClassAt s C (D.1 ci)) (hRA : va_RA s (cy kd) (.object C)), xkd S a = kd → (kd = 10 ∨ kd = 11) → cellV.cls = D.1 ci → W p l e R s m args below meth c H locs (S.2.1 - T0) (S.2.2 - Z0) Q (F0 m pc lsA (.ref v :: .int j :: .ref a :: st)) := by
    intro kd C ci hcl hRA hka hkd hcv
    rw [hka] at h1
    obtain ⟨kA, comp, k1, k2, k3, -⟩ := hRA
    have hcomp : comp = D.1 ci := Option.some.inj (k3.symm.trans hcl.1)
    subst hcomp
    obtain ⟨kC, hkC, -⟩ := hcl.2
    refine W.aast hC.hx hC.hb h1 (fun q h => by cases h) (fun h => by cases h) k1 k2 rfl hkC ⟨h0, by rw [arrV_size]; exact hlt⟩ g1 (fun q h => by rw [g3] at h; cases h) (by rw [hcv]; exact hkC) (by rw [hcv]; exact va_assign hcl) rfl rfl hd fun H' e1 e2 e3 => ?_
    refine kk H' _ lsA (xP_upd hP e2 e3 rfl (xsetr_kd _ _ _ _ _) xsetr_o ⟨fun _ h => by rw [xsetr_kd] at h; omega, fun _ h => by rw [xsetr_kd] at h; omega, fun _ _ => ?_⟩) (hS.put e2 e3 hr.1) (xEx_upd hE (by rw [xsetr_kd]; omega) xsetr_o) hl
    rw [e1, arrV_store, xsetr_kd, hka, xsetr_ln, xsetr_s]
    congr 2
    funext q
    by_cases hq : q = j.toNatClampNeg
    · subst hq; simp [updV, va_up, va_rf]
    · simp [updV, va_up, hq]
  rcases hk with ⟨hk, hv⟩ | ⟨hk, hv⟩
  · rw [hv] at g2
    exact main 10 RX0 0 (hC.hK.1 0 _ rfl).2 (hC.hK.2 3 _ rfl).2 hk (Or.inl rfl) g2
  · rw [hv] at g2
    exact main 11 RX2 2 (hC.hK.1 2 _ rfl).2 (hC.hK.2 4 _ rfl).2 hk (Or.inr rfl) g2
theorem g_alen (hC : xCx cy D Bs E p R s m args meth c mm) {a : Nat} (hk : (7 ≤ xkd S a ∧ xkd S a ≤ 12) ∨ xkd S a = 14) (hd : decode mm.2.1 pc = .ok (.arraylength, 1)) (kk : xG cy D Bs p l e R s m args below meth c Q mm.2.2.1 T0 Z0 (pc + 1) ls (.int (Int32.ofNat (xln S a)) :: st) S V) : xG cy D Bs p l e R s m args below meth c Q mm.2.2.1 T0 Z0 pc ls (.ref a :: st) S V := by
  intro H locs lsA hP hS hE hl
  by_cases h14 : xkd S a = 14
  · exact va_tlen hC.hx hC.hb ((hE a).1 h14) hS rfl hd (kk H locs lsA hP hS hE hl)
  · by_cases h12 : xkd S a = 12
    · exact va_tlen hC.hx hC.hb ((hE a).2.1 h12) hS rfl hd (kk H locs lsA hP hS hE hl)
    · obtain ⟨ty, -, -, -, -, -, hA, -⟩ := xarrT hC (kd := xkd S a) (by omega) (by omega)
      by_cases h9 : xkd S a ≤ 9
      · exact W.alen (n := Int32.ofNat (xln S a)) hC.hx hC.hb ((hP.2 a).2.2.1 (by omega) h9) (hA _ _) (by rw [arrV_size]) rfl rfl hd (kk H locs lsA hP hS hE hl)
      · exact W.alen (n := Int32.ofNat (xln S a)) hC.hx hC.hb ((hP.2 a).2.2.2 (by omega) (by omega)) (hA _ _) (by rw [arrV_size]) rfl rfl hd (kk H locs lsA hP hS hE hl)
end XOP
end
section
/-! ===== the instructions that make cells; copies; statics; Math; Object's constructor ===== -/
section XNW
variable {cy : Nat → ClassId} {D : va_G} {Bs : Nat} {E : Nat × Nat × Nat} {p : Program} {l : Launch} {e : Env} {R : Room} {s : State} {m : MethodId} {args : Array Value} {below : List Frame} {meth : Method} {c : Code} {Q : State → Prop} {mm : xM} {T0 Z0 : Nat} {pc : Nat} {ls : List (Option Value)} {st : List Value} {S : xSh} {V : xV}
theorem xS_new {H H' : Heap} {locs : List Loc} {A : Nat → Prop} {H0 : Heap} (hS : va_S A H0 H locs) (e2 : H'.size = H.size + 1) (e3 : ∀ q : Nat, q < H.size → H'[q]? = H[q]?) : va_S A H0 H' locs :=
  ⟨Nat.le_trans hS.1 (by omega), fun x h1 h2 => (e3 x (Nat.lt_of_lt_of_le h1 hS.1)).trans (hS.2.1 x h1 h2), hS.2.2⟩
theorem g_new (hC : xCx cy D Bs E p R s m args meth c mm) {x ci : Nat} (hT : T0 ≤ S.2.1) (hZ : Z0 ≤ S.2.2) (hf : xassoc xKt (xkey mm x) = some ci) (hrm : (xnew S (ci + 1) 0 (xN (ci + 1))).2.1 - T0 ≤ R.cells ∧ (xnew S (ci + 1) 0 (xN (ci + 1))).2.2 - Z0 ≤ R.slots) (hd : decode mm.2.1 pc = .ok (.new x, 3)) (kk : xG cy D Bs p l e R s m args below meth c Q mm.2.2.1 T0 Z0 (pc + 3) ls (.ref S.2.1 :: st) (xnew S (ci + 1) 0 (xN (ci + 1))) (xrow V S.2.1 (fun _ => 0))) : xG cy D Bs p l e R s m args below meth c Q mm.2.2.1 T0 Z0 pc ls st S V := by
  obtain ⟨h5, hw⟩ := xKt_ok _ (xassoc_mem hf)
  dsimp only at h5 hw
  obtain ⟨hc, hin, hty, hnm, hfn, hdc, hkind0⟩ := xkf (ci + 1) (by omega) (by omega)
  rw [Nat.add_sub_cancel] at hc hin
  have hii : Cond.instantiable (xcn ci) (xN (ci + 1)) ∈ xws0 ∧ Cond.initialized (xcn ci) ∈ xws0 := by
    have r : ci = 0 ∨ ci = 1 ∨ ci = 2 ∨ ci = 3 ∨ ci = 4 ∨ ci = 5 := by omega
    rcases r with rfl | rfl | rfl | rfl | rfl | rfl
    · exact ⟨xw_inst_0, xw_ini_0⟩
    · exact ⟨xw_inst_1, xw_ini_1⟩
    · exact ⟨xw_inst_2, xw_ini_2⟩
    · exact ⟨xw_inst_3, xw_ini_3⟩
    · exact ⟨xw_inst_4, xw_ini_4⟩
    · exact ⟨xw_inst_5, xw_ini_5⟩
  intro H locs lsA hP hS hE hl
  have hKn := hC.hK.1 ci _ hc
  have e1 : (xnew S (ci + 1) 0 (xN (ci + 1))).2.1 - T0 = S.2.1 - T0 + 1 := by show S.2.1 + 1 - T0 = _; omega
  have e2 : (xnew S (ci + 1) 0 (xN (ci + 1))).2.2 - Z0 = S.2.2 - Z0 + xN (ci + 1) := by show S.2.2 + xN (ci + 1) - Z0 = _; omega
  rw [e1, e2] at hrm
  refine W.newcK hC.hx hC.hb hC.hown (hC.hts _ hw) (hC.hts _ hii.1) (hC.hts _ hii.2) rfl hd hrm.1 hrm.2 hKn.2.1 hP.1 fun H' kC hkC g1 g2 g3 => ?_
  rw [← hP.1] at g2 g3
  have hk : xkd (xnew S (ci + 1) 0 (xN (ci + 1))) S.2.1 = ci + 1 := by rw [xnew_kd, if_pos rfl]
  have k := kk H' locs lsA (xP_new hP (Nat.le_trans hC.hB hS.1) g2 g3 ⟨fun _ _ => ?_, fun h => by omega, fun h => by omega⟩) (xS_new hS g2 g3) (xEx_upd hE (by rw [hk]; omega) xnew_o) hl
  · rw [e1, e2] at k
    exact k
  · rw [hk]
    refine t_OB.to (u_born _ hC.hts hin hKn hkC g1 hty) (fun k hk2 => ?_)
    unfold xfv
    cases hR : xisR (ci + 1) k with
    | true =>
      have hz : xrf (xnew S (ci + 1) 0 (xN (ci + 1))) S.2.1 k = none := by simp [xrf, xnew]
      rw [if_pos rfl, hz]
      rcases xisR_ty hR with ⟨t, ht⟩ | ⟨t, ht⟩ <;> rw [ht] <;> rfl
    | false =>
      rw [if_neg (by simp)]
      have hz : xrow V S.2.1 (fun _ => 0) S.2.1 k = 0 := by simp [xrow]
      rw [hz]
      rcases hkind0 k hk2 hR with ht | ⟨ht, -⟩ <;> rw [ht] <;> rfl
theorem g_newarr (hC : xCx cy D Bs E p R s m args meth c mm) {t : ArrayType} {kd : Nat} {n : Int32} (hT : T0 ≤ S.2.1) (hZ : Z0 ≤ S.2.2) (hkd : (kd = 7 ∧ t = .int) ∨ (kd = 8 ∧ t = .char) ∨ (kd = 9 ∧ t = .boolean)) (hn : ¬ n < 0) (hn2 : n.toNatClampNeg ≤ 10000) (hrm : (xnew S kd n.toNatClampNeg n.toNatClampNeg).2.1 - T0 ≤ R.cells ∧ (xnew S kd n.toNatClampNeg n.toNatClampNeg).2.2 - Z0 ≤ R.slots) (hd : decode mm.2.1 pc = .ok (.newarray t, 2)) (kk : xG cy D Bs p l e R s m args below meth c Q mm.2.2.1 T0 Z0 (pc + 2) ls (.ref S.2.1 :: st) (xnew S kd n.toNatClampNeg n.toNatClampNeg) (xrow V S.2.1 (fun _ => 0))) : xG cy D Bs p l e R s m args below meth c Q mm.2.2.1 T0 Z0 pc ls (.int n :: st) S V := by
  intro H locs lsA hP hS hE hl
  have e1 : (xnew S kd n.toNatClampNeg n.toNatClampNeg).2.1 - T0 = S.2.1 - T0 + 1 := by show S.2.1 + 1 - T0 = _; omega
  have e2 : (xnew S kd n.toNatClampNeg n.toNatClampNeg).2.2 - Z0 = S.2.2 - Z0 + n.toNatClampNeg := by show S.2.2 + n.toNatClampNeg - Z0 = _; omega
  rw [e1, e2] at hrm
  have hk : xkd (xnew S kd n.toNatClampNeg n.toNatClampNeg) S.2.1 = kd := by rw [xnew_kd, if_pos rfl]
  have hln : xln (xnew S kd n.toNatClampNeg n.toNatClampNeg) S.2.1 = n.toNatClampNeg := by simp [xln, xnew]
  have hrow : xrow V S.2.1 (fun _ => 0) S.2.1 = fun _ => 0 := by simp [xrow]
  have fin : ∀ (H' : Heap), H'[S.2.1]? = some (arrV (cy kd) n.toNatClampNeg (fun _ => .int 0)) → H'.size = H.size + 1 → (∀ q, q < H.size → H'[q]? = H[q]?) → W p l e R s m args below meth c H' locs (S.2.1 - T0 + 1) (S.2.2 - Z0 + n.toNatClampNeg) Q (F0 m (pc + 2) lsA (.ref S.2.1 :: st)) := by
    intro H' g1 g2 g3
    have k := kk H' locs lsA (xP_new hP (Nat.le_trans hC.hB hS.1) g2 g3 ⟨fun _ h => by omega, fun _ _ => by rw [hk, hln, hrow]; exact g1, fun h => by omega⟩) (xS_new hS g2 g3) (xEx_upd hE (by rw [hk]; omega) xnew_o) hl
    rw [e1, e2] at k
    exact k
  rcases hkd with ⟨rfl, rfl⟩ | ⟨rfl, rfl⟩ | ⟨rfl, rfl⟩
  · refine va_newaK hC.hx hC.hb (atype := .int) (hC.hts _ xw_arr_int) rfl hd rfl hn rfl (Nat.le_trans (Nat.mul_le_mul_right _ hn2) (Nat.le_of_ble_eq_true rfl)) hrm.1 hrm.2 hP.1 fun H' cA g1 g2 g3 hAr hNm => ?_
    have hcA : cA = cy 7 := Option.some.inj (hNm.symm.trans (hC.hK.2 0 _ rfl).2)
    subst hcA
    rw [← hP.1] at g2 g3
    exact fin H' g1 g2 g3
  · refine va_newaK hC.hx hC.hb (atype := .char) (hC.hts _ xw_arr_char) rfl hd rfl hn rfl (Nat.le_trans (Nat.mul_le_mul_right _ hn2) (Nat.le_of_ble_eq_true rfl)) hrm.1 hrm.2 hP.1 fun H' cA g1 g2 g3 hAr hNm => ?_
    have hcA : cA = cy 8 := Option.some.inj (hNm.symm.trans (hC.hK.2 1 _ rfl).2)
    subst hcA
    rw [← hP.1] at g2 g3
    exact fin H' g1 g2 g3
  · refine va_newaK hC.hx hC.hb (atype := .boolean) (hC.hts _ xw_arr_boolean) rfl hd rfl hn rfl (Nat.le_trans (Nat.mul_le_mul_right _ hn2) (Nat.le_of_ble_eq_true rfl)) hrm.1 hrm.2 hP.1 fun H' cA g1 g2 g3 hAr hNm => ?_
    have hcA : cA = cy 9 := Option.some.inj (hNm.symm.trans (hC.hK.2 2 _ rfl).2)
    subst hcA
    rw [← hP.1] at g2 g3
    exact fin H' g1 g2 g3
theorem g_anewarr (hC : xCx cy D Bs E p R s m args meth c mm) {x ci kd : Nat} {n : Int32} (hT : T0 ≤ S.2.1) (hZ : Z0 ≤ S.2.2) (hf : xassoc xKt (xkey mm x) = some ci) (hkd : (kd = 10 ∧ ci = 0) ∨ (kd = 11 ∧ ci = 2)) (hn : ¬ n < 0) (hn2 : n.toNatClampNeg ≤ 10000) (hrm : (xnew S kd n.toNatClampNeg n.toNatClampNeg).2.1 - T0 ≤ R.cells ∧ (xnew S kd n.toNatClampNeg n.toNatClampNeg).2.2 - Z0 ≤ R.slots) (hd : decode mm.2.1 pc = .ok (.anewarray x, 3)) (kk : xG cy D Bs p l e R s m args below meth c Q mm.2.2.1 T0 Z0 (pc + 3) ls (.ref S.2.1 :: st) (xnew S kd n.toNatClampNeg n.toNatClampNeg) (xrow V S.2.1 (fun _ => 0))) : xG cy D Bs p l e R s m args below meth c Q mm.2.2.1 T0 Z0 pc ls (.int n :: st) S V := by
  obtain ⟨h5, hw⟩ := xKt_ok _ (xassoc_mem hf)
  dsimp only at h5 hw
  intro H locs lsA hP hS hE hl
  have e1 : (xnew S kd n.toNatClampNeg n.toNatClampNeg).2.1 - T0 = S.2.1 - T0 + 1 := by show S.2.1 + 1 - T0 = _; omega
  have e2 : (xnew S kd n.toNatClampNeg n.toNatClampNeg).2.2 - Z0 = S.2.2 - Z0 + n.toNatClampNeg := by show S.2.2 + n.toNatClampNeg - Z0 = _; omega
  rw [e1, e2] at hrm
  have hk : xkd (xnew S kd n.toNatClampNeg n.toNatClampNeg) S.2.1 = kd := by rw [xnew_kd, if_pos rfl]
  have hln : xln (xnew S kd n.toNatClampNeg n.toNatClampNeg) S.2.1 = n.toNatClampNeg := by simp [xln, xnew]
  have hrf : xrf (xnew S kd n.toNatClampNeg n.toNatClampNeg) S.2.1 = fun _ => none := by funext j; simp [xrf, xnew]
  have fin : ∀ (cA : ClassId), cA = cy kd → W p l e R s m args below meth c (H.push { cls := cA, slots := Array.replicate n.toNatClampNeg .null, vm := .none }) locs (S.2.1 - T0 + 1) (S.2.2 - Z0 + n.toNatClampNeg) Q (F0 m (pc + 3) lsA (.ref H.size :: st)) := by
    intro cA hcA
    subst hcA
    generalize hH1 : H.push ({ cls := cy kd, slots := Array.replicate n.toNatClampNeg .null, vm := .none } : Cell) = H1
    have g2 : H1.size = H.size + 1 := by rw [← hH1, Array.size_push]
    have g1 : H1[H.size]? = some (arrV (cy kd) n.toNatClampNeg (fun _ => .null)) := by rw [← hH1, Array.getElem?_push_size, ← arrV_new]
    have g3 : ∀ q : Nat, q < H.size → H1[q]? = H[q]? := fun q hq => by rw [← hH1, Array.getElem?_push, if_neg (Nat.ne_of_lt hq)]
    rw [hP.1] at g1
    have k := kk H1 locs lsA (xP_new hP (Nat.le_trans hC.hB hS.1) g2 g3 ⟨fun _ h => by omega, fun _ h => by omega, fun _ _ => by rw [hk, hln, hrf]; exact g1⟩) (xS_new hS g2 g3) (xEx_upd hE (by rw [hk]; omega) xnew_o) hl
    rw [e1, e2] at k
    rw [hP.1]
    exact k
  have h4 : n.toNatClampNeg * 4 ≤ 536870912 := Nat.le_trans (Nat.mul_le_mul_right _ hn2) (Nat.le_of_ble_eq_true rfl)
  rcases hkd with ⟨rfl, rfl⟩ | ⟨rfl, rfl⟩
  · refine W.anew hC.hx hC.hb hC.hown (hC.hts _ hw) (va_AO.use hC.hO.2.2.2.2.1) rfl hd rfl hn h4 hrm.1 hrm.2 fun cA kA comp f1 f2 f3 f4 => ?_
    obtain ⟨kA2, comp2, -, -, -, hnm2⟩ := (hC.hK.2 3 _ rfl).2
    exact fin cA (Option.some.inj (f1.symm.trans hnm2))
  · refine W.anew hC.hx hC.hb hC.hown (hC.hts _ hw) (va_AO.use hC.hO.2.2.2.2.2.1) rfl hd rfl hn h4 hrm.1 hrm.2 fun cA kA comp f1 f2 f3 f4 => ?_
    obtain ⟨kA2, comp2, -, -, -, hnm2⟩ := (hC.hK.2 4 _ rfl).2
    exact fin cA (Option.some.inj (f1.symm.trans hnm2))
theorem g_static (hC : xCx cy D Bs E p R s m args meth c mm) {x w : Nat} {v : Value} (hf : xassoc xSt (xkey mm x) = some w) (hv : (w = 0 ∧ v = .ref E.1) ∨ (w = 1 ∧ v = .ref E.2.1) ∨ (w = 2 ∧ v = .int 1)) (hd : decode mm.2.1 pc = .ok (.getstatic x, 3)) (kk : xG cy D Bs p l e R s m args below meth c Q mm.2.2.1 T0 Z0 (pc + 3) ls (v :: st) S V) : xG cy D Bs p l e R s m args below meth c Q mm.2.2.1 T0 Z0 pc ls st S V := by
  obtain ⟨w0, w1, w2⟩ := xSt_ok _ (xassoc_mem hf)
  dsimp only at w0 w1 w2
  obtain ⟨z0, z1, z2, -, -, -, zn⟩ := hC.hO
  intro H locs lsA hP hS hE hl
  rcases hv with ⟨rfl, rfl⟩ | ⟨rfl, rfl⟩ | ⟨rfl, rfl⟩
  · rcases w0 rfl with h | h
    · exact va_gets hC.hx hC.hb z0 hS hC.hown (hC.hts _ h) (fun _ h => h) hd (kk H locs lsA hP hS hE hl)
    · exact va_getsN hC.hx hC.hb z0 hS hC.hown (va_Nw.use rfl (zn _ h)) (fun _ h => h) hd (kk H locs lsA hP hS hE hl)
  · rcases w1 rfl with h | h
    · exact va_gets hC.hx hC.hb z1 hS hC.hown (hC.hts _ h) (fun _ h => h) hd (kk H locs lsA hP hS hE hl)
    · exact va_getsN hC.hx hC.hb z1 hS hC.hown (va_Nw.use rfl (zn _ h)) (fun _ h => h) hd (kk H locs lsA hP hS hE hl)
  · exact va_gets hC.hx hC.hb z2 hS hC.hown (hC.hts _ (w2 rfl)) (fun _ h => h) hd (kk H locs lsA hP hS hE hl)
theorem g_max (hC : xCx cy D Bs E p R s m args meth c mm) {x : Nat} {a b : Int32} (hf : xassoc xMt (xkey mm x) = some 0) (hst : xcat st ≤ 8) (hht : 0 < xht mm) (hrm : S.2.1 - T0 ≤ R.cells ∧ S.2.2 - Z0 ≤ R.slots) (hd : decode mm.2.1 pc = .ok (.invokestatic x, 3)) (kk : xG cy D Bs p l e R s m args below meth c Q mm.2.2.1 T0 Z0 (pc + 3) ls (.int (if a < b then b else a) :: st) S V) : xG cy D Bs p l e R s m args below meth c Q mm.2.2.1 T0 Z0 pc ls (.int b :: .int a :: st) S V := by
  have hw := (xMt_ok _ (xassoc_mem hf)).1 rfl
  dsimp only at hw
  intro H locs lsA hP hS hE hl
  have h1 := hC.hfr
  have h2 := hC.hlo
  have hst' : (st.map fun v => v.category).sum ≤ 8 := hst
  exact va_mmax hC.hx hC.hb (by rw [hC.hml]; exact hl.2.1.symm) hC.hown (hC.hts _ hw) (hC.hts _ xw_max_s) (hC.hts _ xw_math) (hC.hts _ xw_max_c) (by omega) (by omega) hrm.1 hrm.2 hd (kk H locs lsA hP hS hE hl)
theorem g_min (hC : xCx cy D Bs E p R s m args meth c mm) {x : Nat} {a b : Int32} (hf : xassoc xMt (xkey mm x) = some 1) (hst : xcat st ≤ 8) (hht : 0 < xht mm) (hrm : S.2.1 - T0 ≤ R.cells ∧ S.2.2 - Z0 ≤ R.slots) (hd : decode mm.2.1 pc = .ok (.invokestatic x, 3)) (kk : xG cy D Bs p l e R s m args below meth c Q mm.2.2.1 T0 Z0 (pc + 3) ls (.int (if b < a then b else a) :: st) S V) : xG cy D Bs p l e R s m args below meth c Q mm.2.2.1 T0 Z0 pc ls (.int b :: .int a :: st) S V := by
  have hw := (xMt_ok _ (xassoc_mem hf)).2 rfl
  dsimp only at hw
  intro H locs lsA hP hS hE hl
  have h1 := hC.hfr
  have h2 := hC.hlo
  have hst' : (st.map fun v => v.category).sum ≤ 8 := hst
  exact va_mmin hC.hx hC.hb (by rw [hC.hml]; exact hl.2.1.symm) hC.hown (hC.hts _ hw) (hC.hts _ xw_min_s) (hC.hts _ xw_math) (hC.hts _ xw_min_c) (by omega) (by omega) hrm.1 hrm.2 hd (kk H locs lsA hP hS hE hl)
theorem g_objInit (hC : xCx cy D Bs E p R s m args meth c mm) {x b : Nat} (hf : xkey mm x ∈ xOt) (hst : xcat st ≤ 8) (hht : 0 < xht mm) (hd : decode mm.2.1 pc = .ok (.invokespecial x, 3)) (kk : xG cy D Bs p l e R s m args below meth c Q mm.2.2.1 T0 Z0 (pc + 3) ls st S V) : xG cy D Bs p l e R s m args below meth c Q mm.2.2.1 T0 Z0 pc ls (.ref b :: st) S V := by
  have hw := xOt_ok _ hf
  intro H locs lsA hP hS hE hl
  have h1 := hC.hfr
  have h2 := hC.hlo
  have hst' : (st.map fun v => v.category).sum ≤ 8 := hst
  exact W.objInit hC.hx hC.hb hC.hown (hC.hts _ hw) (hC.hts _ xw_oiInst) (hC.hts _ xw_oiCode) rfl (by rw [hC.hml]; exact hl.2.1) rfl hd (by omega) (by show 2 * 0 + _ + 12 ≤ _; omega) (kk H locs lsA hP hS hE hl)
theorem g_copy (hC : xCx cy D Bs E p R s m args meth c mm) {x a a0 : Nat} {sp dp n : Int32} (hf : xkey mm x ∈ xAt) (hk0 : xkd S a0 = 7) (hk : xkd S a = 7) (h1 : ¬ sp < 0) (h2 : ¬ dp < 0) (h3 : ¬ n < 0) (h4 : sp.toNatClampNeg + n.toNatClampNeg ≤ xln S a0) (h5 : dp.toNatClampNeg + n.toNatClampNeg ≤ xln S a) (hst : xcat st ≤ 8) (hht : 0 < xht mm) (hd : decode mm.2.1 pc = .ok (.invokestatic x, 3)) (kk : xG cy D Bs p l e R s m args below meth c Q mm.2.2.1 T0 Z0 (pc + 3) ls st S (xrow V a (va_cpy (V a0) (V a) sp.toNatClampNeg dp.toNatClampNeg n.toNatClampNeg))) : xG cy D Bs p l e R s m args below meth c Q mm.2.2.1 T0 Z0 pc ls (.int n :: .int dp :: .ref a :: .int sp :: .ref a0 :: st) S V := by
  have hw := xAt_ok _ hf
  have nn : ∀ z : Int32, ¬ z < 0 → z.toInt = (z.toNatClampNeg : Int) := by
    intro z hz
    have hz0 : (0 : Int) ≤ z.toInt := by
      have := Int32.not_lt.mp hz
      simpa using Int32.le_iff_toInt_le.mp this
    show z.toInt = ((z.toInt.toNat : Nat) : Int)
    omega
  intro H locs lsA hP hS hE hl
  have hfr := hC.hfr
  have hlo := hC.hlo
  have hst' : (st.map fun v => v.category).sum ≤ 8 := hst
  have hr := (hP.2 a).1 (by omega) (by omega)
  have hc0 := (hP.2 a0).2.2.1 (by omega) (by omega)
  have hc1 := (hP.2 a).2.2.1 (by omega) (by omega)
  rw [hk0] at hc0
  rw [hk] at hc1
  intro T hT X
  obtain ⟨-, k0, hkk0, cm0, hkind0⟩ := (hC.hK.2 0 _ rfl).1 (xln S a0) (fun j => .int (V a0 j))
  obtain ⟨vm', X', step⟩ := X.arraycopy hC.hx hC.hown (hC.hts _ hw) (hC.hts _ xw_acNative) (hC.hts _ xw_acStatic) (hC.hts _ xw_acInit) (src := a0) (dst := a) (cs := vp_cell (cy 7) (xln S a0, .inl (V a0))) (cd := vp_cell (cy 7) (xln S a, .inl (V a))) (srcPos := sp) (destPos := dp) (n := n) (by rw [hT]; exact hc0) (by rw [hT]; exact hc1)
    (fun _ h => by cases h) (fun _ h => by cases h) (fun h => by cases h) (fun h => by cases h) hkk0 hkk0 hkind0 hkind0 (by simp [refKind]) h1 h2 h3
    (by rw [nn sp h1, nn n h3]; show ¬ _ > ((arrV (cy 7) (xln S a0) (fun j => .int (V a0 j))).slots.size : Int); rw [arrV_size]; omega)
    (by rw [nn dp h2, nn n h3]; show ¬ _ > ((arrV (cy 7) (xln S a) (fun j => .int (V a j))).slots.size : Int); rw [arrV_size]; omega)
    (fun vm₁ _ i hi => by
      have e : (vp_cell (cy 7) (xln S a0, .inl (V a0))).slots.getD (sp.toNatClampNeg + i) .null = .int (V a0 (sp.toNatClampNeg + i)) := by
        show (arrV (cy 7) (xln S a0) (fun j => .int (V a0 j))).slots.getD _ _ = _
        rw [Array.getD_eq_getD_getElem?, arrV_read _ _ (by omega)]
        rfl
      refine ⟨?_, ?_⟩
      · rw [e]
        rfl
      · rw [e]
        exact trivial)
    (g := F0 m pc lsA (.int n :: .int dp :: .ref a :: .int sp :: .ref a0 :: st)) rfl (by rw [hC.hml]; exact hl.2.1) (rest := st) rfl (by rw [hC.hb]; exact hd) (by omega) (by show 2 * 0 + _ + (5 + 2 + 11) ≤ _; omega)
  have e1 : copied (vp_cell (cy 7) (xln S a0, .inl (V a0))) (vp_cell (cy 7) (xln S a, .inl (V a))) sp dp n = vp_cell (cy 7) (xln S a, .inl (va_cpy (V a0) (V a) sp.toNatClampNeg dp.toNatClampNeg n.toNatClampNeg)) := va_copied (fun z => .int z) (cy 7) (cy 7) (V a0) (V a) h4
  rw [e1] at X' step
  have hlt : a < H.size := (Array.getElem?_eq_some_iff.mp hc1).1
  generalize hcell : vp_cell (cy 7) (xln S a, .inl (va_cpy (V a0) (V a) sp.toNatClampNeg dp.toNatClampNeg n.toNatClampNeg)) = cell at X' step
  have hheap : ((T.setVm vm').setCell a cell).heap = H.setIfInBounds a cell := by rw [← hT]; rfl
  have g3 : ∀ q : Nat, q ≠ a → (H.setIfInBounds a cell)[q]? = H[q]? := fun q hq => by simp [Array.getElem?_setIfInBounds, Ne.symm hq]
  have g2 : (H.setIfInBounds a cell).size = H.size := by simp
  have g1 : (H.setIfInBounds a cell)[a]? = some cell := by simp [Array.getElem?_setIfInBounds, hlt]
  have hrow : xrow V a (va_cpy (V a0) (V a) sp.toNatClampNeg dp.toNatClampNeg n.toNatClampNeg) a = va_cpy (V a0) (V a) sp.toNatClampNeg dp.toNatClampNeg n.toNatClampNeg := by simp [xrow]
  obtain ⟨t, a1, b1⟩ := kk _ _ lsA (xP_upd hP g2 g3 rfl rfl xrow_o ⟨fun _ h => by omega, fun _ _ => by rw [hk, hrow, g1, ← hcell]; rfl, fun h => by omega⟩) ⟨by rw [g2]; exact hS.1, fun q q1 q2 => by
      rw [g3 q (fun e => q2 (by rw [e]; exact hr.1))]
      exact hS.2.1 q q1 q2, fun q hq => by
      rcases List.mem_append.mp hq with h | h
      · exact hS.2.2 q h
      · obtain ⟨z, -, hz⟩ := List.mem_map.mp h
        rw [← hz]
        exact hr.1⟩ (xEx_upd hE (by omega) xrow_o) hl _ hheap X'
  exact ⟨t, step t a1, b1⟩
end XNW
end
section
/-! ===== a step, whichever it is ===== -/
section XDI
variable {cy : Nat → ClassId} {D : va_G} {Bs : Nat} {E : Nat × Nat × Nat} {p : Program} {l : Launch} {e : Env} {R : Room} {s : State} {m : MethodId} {args : Array Value} {below : List Frame} {meth : Method} {c : Code} {Q : State → Prop} {mm : xM} {T0 Z0 : Nat} {pc : Nat} {ls : List (Option Value)} {st : List Value} {S : xSh} {V : xV}
theorem lv_if_eq' {H : Heap} {locs : List Loc} {cells slots : Nat} {lsA : Array Slot} {rest : List Value} {cc : ByteArray} (hexec : p.tables.exec = Jvm.exec) (hb : c.code = cc) {x : Int32} {off : Int} (hdg : decode cc pc = .ok (.ifCond .eq off, 3)) (hP : ¬ (x = 0)) (kf : W p l e R s m args below meth c H locs cells slots Q (F0 m (pc + 3) lsA rest)) : W p l e R s m args below meth c H locs cells slots Q (F0 m pc lsA (.int x :: rest)) := by
  intro T hT X
  obtain ⟨t, a, b⟩ := kf T hT X
  refine ⟨t, ?_, b⟩
  jvm_step X.here [X.here.top, hexec, hb, hdg, Op.ifCond.holds, hP]
  exact a
theorem lv_icmp_eq' {H : Heap} {locs : List Loc} {cells slots : Nat} {lsA : Array Slot} {rest : List Value} {cc : ByteArray} (hexec : p.tables.exec = Jvm.exec) (hb : c.code = cc) {x y : Int32} {off : Int} (hdg : decode cc pc = .ok (.if_icmp .eq off, 3)) (hP : ¬ (x = y)) (kf : W p l e R s m args below meth c H locs cells slots Q (F0 m (pc + 3) lsA rest)) : W p l e R s m args below meth c H locs cells slots Q (F0 m pc lsA (.int y :: .int x :: rest)) := by
  intro T hT X
  obtain ⟨t, a, b⟩ := kf T hT X
  refine ⟨t, ?_, b⟩
  jvm_step X.here [X.here.top, hexec, hb, hdg, Op.if_icmp.holds, hP]
  exact a
theorem lv_if_ne' {H : Heap} {locs : List Loc} {cells slots : Nat} {lsA : Array Slot} {rest : List Value} {cc : ByteArray} (hexec : p.tables.exec = Jvm.exec) (hb : c.code = cc) {x : Int32} {off : Int} (hdg : decode cc pc = .ok (.ifCond .ne off, 3)) (hP : x = 0) (kf : W p l e R s m args below meth c H locs cells slots Q (F0 m (pc + 3) lsA rest)) : W p l e R s m args below meth c H locs cells slots Q (F0 m pc lsA (.int x :: rest)) := by
  intro T hT X
  obtain ⟨t, a, b⟩ := kf T hT X
  refine ⟨t, ?_, b⟩
  jvm_step X.here [X.here.top, hexec, hb, hdg, Op.ifCond.holds, hP]
  exact a
theorem lv_icmp_ne' {H : Heap} {locs : List Loc} {cells slots : Nat} {lsA : Array Slot} {rest : List Value} {cc : ByteArray} (hexec : p.tables.exec = Jvm.exec) (hb : c.code = cc) {x y : Int32} {off : Int} (hdg : decode cc pc = .ok (.if_icmp .ne off, 3)) (hP : x = y) (kf : W p l e R s m args below meth c H locs cells slots Q (F0 m (pc + 3) lsA rest)) : W p l e R s m args below meth c H locs cells slots Q (F0 m pc lsA (.int y :: .int x :: rest)) := by
  intro T hT X
  obtain ⟨t, a, b⟩ := kf T hT X
  refine ⟨t, ?_, b⟩
  jvm_step X.here [X.here.top, hexec, hb, hdg, Op.if_icmp.holds, hP]
  exact a
theorem lv_if_lt' {H : Heap} {locs : List Loc} {cells slots : Nat} {lsA : Array Slot} {rest : List Value} {cc : ByteArray} (hexec : p.tables.exec = Jvm.exec) (hb : c.code = cc) {x : Int32} {off : Int} (hdg : decode cc pc = .ok (.ifCond .lt off, 3)) (hP : ¬ (x < 0)) (kf : W p l e R s m args below meth c H locs cells slots Q (F0 m (pc + 3) lsA rest)) : W p l e R s m args below meth c H locs cells slots Q (F0 m pc lsA (.int x :: rest)) := by
  intro T hT X
  obtain ⟨t, a, b⟩ := kf T hT X
  refine ⟨t, ?_, b⟩
  jvm_step X.here [X.here.top, hexec, hb, hdg, Op.ifCond.holds, hP]
  exact a
theorem lv_icmp_lt' {H : Heap} {locs : List Loc} {cells slots : Nat} {lsA : Array Slot} {rest : List Value} {cc : ByteArray} (hexec : p.tables.exec = Jvm.exec) (hb : c.code = cc) {x y : Int32} {off : Int} (hdg : decode cc pc = .ok (.if_icmp .lt off, 3)) (hP : ¬ (x < y)) (kf : W p l e R s m args below meth c H locs cells slots Q (F0 m (pc + 3) lsA rest)) : W p l e R s m args below meth c H locs cells slots Q (F0 m pc lsA (.int y :: .int x :: rest)) := by
  intro T hT X
  obtain ⟨t, a, b⟩ := kf T hT X
  refine ⟨t, ?_, b⟩
  jvm_step X.here [X.here.top, hexec, hb, hdg, Op.if_icmp.holds, hP]
  exact a
theorem lv_if_ge' {H : Heap} {locs : List Loc} {cells slots : Nat} {lsA : Array Slot} {rest : List Value} {cc : ByteArray} (hexec : p.tables.exec = Jvm.exec) (hb : c.code = cc) {x : Int32} {off : Int} (hdg : decode cc pc = .ok (.ifCond .ge off, 3)) (hP : ¬ (0 ≤ x)) (kf : W p l e R s m args below meth c H locs cells slots Q (F0 m (pc + 3) lsA rest)) : W p l e R s m args below meth c H locs cells slots Q (F0 m pc lsA (.int x :: rest)) := by
  intro T hT X
  obtain ⟨t, a, b⟩ := kf T hT X
  refine ⟨t, ?_, b⟩
  jvm_step X.here [X.here.top, hexec, hb, hdg, Op.ifCond.holds, hP]
  exact a
theorem lv_icmp_ge' {H : Heap} {locs : List Loc} {cells slots : Nat} {lsA : Array Slot} {rest : List Value} {cc : ByteArray} (hexec : p.tables.exec = Jvm.exec) (hb : c.code = cc) {x y : Int32} {off : Int} (hdg : decode cc pc = .ok (.if_icmp .ge off, 3)) (hP : ¬ (y ≤ x)) (kf : W p l e R s m args below meth c H locs cells slots Q (F0 m (pc + 3) lsA rest)) : W p l e R s m args below meth c H locs cells slots Q (F0 m pc lsA (.int y :: .int x :: rest)) := by
  intro T hT X
  obtain ⟨t, a, b⟩ := kf T hT X
  refine ⟨t, ?_, b⟩
  jvm_step X.here [X.here.top, hexec, hb, hdg, Op.if_icmp.holds, hP]
  exact a
theorem lv_if_gt' {H : Heap} {locs : List Loc} {cells slots : Nat} {lsA : Array Slot} {rest : List Value} {cc : ByteArray} (hexec : p.tables.exec = Jvm.exec) (hb : c.code = cc) {x : Int32} {off : Int} (hdg : decode cc pc = .ok (.ifCond .gt off, 3)) (hP : ¬ (0 < x)) (kf : W p l e R s m args below meth c H locs cells slots Q (F0 m (pc + 3) lsA rest)) : W p l e R s m args below meth c H locs cells slots Q (F0 m pc lsA (.int x :: rest)) := by
  intro T hT X
  obtain ⟨t, a, b⟩ := kf T hT X
  refine ⟨t, ?_, b⟩
  jvm_step X.here [X.here.top, hexec, hb, hdg, Op.ifCond.holds, hP]
  exact a
theorem lv_icmp_gt' {H : Heap} {locs : List Loc} {cells slots : Nat} {lsA : Array Slot} {rest : List Value} {cc : ByteArray} (hexec : p.tables.exec = Jvm.exec) (hb : c.code = cc) {x y : Int32} {off : Int} (hdg : decode cc pc = .ok (.if_icmp .gt off, 3)) (hP : ¬ (y < x)) (kf : W p l e R s m args below meth c H locs cells slots Q (F0 m (pc + 3) lsA rest)) : W p l e R s m args below meth c H locs cells slots Q (F0 m pc lsA (.int y :: .int x :: rest)) := by
  intro T hT X
  obtain ⟨t, a, b⟩ := kf T hT X
  refine ⟨t, ?_, b⟩
  jvm_step X.here [X.here.top, hexec, hb, hdg, Op.if_icmp.holds, hP]
  exact a
theorem lv_if_le' {H : Heap} {locs : List Loc} {cells slots : Nat} {lsA : Array Slot} {rest : List Value} {cc : ByteArray} (hexec : p.tables.exec = Jvm.exec) (hb : c.code = cc) {x : Int32} {off : Int} (hdg : decode cc pc = .ok (.ifCond .le off, 3)) (hP : ¬ (x ≤ 0)) (kf : W p l e R s m args below meth c H locs cells slots Q (F0 m (pc + 3) lsA rest)) : W p l e R s m args below meth c H locs cells slots Q (F0 m pc lsA (.int x :: rest)) := by
  intro T hT X
  obtain ⟨t, a, b⟩ := kf T hT X
  refine ⟨t, ?_, b⟩
  jvm_step X.here [X.here.top, hexec, hb, hdg, Op.ifCond.holds, hP]
  exact a
theorem lv_icmp_le' {H : Heap} {locs : List Loc} {cells slots : Nat} {lsA : Array Slot} {rest : List Value} {cc : ByteArray} (hexec : p.tables.exec = Jvm.exec) (hb : c.code = cc) {x y : Int32} {off : Int} (hdg : decode cc pc = .ok (.if_icmp .le off, 3)) (hP : ¬ (x ≤ y)) (kf : W p l e R s m args below meth c H locs cells slots Q (F0 m (pc + 3) lsA rest)) : W p l e R s m args below meth c H locs cells slots Q (F0 m pc lsA (.int y :: .int x :: rest)) := by
  intro T hT X
  obtain ⟨t, a, b⟩ := kf T hT X
  refine ⟨t, ?_, b⟩
  jvm_step X.here [X.here.top, hexec, hb, hdg, Op.if_icmp.holds, hP]
  exact a
theorem g_off (hC : xCx cy D Bs E p R s m args meth c mm) {i : Instr} {off : Int} {k : Nat} {pc' : Nat} {ls' : List (Option Value)} {st' st0 : List Value} {S' : xSh} {V' : xV} (h : xoff pc off ls st S V = some (.inl (pc', ls', st', S', V')))
    (hw : ∀ (tgt : Nat), (pc : Int) + off = (tgt : Int) → xG cy D Bs p l e R s m args below meth c Q mm.2.2.1 T0 Z0 tgt ls st S V → xG cy D Bs p l e R s m args below meth c Q mm.2.2.1 T0 Z0 pc ls st0 S V) (kk : xG cy D Bs p l e R s m args below meth c Q mm.2.2.1 T0 Z0 pc' ls' st' S' V') : xG cy D Bs p l e R s m args below meth c Q mm.2.2.1 T0 Z0 pc ls st0 S V := by
  unfold xoff xgo at h
  split at h
  · rename_i h0
    cases h
    exact hw _ (by omega) kk
  · cases h
theorem xnext_ok (hC : xCx cy D Bs E p R s m args meth c mm) (hT : T0 ≤ S.2.1) (hZ : Z0 ≤ S.2.2) {pc' : Nat} {ls' : List (Option Value)} {st' : List Value} {S' : xSh} {V' : xV} (h : xstep E mm pc ls st S V = some (.inl (pc', ls', st', S', V'))) (hrm : S'.2.1 - T0 ≤ R.cells ∧ S'.2.2 - Z0 ≤ R.slots) (kk : xG cy D Bs p l e R s m args below meth c Q mm.2.2.1 T0 Z0 pc' ls' st' S' V') : xG cy D Bs p l e R s m args below meth c Q mm.2.2.1 T0 Z0 pc ls st S V := by
  unfold xstep at h
  cases hd : decode mm.2.1 pc with
  | error x => rw [hd] at h; cases h
  | ok ik =>
  obtain ⟨i, k⟩ := ik
  rw [hd] at h
  dsimp only at h
  cases i
  case iconst n =>
    simp only [xdo, xgo] at h
    split at h
    · rename_i hk
      subst hk
      cases h
      exact fun H locs lsA hP hS hE hl => lv_iconst hC.hx hC.hb hd rfl (kk H locs lsA hP hS hE hl)
    · cases h
  case bipush n =>
    simp only [xdo, xgo] at h
    split at h
    · rename_i hk
      subst hk
      cases h
      exact fun H locs lsA hP hS hE hl => lv_bipush hC.hx hC.hb hd rfl (kk H locs lsA hP hS hE hl)
    · cases h
  case sipush n =>
    simp only [xdo, xgo] at h
    split at h
    · rename_i hk
      subst hk
      cases h
      exact fun H locs lsA hP hS hE hl => lv_sipush hC.hx hC.hb hd rfl (kk H locs lsA hP hS hE hl)
    · cases h
  case lconst n =>
    simp only [xdo, xgo] at h
    split at h
    · rename_i hk
      subst hk
      cases h
      exact fun H locs lsA hP hS hE hl => lv_lconst hC.hx hC.hb hd rfl (kk H locs lsA hP hS hE hl)
    · cases h
  case iload_n j =>
    simp only [xdo, xgo] at h
    split at h
    · rename_i hk
      subst hk
      split at h
      · rename_i x hx
        cases h
        exact fun H locs lsA hP hS hE hl => lv_iload_n hC.hx hC.hb hd rfl (xLo_at hl hx) (kk H locs lsA hP hS hE hl)
      · cases h
    · cases h
  case iload j =>
    simp only [xdo, xgo] at h
    split at h
    · rename_i hk
      subst hk
      split at h
      · rename_i x hx
        cases h
        exact fun H locs lsA hP hS hE hl => lv_iload hC.hx hC.hb hd (xLo_at hl hx) (kk H locs lsA hP hS hE hl)
      · cases h
    · cases h
  case lload_n j =>
    simp only [xdo, xgo] at h
    split at h
    · rename_i hk
      subst hk
      split at h
      · rename_i x hx
        cases h
        exact fun H locs lsA hP hS hE hl => lv_lload_n hC.hx hC.hb hd rfl (xLo_at hl hx) (kk H locs lsA hP hS hE hl)
      · cases h
    · cases h
  case lload j =>
    simp only [xdo, xgo] at h
    split at h
    · rename_i hk
      subst hk
      split at h
      · rename_i x hx
        cases h
        exact fun H locs lsA hP hS hE hl => lv_lload hC.hx hC.hb hd (xLo_at hl hx) (kk H locs lsA hP hS hE hl)
      · cases h
    · cases h
  case aload_n j =>
    simp only [xdo, xgo] at h
    split at h
    · rename_i hk
      subst hk
      split at h
      · rename_i x hx
        cases h
        exact fun H locs lsA hP hS hE hl => lv_aload_n hC.hx hC.hb hd rfl (xLo_at hl hx) (kk H locs lsA hP hS hE hl)
      · cases h
    · cases h
  case aload j =>
    simp only [xdo, xgo] at h
    split at h
    · rename_i hk
      subst hk
      split at h
      · rename_i x hx
        cases h
        exact fun H locs lsA hP hS hE hl => lv_aload hC.hx hC.hb hd (xLo_at hl hx) (kk H locs lsA hP hS hE hl)
      · cases h
    · cases h
  case istore_n j =>
    simp only [xdo, xgo] at h
    split at h
    · rename_i hk
      subst hk
      split at h
      · split at h
        · rename_i hlt
          cases h
          exact fun H locs lsA hP hS hE hl => lv_istore_n hC.hx hC.hb hd rfl hl.2 (by rw [← hl.1]; exact hlt) rfl (fun ls2 h2 => kk H locs ls2 hP hS hE (xLo_st1 hl h2))
        · cases h
      · cases h
    · cases h
  case istore j =>
    simp only [xdo, xgo] at h
    split at h
    · rename_i hk
      subst hk
      split at h
      · split at h
        · rename_i hlt
          cases h
          exact fun H locs lsA hP hS hE hl => lv_istore hC.hx hC.hb hd hl.2 (by rw [← hl.1]; exact hlt) rfl (fun ls2 h2 => kk H locs ls2 hP hS hE (xLo_st1 hl h2))
        · cases h
      · cases h
    · cases h
  case lstore_n j =>
    simp only [xdo, xgo] at h
    split at h
    · rename_i hk
      subst hk
      split at h
      · split at h
        · rename_i hlt
          cases h
          exact fun H locs lsA hP hS hE hl => lv_lstore_n hC.hx hC.hb hd rfl hl.2 (by rw [← hl.1]; exact hlt) rfl (fun ls2 h2 => kk H locs ls2 hP hS hE (xLo_st2 hl h2))
        · cases h
      · cases h
    · cases h
  case lstore j =>
    simp only [xdo, xgo] at h
    split at h
    · rename_i hk
      subst hk
      split at h
      · split at h
        · rename_i hlt
          cases h
          exact fun H locs lsA hP hS hE hl => lv_lstore hC.hx hC.hb hd hl.2 (by rw [← hl.1]; exact hlt) rfl (fun ls2 h2 => kk H locs ls2 hP hS hE (xLo_st2 hl h2))
        · cases h
      · cases h
    · cases h
  case astore_n j =>
    simp only [xdo, xgo] at h
    split at h
    · rename_i hk
      subst hk
      split at h
      · split at h
        · rename_i hlt
          cases h
          exact fun H locs lsA hP hS hE hl => lv_astore_n hC.hx hC.hb hd rfl hl.2 (by rw [← hl.1]; exact hlt) rfl (fun ls2 h2 => kk H locs ls2 hP hS hE (xLo_st1 hl h2))
        · cases h
      · cases h
    · cases h
  case astore j =>
    simp only [xdo, xgo] at h
    split at h
    · rename_i hk
      subst hk
      split at h
      · split at h
        · rename_i hlt
          cases h
          exact fun H locs lsA hP hS hE hl => lv_astore hC.hx hC.hb hd hl.2 (by rw [← hl.1]; exact hlt) rfl (fun ls2 h2 => kk H locs ls2 hP hS hE (xLo_st1 hl h2))
        · cases h
      · cases h
    · cases h
  case iinc j n =>
    simp only [xdo, xgo] at h
    split at h
    · rename_i hk
      subst hk
      split at h
      · rename_i x hx
        split at h
        · rename_i hlt
          cases h
          intro H locs lsA hP hS hE hl
          obtain ⟨q, hq⟩ := List.getElem?_of_mem (xlv_mem.mpr (xlocAt_iff.mp hx))
          exact lv_iinc hC.hx hC.hb hd hl.2 hq rfl (by rw [← hl.1]; exact hlt) rfl (fun ls2 h2 => kk H locs ls2 hP hS hE (xLo_st1 hl h2))
        · cases h
      · cases h
    · cases h
  case iadd =>
    simp only [xdo, xgo] at h
    split at h
    · rename_i hk
      subst hk
      split at h
      · cases h
        exact fun H locs lsA hP hS hE hl => lv_iadd hC.hx hC.hb hd (kk H locs lsA hP hS hE hl)
      · cases h
    · cases h
  case isub =>
    simp only [xdo, xgo] at h
    split at h
    · rename_i hk
      subst hk
      split at h
      · cases h
        exact fun H locs lsA hP hS hE hl => lv_isub hC.hx hC.hb hd (kk H locs lsA hP hS hE hl)
      · cases h
    · cases h
  case imul =>
    simp only [xdo, xgo] at h
    split at h
    · rename_i hk
      subst hk
      split at h
      · cases h
        exact fun H locs lsA hP hS hE hl => lv_imul hC.hx hC.hb hd (kk H locs lsA hP hS hE hl)
      · cases h
    · cases h
  case iand =>
    simp only [xdo, xgo] at h
    split at h
    · rename_i hk
      subst hk
      split at h
      · cases h
        exact fun H locs lsA hP hS hE hl => lv_iand hC.hx hC.hb hd (kk H locs lsA hP hS hE hl)
      · cases h
    · cases h
  case ior =>
    simp only [xdo, xgo] at h
    split at h
    · rename_i hk
      subst hk
      split at h
      · cases h
        exact fun H locs lsA hP hS hE hl => lv_ior hC.hx hC.hb hd (kk H locs lsA hP hS hE hl)
      · cases h
    · cases h
  case ixor =>
    simp only [xdo, xgo] at h
    split at h
    · rename_i hk
      subst hk
      split at h
      · cases h
        exact fun H locs lsA hP hS hE hl => lv_ixor hC.hx hC.hb hd (kk H locs lsA hP hS hE hl)
      · cases h
    · cases h
  case ishl =>
    simp only [xdo, xgo] at h
    split at h
    · rename_i hk
      subst hk
      split at h
      · cases h
        exact fun H locs lsA hP hS hE hl => lv_ishl hC.hx hC.hb hd (kk H locs lsA hP hS hE hl)
      · cases h
    · cases h
  case ishr =>
    simp only [xdo, xgo] at h
    split at h
    · rename_i hk
      subst hk
      split at h
      · cases h
        exact fun H locs lsA hP hS hE hl => lv_ishr hC.hx hC.hb hd (kk H locs lsA hP hS hE hl)
      · cases h
    · cases h
  case land =>
    simp only [xdo, xgo] at h
    split at h
    · rename_i hk
      subst hk
      split at h
      · cases h
        exact fun H locs lsA hP hS hE hl => lv_land hC.hx hC.hb hd (kk H locs lsA hP hS hE hl)
      · cases h
    · cases h
  case lor =>
    simp only [xdo, xgo] at h
    split at h
    · rename_i hk
      subst hk
      split at h
      · cases h
        exact fun H locs lsA hP hS hE hl => lv_lor hC.hx hC.hb hd (kk H locs lsA hP hS hE hl)
      · cases h
    · cases h
  case iushr =>
    simp only [xdo, xgo] at h
    split at h
    · rename_i hk
      subst hk
      split at h
      · cases h
        exact fun H locs lsA hP hS hE hl => lv_iushr hC.hx hC.hb hd rfl (kk H locs lsA hP hS hE hl)
      · cases h
    · cases h
  case lshl =>
    simp only [xdo, xgo] at h
    split at h
    · rename_i hk
      subst hk
      split at h
      · cases h
        exact fun H locs lsA hP hS hE hl => lv_lshl hC.hx hC.hb hd rfl (kk H locs lsA hP hS hE hl)
      · cases h
    · cases h
  case lushr =>
    simp only [xdo, xgo] at h
    split at h
    · rename_i hk
      subst hk
      split at h
      · cases h
        exact fun H locs lsA hP hS hE hl => lv_lushr hC.hx hC.hb hd rfl (kk H locs lsA hP hS hE hl)
      · cases h
    · cases h
  case i2l =>
    simp only [xdo, xgo] at h
    split at h
    · rename_i hk
      subst hk
      split at h
      · cases h
        exact fun H locs lsA hP hS hE hl => lv_i2l hC.hx hC.hb hd rfl (kk H locs lsA hP hS hE hl)
      · cases h
    · cases h
  case l2i =>
    simp only [xdo, xgo] at h
    split at h
    · rename_i hk
      subst hk
      split at h
      · cases h
        exact fun H locs lsA hP hS hE hl => lv_l2i hC.hx hC.hb hd rfl (kk H locs lsA hP hS hE hl)
      · cases h
    · cases h
  case i2c =>
    simp only [xdo, xgo] at h
    split at h
    · rename_i hk
      subst hk
      split at h
      · cases h
        exact fun H locs lsA hP hS hE hl => lv_i2c hC.hx hC.hb hd rfl (kk H locs lsA hP hS hE hl)
      · cases h
    · cases h
  case i2b =>
    simp only [xdo, xgo] at h
    split at h
    · rename_i hk
      subst hk
      split at h
      · cases h
        exact fun H locs lsA hP hS hE hl => lv_i2b hC.hx hC.hb hd rfl (kk H locs lsA hP hS hE hl)
      · cases h
    · cases h
  case lcmp =>
    simp only [xdo, xgo] at h
    split at h
    · rename_i hk
      subst hk
      split at h
      · cases h
        exact fun H locs lsA hP hS hE hl => W.lcmp hC.hx hC.hb hd (kk H locs lsA hP hS hE hl)
      · cases h
    · cases h
  case irem =>
    simp only [xdo, xgo] at h
    split at h
    · rename_i hk
      subst hk
      split at h
      · split at h
        · cases h
        · rename_i hne
          cases h
          exact fun H locs lsA hP hS hE hl => lv_irem hC.hx hC.hb hd hne (kk H locs lsA hP hS hE hl)
      · cases h
    · cases h
  case dup =>
    simp only [xdo, xgo] at h
    split at h
    · rename_i hk
      subst hk
      split at h
      · split at h
        · rename_i hc
          cases h
          exact fun H locs lsA hP hS hE hl => lv_dup hC.hx hC.hb hd hc (kk H locs lsA hP hS hE hl)
        · cases h
      · cases h
    · cases h
  case pop =>
    simp only [xdo, xgo] at h
    split at h
    · rename_i hk
      subst hk
      split at h
      · split at h
        · rename_i hc
          cases h
          exact fun H locs lsA hP hS hE hl => lv_pop hC.hx hC.hb hd hc (kk H locs lsA hP hS hE hl)
        · cases h
      · cases h
    · cases h
  case dup2 =>
    simp only [xdo, xgo] at h
    split at h
    · rename_i hk
      subst hk
      split at h
      · split at h
        · rename_i hc
          cases h
          exact fun H locs lsA hP hS hE hl => lv_dup2_11 hC.hx hC.hb hd hc.1 hc.2 (kk H locs lsA hP hS hE hl)
        · cases h
      · cases h
    · cases h
  case ifCond cc off =>
    simp only [xdo, xgo] at h
    split at h
    · rename_i hk
      subst hk
      split at h
      · cases cc
        case eq =>
          simp only [xcb, decide_eq_true_eq] at h
          split at h
          · rename_i hq
            refine g_off (i := .nop) (k := 0) hC h (fun tgt ht kt => ?_) kk
            intro H locs lsA hP hS hE hl
            exact lv_if_eq hC.hx hC.hb hd ht (fun _ => kt H locs lsA hP hS hE hl) (fun hn => absurd hq hn)
          · rename_i hq
            cases h
            intro H locs lsA hP hS hE hl
            exact lv_if_eq' hC.hx hC.hb hd hq (kk H locs lsA hP hS hE hl)
        case ne =>
          simp only [xcb, decide_eq_true_eq] at h
          split at h
          · rename_i hq
            refine g_off (i := .nop) (k := 0) hC h (fun tgt ht kt => ?_) kk
            intro H locs lsA hP hS hE hl
            exact lv_if_ne hC.hx hC.hb hd ht (fun _ => kt H locs lsA hP hS hE hl) (fun hn => absurd hn hq)
          · rename_i hq
            cases h
            intro H locs lsA hP hS hE hl
            exact lv_if_ne' hC.hx hC.hb hd (Classical.not_not.mp hq) (kk H locs lsA hP hS hE hl)
        case lt =>
          simp only [xcb, decide_eq_true_eq] at h
          split at h
          · rename_i hq
            refine g_off (i := .nop) (k := 0) hC h (fun tgt ht kt => ?_) kk
            intro H locs lsA hP hS hE hl
            exact lv_if_lt hC.hx hC.hb hd ht (fun _ => kt H locs lsA hP hS hE hl) (fun hn => absurd hq hn)
          · rename_i hq
            cases h
            intro H locs lsA hP hS hE hl
            exact lv_if_lt' hC.hx hC.hb hd hq (kk H locs lsA hP hS hE hl)
        case ge =>
          simp only [xcb, decide_eq_true_eq] at h
          split at h
          · rename_i hq
            refine g_off (i := .nop) (k := 0) hC h (fun tgt ht kt => ?_) kk
            intro H locs lsA hP hS hE hl
            exact lv_if_ge hC.hx hC.hb hd ht (fun _ => kt H locs lsA hP hS hE hl) (fun hn => absurd hq hn)
          · rename_i hq
            cases h
            intro H locs lsA hP hS hE hl
            exact lv_if_ge' hC.hx hC.hb hd hq (kk H locs lsA hP hS hE hl)
        case gt =>
          simp only [xcb, decide_eq_true_eq] at h
          split at h
          · rename_i hq
            refine g_off (i := .nop) (k := 0) hC h (fun tgt ht kt => ?_) kk
            intro H locs lsA hP hS hE hl
            exact lv_if_gt hC.hx hC.hb hd ht (fun _ => kt H locs lsA hP hS hE hl) (fun hn => absurd hq hn)
          · rename_i hq
            cases h
            intro H locs lsA hP hS hE hl
            exact lv_if_gt' hC.hx hC.hb hd hq (kk H locs lsA hP hS hE hl)
        case le =>
          simp only [xcb, decide_eq_true_eq] at h
          split at h
          · rename_i hq
            refine g_off (i := .nop) (k := 0) hC h (fun tgt ht kt => ?_) kk
            intro H locs lsA hP hS hE hl
            exact lv_if_le hC.hx hC.hb hd ht (fun _ => kt H locs lsA hP hS hE hl) (fun hn => absurd hq hn)
          · rename_i hq
            cases h
            intro H locs lsA hP hS hE hl
            exact lv_if_le' hC.hx hC.hb hd hq (kk H locs lsA hP hS hE hl)
      · cases h
    · cases h
  case if_icmp cc off =>
    simp only [xdo, xgo] at h
    split at h
    · rename_i hk
      subst hk
      split at h
      · cases cc
        case eq =>
          simp only [xcb, decide_eq_true_eq] at h
          split at h
          · rename_i hq
            refine g_off (i := .nop) (k := 0) hC h (fun tgt ht kt => ?_) kk
            intro H locs lsA hP hS hE hl
            exact lv_icmp_eq hC.hx hC.hb hd ht (fun _ => kt H locs lsA hP hS hE hl) (fun hn => absurd hq hn)
          · rename_i hq
            cases h
            intro H locs lsA hP hS hE hl
            exact lv_icmp_eq' hC.hx hC.hb hd hq (kk H locs lsA hP hS hE hl)
        case ne =>
          simp only [xcb, decide_eq_true_eq] at h
          split at h
          · rename_i hq
            refine g_off (i := .nop) (k := 0) hC h (fun tgt ht kt => ?_) kk
            intro H locs lsA hP hS hE hl
            exact lv_icmp_ne hC.hx hC.hb hd ht (fun _ => kt H locs lsA hP hS hE hl) (fun hn => absurd hn hq)
          · rename_i hq
            cases h
            intro H locs lsA hP hS hE hl
            exact lv_icmp_ne' hC.hx hC.hb hd (Classical.not_not.mp hq) (kk H locs lsA hP hS hE hl)
        case lt =>
          simp only [xcb, decide_eq_true_eq] at h
          split at h
          · rename_i hq
            refine g_off (i := .nop) (k := 0) hC h (fun tgt ht kt => ?_) kk
            intro H locs lsA hP hS hE hl
            exact lv_icmp_lt hC.hx hC.hb hd ht (fun _ => kt H locs lsA hP hS hE hl) (fun hn => absurd hq hn)
          · rename_i hq
            cases h
            intro H locs lsA hP hS hE hl
            exact lv_icmp_lt' hC.hx hC.hb hd hq (kk H locs lsA hP hS hE hl)
        case ge =>
          simp only [xcb, decide_eq_true_eq] at h
          split at h
          · rename_i hq
            refine g_off (i := .nop) (k := 0) hC h (fun tgt ht kt => ?_) kk
            intro H locs lsA hP hS hE hl
            exact lv_icmp_ge hC.hx hC.hb hd ht (fun _ => kt H locs lsA hP hS hE hl) (fun hn => absurd hq hn)
          · rename_i hq
            cases h
            intro H locs lsA hP hS hE hl
            exact lv_icmp_ge' hC.hx hC.hb hd hq (kk H locs lsA hP hS hE hl)
        case gt =>
          simp only [xcb, decide_eq_true_eq] at h
          split at h
          · rename_i hq
            refine g_off (i := .nop) (k := 0) hC h (fun tgt ht kt => ?_) kk
            intro H locs lsA hP hS hE hl
            exact lv_icmp_gt hC.hx hC.hb hd ht (fun _ => kt H locs lsA hP hS hE hl) (fun hn => absurd hq hn)
          · rename_i hq
            cases h
            intro H locs lsA hP hS hE hl
            exact lv_icmp_gt' hC.hx hC.hb hd hq (kk H locs lsA hP hS hE hl)
        case le =>
          simp only [xcb, decide_eq_true_eq] at h
          split at h
          · rename_i hq
            refine g_off (i := .nop) (k := 0) hC h (fun tgt ht kt => ?_) kk
            intro H locs lsA hP hS hE hl
            exact lv_icmp_le hC.hx hC.hb hd ht (fun _ => kt H locs lsA hP hS hE hl) (fun hn => absurd hq hn)
          · rename_i hq
            cases h
            intro H locs lsA hP hS hE hl
            exact lv_icmp_le' hC.hx hC.hb hd hq (kk H locs lsA hP hS hE hl)
      · cases h
    · cases h
  case goto off =>
    simp only [xdo, xgo] at h
    split at h
    · rename_i hk
      subst hk
      exact g_off (i := .nop) (k := 0) hC h (fun tgt ht kt H locs lsA hP hS hE hl => lv_goto hC.hx hC.hb hd ht (kt H locs lsA hP hS hE hl)) kk
    · cases h
  case tableswitch dd lo hi offs =>
    simp only [xdo, xgo] at h
    split at h
    · split at h
      · rename_i hq
        exact g_off (i := .nop) (k := 0) hC h (fun tgt ht kt H locs lsA hP hS hE hl => lv_tableOut hC.hx hC.hb hd hq ht (kt H locs lsA hP hS hE hl)) kk
      · rename_i hq
        split at h
        · rename_i off ho
          exact g_off (i := .nop) (k := 0) hC h (fun tgt ht kt H locs lsA hP hS hE hl => lv_tableIn hC.hx hC.hb hd (fun z => hq (Or.inl z)) (fun z => hq (Or.inr z)) ho ht (kt H locs lsA hP hS hE hl)) kk
        · cases h
    · cases h
  case lookupswitch dd ps =>
    simp only [xdo, xgo] at h
    split at h
    · split at h
      · rename_i hq
        exact g_off (i := .nop) (k := 0) hC h (fun tgt ht kt H locs lsA hP hS hE hl => lv_lookup hC.hx hC.hb hd hq rfl ht (kt H locs lsA hP hS hE hl)) kk
      · cases h
    · cases h
  case ldc x =>
    simp only [xdo, xgo] at h
    split at h
    · rename_i hk
      subst hk
      split at h
      · rename_i v hv
        cases h
        exact fun H locs lsA hP hS hE hl => lv_ldc hC.hx hC.hb hC.hown (hC.hts _ (xIt_ok _ (xassoc_mem hv))) hd (kk H locs lsA hP hS hE hl)
      · split at h
        · rename_i hq
          cases h
          intro H locs lsA hP hS hE hl
          have h4 := hC.hO.2.2.2.1
          rw [← hq] at h4
          exact va_ldcS hC.hx hC.hb hC.hown h4 hd (kk H locs lsA hP hS hE hl)
        · cases h
    · cases h
  case ldc_w x =>
    simp only [xdo, xgo] at h
    split at h
    · rename_i hk
      subst hk
      split at h
      · rename_i v hv
        cases h
        exact fun H locs lsA hP hS hE hl => lv_ldcw hC.hx hC.hb hC.hown (hC.hts _ (xIt_ok _ (xassoc_mem hv))) hd (kk H locs lsA hP hS hE hl)
      · cases h
    · cases h
  case ldc2_w x =>
    simp only [xdo, xgo] at h
    split at h
    · rename_i hk
      subst hk
      split at h
      · rename_i v hv
        cases h
        exact fun H locs lsA hP hS hE hl => lv_ldc2 hC.hx hC.hb hC.hown (hC.hts _ (xJt_ok _ (xassoc_mem hv))) hd (kk H locs lsA hP hS hE hl)
      · cases h
    · cases h
  case getfield x =>
    simp only [xdo, xgo] at h
    split at h
    · rename_i hk
      subst hk
      split at h
      · split at h
        · rename_i kd j hf
          split at h
          · rename_i hkd
            cases h
            exact g_getfield hC hf hkd hd kk
          · cases h
        · cases h
      · cases h
    · cases h
  case putfield x =>
    simp only [xdo, xgo] at h
    split at h
    · rename_i hk
      subst hk
      split at h
      · rename_i kd j hf
        split at h
        · split at h
          · rename_i hq
            cases h
            exact g_putI hC hf hq.1 hq.2.1 hq.2.2.1 hq.2.2.2 hd kk
          · cases h
        · split at h
          · rename_i hq
            cases h
            exact g_putR hC hf hq.1 hq.2.1 hq.2.2.1 hq.2.2.2.1 hq.2.2.2.2 hd kk
          · cases h
        · cases h
      · cases h
    · cases h
  case getstatic x =>
    simp only [xdo, xgo] at h
    split at h
    · rename_i hk
      subst hk
      split at h
      · rename_i hf
        cases h
        exact g_static hC hf (Or.inl ⟨rfl, rfl⟩) hd kk
      · rename_i hf
        cases h
        exact g_static hC hf (Or.inr (Or.inl ⟨rfl, rfl⟩)) hd kk
      · rename_i hf
        cases h
        exact g_static hC hf (Or.inr (Or.inr ⟨rfl, rfl⟩)) hd kk
      · cases h
    · cases h
  case iaload =>
    simp only [xdo, xgo] at h
    split at h
    · rename_i hk
      subst hk
      split at h
      · split at h
        · rename_i hq
          cases h
          exact g_iaload hC hq.1 hq.2 hd kk
        · cases h
      · cases h
    · cases h
  case baload =>
    simp only [xdo, xgo] at h
    split at h
    · rename_i hk
      subst hk
      split at h
      · split at h
        · rename_i hq
          cases h
          exact g_baload hC hq.1 hq.2 hd kk
        · cases h
      · cases h
    · cases h
  case caload =>
    simp only [xdo, xgo] at h
    split at h
    · rename_i hk
      subst hk
      split at h
      · split at h
        · rename_i hq
          cases h
          exact g_caload hC hq.1 hq.2 hd kk
        · cases h
      · cases h
    · cases h
  case aaload =>
    simp only [xdo, xgo] at h
    split at h
    · rename_i hk
      subst hk
      split at h
      · split at h
        · rename_i hq
          cases h
          exact g_aaload hC hq.1 hq.2 hd kk
        · cases h
      · cases h
    · cases h
  case iastore =>
    simp only [xdo, xgo] at h
    split at h
    · rename_i hk
      subst hk
      split at h
      · split at h
        · rename_i hq
          cases h
          exact g_iastore hC hq.1 hq.2 hd kk
        · cases h
      · cases h
    · cases h
  case bastore =>
    simp only [xdo, xgo] at h
    split at h
    · rename_i hk
      subst hk
      split at h
      · split at h
        · rename_i hq
          cases h
          exact g_bastore hC hq.1 hq.2 hd kk
        · cases h
      · cases h
    · cases h
  case castore =>
    simp only [xdo, xgo] at h
    split at h
    · rename_i hk
      subst hk
      split at h
      · split at h
        · rename_i hq
          cases h
          exact g_castore hC hq.1 hq.2 hd kk
        · cases h
      · cases h
    · cases h
  case aastore =>
    simp only [xdo, xgo] at h
    split at h
    · rename_i hk
      subst hk
      split at h
      · split at h
        · rename_i hq
          cases h
          exact g_aastore hC hq.1 hq.2 hd kk
        · cases h
      · cases h
    · cases h
  case arraylength =>
    simp only [xdo, xgo] at h
    split at h
    · rename_i hk
      subst hk
      split at h
      · split at h
        · rename_i hq
          cases h
          exact g_alen hC hq hd kk
        · cases h
      · cases h
    · cases h
  case newarray t =>
    simp only [xdo, xgo] at h
    split at h
    · rename_i hk
      subst hk
      split at h
      · split at h
        · cases h
        · rename_i hn
          split at h
          · rename_i hn2
            split at h
            · cases h
              exact g_newarr hC hT hZ (Or.inl ⟨rfl, rfl⟩) hn hn2 hrm hd kk
            · cases h
              exact g_newarr hC hT hZ (Or.inr (Or.inl ⟨rfl, rfl⟩)) hn hn2 hrm hd kk
            · cases h
              exact g_newarr hC hT hZ (Or.inr (Or.inr ⟨rfl, rfl⟩)) hn hn2 hrm hd kk
            · cases h
          · cases h
      · cases h
    · cases h
  case anewarray x =>
    simp only [xdo, xgo] at h
    split at h
    · rename_i hk
      subst hk
      split at h
      · split at h
        · cases h
        · rename_i hn
          split at h
          · rename_i hn2
            split at h
            · rename_i hf
              cases h
              exact g_anewarr hC hT hZ hf (Or.inl ⟨rfl, rfl⟩) hn hn2 hrm hd kk
            · rename_i hf
              cases h
              exact g_anewarr hC hT hZ hf (Or.inr ⟨rfl, rfl⟩) hn hn2 hrm hd kk
            · cases h
          · cases h
      · cases h
    · cases h
  case new x =>
    simp only [xdo, xgo] at h
    split at h
    · rename_i hk
      subst hk
      split at h
      · rename_i ci hf
        cases h
        exact g_new hC hT hZ hf hrm hd kk
      · cases h
    · cases h
  case invokestatic x =>
    simp only [xdo, xgo] at h
    split at h
    · rename_i hk
      subst hk
      split at h
      · exfalso; unfold xcall at h; split at h <;> cases h
      · exfalso; unfold xcall at h; split at h <;> cases h
      · cases h
      · split at h
        · rename_i hf
          split at h
          · split at h
            · rename_i hq
              cases h
              exact g_max hC hf hq.1 hq.2 hrm hd kk
            · cases h
          · cases h
        · rename_i hf
          split at h
          · split at h
            · rename_i hq
              cases h
              exact g_min hC hf hq.1 hq.2 hrm hd kk
            · cases h
          · cases h
        · cases h
        · split at h
          · rename_i hf
            split at h
            · split at h
              · rename_i hq
                cases h
                exact g_copy hC hf hq.1 hq.2.1 hq.2.2.1.1 hq.2.2.1.2.1 hq.2.2.1.2.2 hq.2.2.2.1 hq.2.2.2.2.1 hq.2.2.2.2.2.1 hq.2.2.2.2.2.2 hd kk
              · cases h
            · cases h
          · cases h
    · cases h
  case invokespecial x =>
    simp only [xdo, xgo] at h
    split at h
    · rename_i hk
      subst hk
      split at h
      · exfalso
        split at h
        · unfold xcall at h; split at h <;> cases h
        · cases h
      · exfalso
        split at h
        · unfold xcall at h; split at h <;> cases h
        · cases h
      · cases h
      · split at h
        · rename_i hf
          split at h
          · split at h
            · rename_i hq
              cases h
              exact g_objInit hC hf hq.1 hq.2 hd kk
            · cases h
          · cases h
        · cases h
    · cases h
  case invokevirtual x =>
    simp only [xdo, xgo] at h
    exfalso
    split at h
    · split at h
      · split at h
        · split at h
          · unfold xcall at h; split at h <;> cases h
          · cases h
        · cases h
      · cases h
    · cases h
  case ireturn =>
    simp only [xdo, xgo] at h
    exfalso
    repeat' (split at h)
    all_goals cases h
  case areturn =>
    simp only [xdo, xgo] at h
    exfalso
    repeat' (split at h)
    all_goals cases h
  case return_ =>
    simp only [xdo, xgo] at h
    exfalso
    repeat' (split at h)
    all_goals cases h
  all_goals (simp only [xdo] at h; cases h)
end XDI
end
section
/-! ===== calls, returns, and every method ===== -/
theorem xstep_T {E : Nat × Nat × Nat} {mm : xM} {pc pc' : Nat} {ls ls' : List (Option Value)} {st st' : List Value} {S S' : xSh} {V V' : xV} (h : xstep E mm pc ls st S V = some (.inl (pc', ls', st', S', V'))) : S.2.1 ≤ S'.2.1 ∧ S.2.2 ≤ S'.2.2 := by
  unfold xstep at h
  cases hd : decode mm.2.1 pc with
  | error x => rw [hd] at h; cases h
  | ok ik =>
  obtain ⟨i, k⟩ := ik
  rw [hd] at h
  dsimp only at h
  cases i <;> simp only [xdo, xgo, xoff, xcall] at h <;> (repeat' split at h) <;> first
    | (cases h; done)
    | (cases h; exact ⟨Nat.le_refl _, Nat.le_refl _⟩)
    | (cases h; exact ⟨Nat.le_succ _, Nat.le_add_right _ _⟩)
theorem xrun_T {E : Nat × Nat × Nat} : ∀ (n : Nat) {mm : xM} {pc : Nat} {ls : List (Option Value)} {st : List Value} {S : xSh} {V : xV} {r : Option Value × xSh × xV}, xrun E n mm pc ls st S V = some r → S.2.1 ≤ r.2.1.2.1 ∧ S.2.2 ≤ r.2.1.2.2 := by
  intro n
  induction n with
  | zero => intro mm pc ls st S V r h; cases h
  | succ n ih =>
    intro mm pc ls st S V r h
    rw [xrun] at h
    cases hs : xstep E mm pc ls st S V with
    | none => rw [hs] at h; cases h
    | some q =>
      rw [hs] at h
      obtain ⟨pc', ls', st', S', V'⟩ | v | ⟨y, as, rest⟩ := q
      · have h1 := xstep_T hs
        have h2 := ih h
        exact ⟨Nat.le_trans h1.1 h2.1, Nat.le_trans h1.2 h2.2⟩
      · cases h
        exact ⟨Nat.le_refl _, Nat.le_refl _⟩
      · dsimp only at h
        cases hc : xrun E n y 0 (xlocs y.2.2.1 as) [] S V with
        | none => rw [hc] at h; cases h
        | some r1 =>
          rw [hc] at h
          have h1 := ih hc
          have h2 := ih h
          exact ⟨Nat.le_trans h1.1 h2.1, Nat.le_trans h1.2 h2.2⟩
section XCL
variable {cy : Nat → ClassId} {D : va_G} {Bs : Nat} {E : Nat × Nat × Nat} {p : Program} {l : Launch} {e : Env} {R : Room} {s : State} {m : MethodId} {args : Array Value} {below : List Frame} {meth : Method} {c : Code} {Q : State → Prop} {mm : xM} {T0 Z0 : Nat} {pc : Nat} {ls : List (Option Value)} {st : List Value} {S : xSh} {V : xV}
theorem xblind (as : List Value) (S : xSh) (V : xV) : FrameBlind (va_Pc as (xPic cy D Bs E S V)) := by
  intro a U g mk h
  obtain ⟨h1, hP, hK, hE, hO, hB⟩ := h
  exact ⟨h1, hP, va_K.moved (u := U) (U := U.calling g mk a) (Vm.Alike.refl U.vm) hK, xEx.moved (u := U) (U := U.calling g mk a) (Vm.Alike.refl U.vm) hE, xSo.same (u := U) (U := U.calling g mk a) rfl hO, hB⟩
theorem xpic_at (hC : xCx cy D Bs E p R s m args meth c mm) {H : Heap} {locs : List Loc} (hP : xP cy D Bs S V H) (hS : va_S (xA Bs) s.heap H locs) (hE : xEx Bs S V s s.heap) {U : State} (hU : U.heap = H) (hW : s.WarmedH U.vm) : xPic cy D Bs E S V U := by
  subst hU
  exact ⟨hP, hC.hK.moved hW.alike, (hE.kept hS.2.1).moved hW.alike, (hC.hO.kept hS.2.1).warm hW, Nat.le_trans hC.hB hS.1⟩
theorem xgood {y : xM} (h : xMok y) : GoodIn xws0 (xwsOf y) := by
  intro w hw
  rcases List.mem_cons.mp hw with rfl | hw
  · exact xws0_good _ h.1
  · exact xws0_good _ hw
theorem xCB (hC : xCx cy D Bs E p R s m args meth c mm) {y : xM} (hok : xMok y) {n : Nat} (hpd : (parseMethodDescriptor y.1.desc).map (fun d => d.parameters.length) = some n) (hht : xht y < xht mm) (mc ms : Nat) :
    ((xrm (xht y) mc ms).cells = mc ∧ (xrm (xht y) mc ms).slots = ms ∧ (xrm (xht y) mc ms).frames + 1 ≤ R.frames ∧ 8 + (y.2.2.1 + 11) + (xrm (xht y) mc ms).locals ≤ R.locals ∧ (∀ w ∈ xwsOf y, ∀ (a' : Array Value) (U : State), s.WarmedH U.vm → w.before a' U = true) ∧ Cond.code y.1 y.2.1 y.2.2.1 y.2.2.2.1 ∈ xwsOf y) ∧
    (Cond.code y.1 y.2.1 y.2.2.1 y.2.2.2.1).before args s = true ∧ (Cond.initialized y.1.cls).before args s = true ∧ (y.1.cls ≠ "java/lang/invoke/MethodHandle" ∧ y.1.cls ≠ "java/lang/invoke/VarHandle") ∧ (∀ sig, parseMethodDescriptor y.1.desc = some sig → n = sig.parameters.length) := by
  obtain ⟨h1, h2, h3, h4, h5, h6⟩ := id hok
  have hfr := hC.hfr
  have hlo := hC.hlo
  refine ⟨⟨rfl, rfl, by show xht y + 1 ≤ _; omega, by show 8 + (y.2.2.1 + 11) + 32 * xht y ≤ _; omega, pay_in hC.hts (xgood hok), List.mem_cons_self⟩, hC.hts _ h1, hC.hts _ h2, h3, fun sig h => ?_⟩
  rw [h] at hpd
  exact (Option.some.inj hpd).symm
/-- behind a call -/
theorem xrun_call (hC : xCx cy D Bs E p R s m args meth c mm) {as : List Value} {H : Heap} {locs : List Loc} {lsA : Array Slot} {st0 rest : List Value} {mc ms cells slots : Nat} {r : Option Value × xSh × xV} {a : Array Value} (hr : va_Run p l e R s m args below meth c H locs cells slots mc ms (F0 m pc lsA st0) rest (xQ cy D Bs E r a) (xA Bs)) (hS : va_S (xA Bs) s.heap H locs)
    (kk : ∀ (H1 : Heap) (locs1 : List Loc), xP cy D Bs r.2.1 r.2.2 H1 → va_S (xA Bs) s.heap H1 locs1 → xEx Bs r.2.1 r.2.2 s s.heap → W p l e R s m args below meth c H1 locs1 (cells + mc) (slots + ms) Q (F0 m (pc + 3) lsA (r.1.toList ++ rest))) : W p l e R s m args below meth c H locs cells slots Q (F0 m pc lsA st0) := by
  intro T hT X
  obtain ⟨v, st₀, t, T', L, h0, X', hL, e1, e2, ⟨hv, ⟨hP, hK, hE, hO, hB⟩, hz, hk⟩, st⟩ := hr T hT X
  cases hv
  rw [h0] at hz hk
  have hal : t.vm.Alike s.vm := by rw [← e2]; exact X'.warmed.alike.symm
  have hS1 : va_S (xA Bs) s.heap T'.heap (locs ++ L) := ⟨Nat.le_trans hS.1 (by rw [e1]; exact hz), fun q h1 h2 => by rw [e1, hk q (Nat.lt_of_lt_of_le h1 hS.1) h2]; exact hS.2.1 q h1 h2, fun q hq => by
      rcases List.mem_append.mp hq with h | h
      · exact hS.2.2 q h
      · exact hL q h⟩
  have hE1 : xEx Bs r.2.1 r.2.2 s s.heap := by
    refine (hE.moved hal).kept (fun q h1 h2 => ?_)
    have hlt : q < s.heap.size := Nat.lt_of_lt_of_le (Nat.lt_of_not_le h2) hC.hB
    rw [← e1]
    exact (hS1.2.1 q hlt h2).symm
  obtain ⟨t2, a1, b1⟩ := kk T'.heap (locs ++ L) (by rw [e1]; exact hP) hS1 hE1 T' rfl X'
  exact ⟨t2, st t2 a1, b1⟩
/-- what a call's step says of the callee -/
theorem xcall_eq {y y' : xM} {n : Nat} {as as' rest rest' : List Value} (h : xcall mm y n as rest st = some (.inr (.inr (y', as', rest')))) : y = y' ∧ as = as' ∧ rest = rest' ∧ n ≤ st.length ∧ xcat rest ≤ 8 ∧ xht y < xht mm ∧ (xargs as).length ≤ y.2.2.1 := by
  unfold xcall at h
  split at h
  · rename_i hq
    cases h
    exact ⟨rfl, rfl, rfl, hq⟩
  · cases h
theorem xcall_ok (hC : xCx cy D Bs E p R s m args meth c mm) (hT : T0 ≤ S.2.1) (hZ : Z0 ≤ S.2.2) {y : xM} {as rest : List Value} (h : xstep E mm pc ls st S V = some (.inr (.inr (y, as, rest)))) :
    xMok y ∧ xht y < xht mm ∧ (xargs as).length ≤ y.2.2.1 ∧ ∀ {r : Option Value × xSh × xV}, xMet l cy D Bs E y as S V r → S.2.1 ≤ r.2.1.2.1 → S.2.2 ≤ r.2.1.2.2 → r.2.1.2.1 - T0 ≤ R.cells ∧ r.2.1.2.2 - Z0 ≤ R.slots → xG cy D Bs p l e R s m args below meth c Q mm.2.2.1 T0 Z0 (pc + 3) ls (r.1.toList ++ rest) r.2.1 r.2.2 → xG cy D Bs p l e R s m args below meth c Q mm.2.2.1 T0 Z0 pc ls st S V := by
  unfold xstep at h
  cases hd : decode mm.2.1 pc with
  | error x => rw [hd] at h; cases h
  | ok ik =>
  obtain ⟨i, k⟩ := ik
  rw [hd] at h
  dsimp only at h
  have arith : ∀ {r : Option Value × xSh × xV}, S.2.1 ≤ r.2.1.2.1 → S.2.2 ≤ r.2.1.2.2 → S.2.1 - T0 + (r.2.1.2.1 - S.2.1) = r.2.1.2.1 - T0 ∧ S.2.2 - Z0 + (r.2.1.2.2 - S.2.2) = r.2.1.2.2 - Z0 := fun h1 h2 => ⟨by omega, by omega⟩
  cases i
  case invokevirtual x =>
    simp only [xdo] at h
    split at h
    · rename_i hk
      subst hk
      split at h
      · rename_i y0 n hf
        split at h
        · rename_i b rest0 hdr
          split at h
          · rename_i hkd
            obtain ⟨rfl, rfl, rfl, hn, hct, hht, hln⟩ := xcall_eq h
            obtain ⟨hok, hpd, h0, -⟩ := xCt_ok _ (xassoc_mem hf)
            dsimp only at hok hpd h0
            obtain ⟨w1, w2, w3, w4⟩ := h0 rfl
            refine ⟨hok, hht, hln, fun {r} hM m1 m2 hrm kk H locs lsA hP hS hE hl => ?_⟩
            obtain ⟨⟨c1, c2, c3, c4, c5, c6⟩, c7, c8, c9, c10⟩ := xCB hC hok hpd hht (r.2.1.2.1 - S.2.1) (r.2.1.2.2 - S.2.2)
            obtain ⟨a1, a2⟩ := arith m1 m2
            have hst : st = (st.take n).reverse.reverse ++ .ref b :: rest0 := by rw [List.reverse_reverse, ← hdr, List.take_append_drop]
            have hrecv : ∃ cellB : Cell, H[b]? = some cellB ∧ cellB.vm.isStatics = false ∧ s.vm.findClass y0.1.cls = some cellB.cls := by
              rw [hok.2.2.2.1]
              rcases w4 with w4 | w4
              · have hkd2 : xkd S b = xown y0 + 1 := by rw [hkd]; unfold xkdo; rw [if_neg (by omega)]
                obtain ⟨cell, q1, q2, q3, -⟩ := (hP.2 b).2.1 (by omega) (by omega)
                rw [hkd2] at q2
                obtain ⟨hc, -⟩ := xkf (xown y0 + 1) (by omega) (by omega)
                rw [Nat.add_sub_cancel] at q2 hc
                exact ⟨cell, q1, by rw [q3]; rfl, by rw [q2]; exact (hC.hK.1 _ _ hc).2.1⟩
              · have hkd2 : xkd S b = 13 := by rw [hkd]; unfold xkdo; rw [if_pos w4]
                obtain ⟨cell, q1, q2, q3, -⟩ := ((hE b).2.2 hkd2).1.kept hS.2.1
                exact ⟨cell, q1, q2, by rw [w4]; exact q3⟩
            refine xrun_call (as := .ref b :: (st.take n).reverse) hC (va_runV (As := (st.take n).reverse) (rest := rest0) (nL := mm.2.2.1) (n := n) (C := y0.1.cls) (own := xcn (xown mm)) (Ts := xws0) (maxL := y0.2.2.1) (bytes := y0.2.1) (ret := y0.2.2.2.1) ⟨hC.hx, hC.hb, hC.hml, hC.hown, hC.hts⟩ hM ⟨⟨c1, c2, c3, c4, c5, c6, c7, c8, c9, c10, hC.hts _ w1⟩, hC.hts _ w2, hC.hts _ w3⟩ ⟨xblind _ _ _, hrecv, fun U hU hW => ⟨rfl, xpic_at hC hP hS hE hU hW⟩⟩ rfl (by rw [List.length_reverse, List.length_take]; omega) hl.2.1 hst (lv_room hct) hd (by rw [a1, a2]; exact hrm)) hS (fun H1 locs1 g1 g2 g3 => ?_)
            rw [a1, a2]
            exact kk H1 locs1 lsA g1 g2 g3 hl
          · cases h
        · cases h
      · cases h
    · cases h
  case invokestatic x =>
    simp only [xdo] at h
    split at h
    · rename_i hk
      subst hk
      split at h
      · rename_i y0 n hf
        obtain ⟨rfl, rfl, rfl, hn, hct, hht, hln⟩ := xcall_eq h
        obtain ⟨hok, hpd, -, h0, -⟩ := xCt_ok _ (xassoc_mem hf)
        dsimp only at hok hpd h0
        obtain ⟨w1, w2⟩ := h0 rfl
        refine ⟨hok, hht, hln, fun {r} hM m1 m2 hrm kk H locs lsA hP hS hE hl => ?_⟩
        obtain ⟨⟨c1, c2, c3, c4, c5, c6⟩, c7, c8, c9, c10⟩ := xCB hC hok hpd hht (r.2.1.2.1 - S.2.1) (r.2.1.2.2 - S.2.2)
        obtain ⟨a1, a2⟩ := arith m1 m2
        have hst : st = (st.take n).reverse.reverse ++ st.drop n := by rw [List.reverse_reverse, List.take_append_drop]
        refine xrun_call (as := (st.take n).reverse) hC (va_runS (As := (st.take n).reverse) (rest := st.drop n) (nL := mm.2.2.1) (n := n) (own := xcn (xown mm)) (Ts := xws0) (maxL := y0.2.2.1) (bytes := y0.2.1) (ret := y0.2.2.2.1) ⟨hC.hx, hC.hb, hC.hml, hC.hown, hC.hts⟩ hM ⟨⟨c1, c2, c3, c4, c5, c6, c7, c8, c9, c10, hC.hts _ w1⟩, hC.hts _ w2⟩ ⟨xblind _ _ _, fun U hU hW => ⟨rfl, xpic_at hC hP hS hE hU hW⟩⟩ rfl (by rw [List.length_reverse, List.length_take]; omega) hl.2.1 hst (lv_room hct) hd (by rw [a1, a2]; exact hrm)) hS (fun H1 locs1 g1 g2 g3 => ?_)
        rw [a1, a2]
        exact kk H1 locs1 lsA g1 g2 g3 hl
      · rename_i y0 n hf
        obtain ⟨rfl, rfl, rfl, hn, hct, hht, hln⟩ := xcall_eq h
        obtain ⟨hok, hpd, -, -, -, h0, -⟩ := xCt_ok _ (xassoc_mem hf)
        dsimp only at hok hpd h0
        obtain ⟨w1, w2⟩ := h0 rfl
        refine ⟨hok, hht, hln, fun {r} hM m1 m2 hrm kk H locs lsA hP hS hE hl => ?_⟩
        obtain ⟨⟨c1, c2, c3, c4, c5, c6⟩, c7, c8, c9, c10⟩ := xCB hC hok hpd hht (r.2.1.2.1 - S.2.1) (r.2.1.2.2 - S.2.2)
        obtain ⟨a1, a2⟩ := arith m1 m2
        have hst : st = (st.take n).reverse.reverse ++ st.drop n := by rw [List.reverse_reverse, List.take_append_drop]
        refine xrun_call (as := (st.take n).reverse) hC (va_runSN (As := (st.take n).reverse) (rest := st.drop n) (nL := mm.2.2.1) (n := n) (own := xcn (xown mm)) (host := "TurnSlots") (Ts := xws0) (maxL := y0.2.2.1) (bytes := y0.2.1) (ret := y0.2.2.2.1) ⟨hC.hx, hC.hb, hC.hml, hC.hown, hC.hts⟩ hM ⟨⟨⟨c1, c2, c3, c4, c5, c6⟩, c7, c8, c9, c10, va_Nw.use rfl (hC.hO.2.2.2.2.2.2 _ w1)⟩, hC.hts _ w2, trivial⟩ ⟨xblind _ _ _, fun U hU hW => ⟨rfl, xpic_at hC hP hS hE hU hW⟩⟩ rfl (by rw [List.length_reverse, List.length_take]; omega) hl.2.1 hst (lv_room hct) hd (by rw [a1, a2]; exact hrm)) hS (fun H1 locs1 g1 g2 g3 => ?_)
        rw [a1, a2]
        exact kk H1 locs1 lsA g1 g2 g3 hl
      · cases h
      · exfalso
        unfold xgo at h
        repeat' (split at h)
        all_goals cases h
    · cases h
  case invokespecial x =>
    simp only [xdo] at h
    split at h
    · rename_i hk
      subst hk
      split at h
      · rename_i y0 n hf
        split at h
        · rename_i b rest0 hdr
          obtain ⟨rfl, rfl, rfl, hn, hct, hht, hln⟩ := xcall_eq h
          obtain ⟨hok, hpd, -, -, h0, -⟩ := xCt_ok _ (xassoc_mem hf)
          dsimp only at hok hpd h0
          obtain ⟨w1, w2, w3, w4⟩ := h0 rfl
          refine ⟨hok, hht, hln, fun {r} hM m1 m2 hrm kk H locs lsA hP hS hE hl => ?_⟩
          obtain ⟨⟨c1, c2, c3, c4, c5, c6⟩, c7, c8, c9, c10⟩ := xCB hC hok hpd hht (r.2.1.2.1 - S.2.1) (r.2.1.2.2 - S.2.2)
          obtain ⟨a1, a2⟩ := arith m1 m2
          rw [w4] at c6 c7
          have hst : st = (st.take n).reverse.reverse ++ .ref b :: rest0 := by rw [List.reverse_reverse, ← hdr, List.take_append_drop]
          refine xrun_call (as := .ref b :: (st.take n).reverse) hC (va_runI (As := (st.take n).reverse) (rest := rest0) (nL := mm.2.2.1) (n := n) (own := xcn (xown mm)) (Ts := xws0) (maxL := y0.2.2.1) (bytes := y0.2.1) ⟨hC.hx, hC.hb, hC.hml, hC.hown, hC.hts⟩ hM ⟨⟨c1, c2, c3, c4, c5, c6, c7, c8, c9, c10, hC.hts _ w1⟩, w3, hC.hts _ w2⟩ ⟨xblind _ _ _, fun U hU hW => ⟨rfl, xpic_at hC hP hS hE hU hW⟩⟩ rfl (by rw [List.length_reverse, List.length_take]; omega) hl.2.1 hst (lv_room hct) hd (by rw [a1, a2]; exact hrm)) hS (fun H1 locs1 g1 g2 g3 => ?_)
          rw [a1, a2]
          exact kk H1 locs1 lsA g1 g2 g3 hl
        · cases h
      · rename_i y0 n hf
        split at h
        · rename_i b rest0 hdr
          obtain ⟨rfl, rfl, rfl, hn, hct, hht, hln⟩ := xcall_eq h
          obtain ⟨hok, hpd, -, -, -, -, h0⟩ := xCt_ok _ (xassoc_mem hf)
          dsimp only at hok hpd h0
          obtain ⟨w1, w2, w3, w4⟩ := h0 rfl
          refine ⟨hok, hht, hln, fun {r} hM m1 m2 hrm kk H locs lsA hP hS hE hl => ?_⟩
          obtain ⟨⟨c1, c2, c3, c4, c5, c6⟩, c7, c8, c9, c10⟩ := xCB hC hok hpd hht (r.2.1.2.1 - S.2.1) (r.2.1.2.2 - S.2.2)
          obtain ⟨a1, a2⟩ := arith m1 m2
          rw [w4] at c6 c7
          have hst : st = (st.take n).reverse.reverse ++ .ref b :: rest0 := by rw [List.reverse_reverse, ← hdr, List.take_append_drop]
          refine xrun_call (as := .ref b :: (st.take n).reverse) hC (va_runIN (As := (st.take n).reverse) (rest := rest0) (nL := mm.2.2.1) (n := n) (own := xcn (xown mm)) (host := "TurnSlots") (Ts := xws0) (maxL := y0.2.2.1) (bytes := y0.2.1) ⟨hC.hx, hC.hb, hC.hml, hC.hown, hC.hts⟩ hM ⟨⟨⟨c1, c2, c3, c4, c5, c6⟩, c7, c8, c9, c10, va_Nw.use rfl (hC.hO.2.2.2.2.2.2 _ w1)⟩, w3, hC.hts _ w2⟩ ⟨xblind _ _ _, fun U hU hW => ⟨rfl, xpic_at hC hP hS hE hU hW⟩⟩ rfl (by rw [List.length_reverse, List.length_take]; omega) hl.2.1 hst (lv_room hct) hd (by rw [a1, a2]; exact hrm)) hS (fun H1 locs1 g1 g2 g3 => ?_)
          rw [a1, a2]
          exact kk H1 locs1 lsA g1 g2 g3 hl
        · cases h
      · cases h
      · exfalso
        unfold xgo at h
        repeat' (split at h)
        all_goals cases h
    · cases h
  all_goals (exfalso; simp only [xdo, xgo, xoff] at h; repeat' (split at h))
  all_goals cases h
/-- a method from any place: its run, given its calls and its return -/
theorem xrun_ok (hC : xCx cy D Bs E p R s m args meth c mm) {r : Option Value × xSh × xV}
    (hret : ∀ (pc : Nat) (ls : List (Option Value)) (st : List Value) (S : xSh) (V : xV) (v : Option Value), xstep E mm pc ls st S V = some (.inr (.inl v)) → (v, S, V) = r → xG cy D Bs p l e R s m args below meth c Q mm.2.2.1 T0 Z0 pc ls st S V)
    (hcall : ∀ (y : xM) (as : List Value) (S : xSh) (V : xV) (n : Nat) (r : Option Value × xSh × xV), xMok y → xht y < xht mm → (xargs as).length ≤ y.2.2.1 → xrun E n y 0 (xlocs y.2.2.1 as) [] S V = some r → xMet l cy D Bs E y as S V r)
    (hrm : r.2.1.2.1 - T0 ≤ R.cells ∧ r.2.1.2.2 - Z0 ≤ R.slots) : ∀ (n : Nat) (pc : Nat) (ls : List (Option Value)) (st : List Value) (S : xSh) (V : xV), xrun E n mm pc ls st S V = some r → T0 ≤ S.2.1 → Z0 ≤ S.2.2 → xG cy D Bs p l e R s m args below meth c Q mm.2.2.1 T0 Z0 pc ls st S V := by
  intro n
  induction n with
  | zero => intro pc ls st S V h; cases h
  | succ n ih =>
    intro pc ls st S V h hT hZ
    rw [xrun] at h
    cases hs : xstep E mm pc ls st S V with
    | none => rw [hs] at h; cases h
    | some q =>
      rw [hs] at h
      obtain ⟨pc', ls', st', S', V'⟩ | v | ⟨y, as, rest⟩ := q
      · have h1 := xstep_T hs
        have h2 := xrun_T n h
        dsimp only at h2
        exact xnext_ok hC hT hZ hs (by omega) (ih _ _ _ _ _ h (by omega) (by omega))
      · exact hret _ _ _ _ _ _ hs (Option.some.inj h)
      · dsimp only at h
        cases hc : xrun E n y 0 (xlocs y.2.2.1 as) [] S V with
        | none => rw [hc] at h; cases h
        | some r1 =>
          rw [hc] at h
          have h1 := xrun_T n hc
          have h2 := xrun_T n h
          obtain ⟨hok, hht, hln, k⟩ := xcall_ok (l := l) (e := e) (below := below) (Q := Q) hC hT hZ hs
          exact k (hcall y as S V n r1 hok hht hln hc) h1.1 h1.2 (by omega) (ih _ _ _ _ _ h (by omega) (by omega))
end XCL
/-- EVERY METHOD: what the pure machine computes of a call is a contract of the machine -/
theorem xsound (l : Launch) (cy : Nat → ClassId) (D : va_G) (Bs : Nat) (E : Nat × Nat × Nat) : ∀ (k : Nat) (y : xM), xht y < k → xMok y → ∀ (as : List Value) (S : xSh) (V : xV) (n : Nat) (r : Option Value × xSh × xV), (xargs as).length ≤ y.2.2.1 → xrun E n y 0 (xlocs y.2.2.1 as) [] S V = some r → xMet l cy D Bs E y as S V r := by
  intro k
  induction k with
  | zero => intro y h; omega
  | succ k ih =>
    intro y hk hok as S V n r hln hrun
    refine Met.ofW (cc := y.2.1) (maxL := y.2.2.1) (ret := y.2.2.2.1) hok.2.2.2.2.2 rfl ?_
    intro p e s m args below meth c s₁ B hml hv
    obtain ⟨rfl, hP, hK, hE, hO, hB⟩ := hv
    have hts0 := atoms_spec (ws := xwsOf y) B.pre
    have hown : s.vm.findClass (xcn (xown y)) = some m.cls := by rw [← hok.2.2.2.1]; exact findClass_of_methodNamed B.named
    have hC : xCx cy D Bs E p (headSpec (xwsOf y) (xrm (xht y) (r.2.1.2.1 - S.2.1) (r.2.1.2.2 - S.2.2))).room s m as.toArray meth c y :=
      ⟨B.exec, B.bytes, hml, hown, (name_of_methodNamed B.named B.method).1, fun w hw => hts0 w (List.mem_cons_of_mem _ hw), hK, hO, hB, Nat.le_refl _, Nat.le_refl _⟩
    have hr := B.returns
    have hlocks := B.notSynchronized
    rw [lg_entry_eq]
    have main := xrun_ok (l := l) (e := e) (below := below) (Q := MQ below (xQ cy D Bs E r) as.toArray s (r.2.1.2.1 - S.2.1) (r.2.1.2.2 - S.2.2) (xA Bs)) (T0 := S.2.1) (Z0 := S.2.2) hC (r := r) ?_ (fun y' as' S' V' n' r' hok' hht' hln' hrun' => ih y' (by omega) hok' as' S' V' n' r' hln' hrun') ⟨Nat.le_refl _, Nat.le_refl _⟩ n 0 (xlocs y.2.2.1 as) [] S V hrun (Nat.le_refl _) (Nat.le_refl _)
    · have k0 := main s.heap [] _ hP va_S.rf hE (xLo_entry as hln)
      rw [Nat.sub_self, Nat.sub_self] at k0
      exact k0
    · intro pc ls st S' V' v hs he
      subst he
      intro H locs lsA hP' hS' hE' hl'
      unfold xstep at hs
      cases hd : decode y.2.1 pc with
      | error x => rw [hd] at hs; cases hs
      | ok ik =>
      obtain ⟨i, kk⟩ := ik
      rw [hd] at hs
      dsimp only at hs
      cases i
      case ireturn =>
        simp only [xdo] at hs
        split at hs
        · rename_i hk1
          subst hk1
          split at hs
          · split at hs
            · rename_i ty hty
              split at hs
              · rename_i hn
                cases hs
                exact W.zret (ty := ty) hC.hx hC.hb (hr.trans hty) hn (fun t ht hW => ⟨rfl, xpic_at hC hP' hS' hE' ht hW, hS'.F ht⟩) hS'.2.2 hd hlocks
              · cases hs
            · cases hs
          · cases hs
        · cases hs
      case areturn =>
        simp only [xdo] at hs
        split at hs
        · rename_i hk1
          subst hk1
          split at hs
          · split at hs
            · rename_i o hty
              cases hs
              exact W.aret hC.hx hC.hb (hr.trans hty) (Or.inl ⟨_, rfl⟩) (Or.inr ⟨_, rfl⟩) (fun t ht hW => ⟨rfl, xpic_at hC hP' hS' hE' ht hW, hS'.F ht⟩) hS'.2.2 hd hlocks
            · rename_i o hty
              cases hs
              exact W.aret hC.hx hC.hb (hr.trans hty) (Or.inr ⟨_, rfl⟩) (Or.inr ⟨_, rfl⟩) (fun t ht hW => ⟨rfl, xpic_at hC hP' hS' hE' ht hW, hS'.F ht⟩) hS'.2.2 hd hlocks
            · cases hs
          · cases hs
        · cases hs
      case return_ =>
        simp only [xdo] at hs
        split at hs
        · rename_i hk1
          subst hk1
          split at hs
          · split at hs
            · rename_i hty
              cases hs
              exact W.vret hC.hx hC.hb (hr.trans hty) (fun t ht hW => ⟨rfl, xpic_at hC hP' hS' hE' ht hW, hS'.F ht⟩) hS'.2.2 hd hlocks
            · cases hs
          · cases hs
        · cases hs
      all_goals (exfalso; simp only [xdo, xgo, xoff, xcall] at hs; repeat' (split at hs))
      all_goals cases hs
end
