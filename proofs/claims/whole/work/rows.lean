section
-- ===== PART A: goes FIRST, ahead of the names: the tables' words, and 'selects' of the private methods out of them =====
/-- a private method of a class that the tables say can be made, by its rows of tables_1 -/
def lw_okq (q : MethodName × Nat) : Prop := (q.1.cls ≠ "java/lang/invoke/MethodHandle" ∧ q.1.cls ≠ "java/lang/invoke/VarHandle") ∧ Cond.instantiable q.1.cls q.2 ∈ tables_1 ∧ Cond.privateMethod q.1 ∈ tables_1 ∧ Cond.instanceMethod q.1 ∈ tables_1
theorem lw_p0 : lw_okq (⟨"TurnSlots$Pad", "digitHere", "()I"⟩, 7) := ⟨⟨by decide +kernel, by decide +kernel⟩, List.mem_of_getElem? (i := 136) (by decide +kernel), List.mem_of_getElem? (i := 232) (by decide +kernel), List.mem_of_getElem? (i := 233) (by decide +kernel)⟩
theorem lw_p1 : lw_okq (⟨"TurnSlots$Pad", "characterAt", "(I)C"⟩, 7) := ⟨⟨by decide +kernel, by decide +kernel⟩, List.mem_of_getElem? (i := 136) (by decide +kernel), List.mem_of_getElem? (i := 236) (by decide +kernel), List.mem_of_getElem? (i := 237) (by decide +kernel)⟩
theorem lw_p2 : lw_okq (⟨"TurnSlots$Pad", "takeCharacter", "(C)Z"⟩, 7) := ⟨⟨by decide +kernel, by decide +kernel⟩, List.mem_of_getElem? (i := 136) (by decide +kernel), List.mem_of_getElem? (i := 240) (by decide +kernel), List.mem_of_getElem? (i := 241) (by decide +kernel)⟩
theorem lw_p3 : lw_okq (⟨"TurnSlots$Pad", "takeCommand", "()Z"⟩, 7) := ⟨⟨by decide +kernel, by decide +kernel⟩, List.mem_of_getElem? (i := 136) (by decide +kernel), List.mem_of_getElem? (i := 244) (by decide +kernel), List.mem_of_getElem? (i := 245) (by decide +kernel)⟩
theorem lw_p4 : lw_okq (⟨"TurnSlots$Pad", "takeNumber", "(II)Z"⟩, 7) := ⟨⟨by decide +kernel, by decide +kernel⟩, List.mem_of_getElem? (i := 136) (by decide +kernel), List.mem_of_getElem? (i := 337) (by decide +kernel), List.mem_of_getElem? (i := 338) (by decide +kernel)⟩
theorem lw_p5 : lw_okq (⟨"TurnSlots$Machine", "runnerInSlotOf", "(I)I"⟩, 6) := ⟨⟨by decide +kernel, by decide +kernel⟩, List.mem_of_getElem? (i := 24) (by decide +kernel), List.mem_of_getElem? (i := 386) (by decide +kernel), List.mem_of_getElem? (i := 387) (by decide +kernel)⟩
theorem lw_p6 : lw_okq (⟨"TurnSlots$Machine", "sendersTo", "(I)I"⟩, 6) := ⟨⟨by decide +kernel, by decide +kernel⟩, List.mem_of_getElem? (i := 24) (by decide +kernel), List.mem_of_getElem? (i := 409) (by decide +kernel), List.mem_of_getElem? (i := 410) (by decide +kernel)⟩
theorem lw_p7 : lw_okq (⟨"TurnSlots$Machine", "account", "(II)V"⟩, 6) := ⟨⟨by decide +kernel, by decide +kernel⟩, List.mem_of_getElem? (i := 24) (by decide +kernel), List.mem_of_getElem? (i := 417) (by decide +kernel), List.mem_of_getElem? (i := 418) (by decide +kernel)⟩
theorem lw_p8 : lw_okq (⟨"TurnSlots$Machine", "runNextOf", "(I)V"⟩, 6) := ⟨⟨by decide +kernel, by decide +kernel⟩, List.mem_of_getElem? (i := 24) (by decide +kernel), List.mem_of_getElem? (i := 421) (by decide +kernel), List.mem_of_getElem? (i := 422) (by decide +kernel)⟩
theorem lw_p9 : lw_okq (⟨"TurnSlots$Machine", "freeIfHeldBy", "(II)V"⟩, 6) := ⟨⟨by decide +kernel, by decide +kernel⟩, List.mem_of_getElem? (i := 24) (by decide +kernel), List.mem_of_getElem? (i := 441) (by decide +kernel), List.mem_of_getElem? (i := 442) (by decide +kernel)⟩
theorem lw_p10 : lw_okq (⟨"TurnSlots", "tryNow", "()LTurnSlots$Machine;"⟩, 6) := ⟨⟨by decide +kernel, by decide +kernel⟩, List.mem_of_getElem? (i := 16) (by decide +kernel), List.mem_of_getElem? (i := 499) (by decide +kernel), List.mem_of_getElem? (i := 500) (by decide +kernel)⟩
theorem lw_p11 : lw_okq (⟨"TurnSlotsModel", "get", "(II)I"⟩, 16) := ⟨⟨by decide +kernel, by decide +kernel⟩, List.mem_of_getElem? (i := 557) (by decide +kernel), List.mem_of_getElem? (i := 625) (by decide +kernel), List.mem_of_getElem? (i := 626) (by decide +kernel)⟩
theorem lw_p12 : lw_okq (⟨"TurnSlotsModel", "records", "()V"⟩, 16) := ⟨⟨by decide +kernel, by decide +kernel⟩, List.mem_of_getElem? (i := 557) (by decide +kernel), List.mem_of_getElem? (i := 629) (by decide +kernel), List.mem_of_getElem? (i := 630) (by decide +kernel)⟩
theorem lw_p13 : lw_okq (⟨"TurnSlotsModel", "adds", "(III)V"⟩, 16) := ⟨⟨by decide +kernel, by decide +kernel⟩, List.mem_of_getElem? (i := 557) (by decide +kernel), List.mem_of_getElem? (i := 633) (by decide +kernel), List.mem_of_getElem? (i := 634) (by decide +kernel)⟩
theorem lw_p14 : lw_okq (⟨"TurnSlotsModel", "lay", "(III)V"⟩, 16) := ⟨⟨by decide +kernel, by decide +kernel⟩, List.mem_of_getElem? (i := 557) (by decide +kernel), List.mem_of_getElem? (i := 637) (by decide +kernel), List.mem_of_getElem? (i := 638) (by decide +kernel)⟩
theorem lw_p15 : lw_okq (⟨"TurnSlotsModel", "receives", "(II)V"⟩, 16) := ⟨⟨by decide +kernel, by decide +kernel⟩, List.mem_of_getElem? (i := 557) (by decide +kernel), List.mem_of_getElem? (i := 649) (by decide +kernel), List.mem_of_getElem? (i := 650) (by decide +kernel)⟩
def lw_privs_1 : List (MethodName × Nat) := [(⟨"TurnSlots$Pad", "digitHere", "()I"⟩, 7), (⟨"TurnSlots$Pad", "characterAt", "(I)C"⟩, 7), (⟨"TurnSlots$Pad", "takeCharacter", "(C)Z"⟩, 7), (⟨"TurnSlots$Pad", "takeCommand", "()Z"⟩, 7), (⟨"TurnSlots$Pad", "takeNumber", "(II)Z"⟩, 7), (⟨"TurnSlots$Machine", "runnerInSlotOf", "(I)I"⟩, 6), (⟨"TurnSlots$Machine", "sendersTo", "(I)I"⟩, 6), (⟨"TurnSlots$Machine", "account", "(II)V"⟩, 6), (⟨"TurnSlots$Machine", "runNextOf", "(I)V"⟩, 6), (⟨"TurnSlots$Machine", "freeIfHeldBy", "(II)V"⟩, 6), (⟨"TurnSlots", "tryNow", "()LTurnSlots$Machine;"⟩, 6), (⟨"TurnSlotsModel", "get", "(II)I"⟩, 16), (⟨"TurnSlotsModel", "records", "()V"⟩, 16), (⟨"TurnSlotsModel", "adds", "(III)V"⟩, 16), (⟨"TurnSlotsModel", "lay", "(III)V"⟩, 16), (⟨"TurnSlotsModel", "receives", "(II)V"⟩, 16)]
theorem lw_r1 : ∀ q ∈ lw_privs_1, lw_okq q := List.forall_mem_cons.mpr ⟨lw_p0, List.forall_mem_cons.mpr ⟨lw_p1, List.forall_mem_cons.mpr ⟨lw_p2, List.forall_mem_cons.mpr ⟨lw_p3, List.forall_mem_cons.mpr ⟨lw_p4, List.forall_mem_cons.mpr ⟨lw_p5, List.forall_mem_cons.mpr ⟨lw_p6, List.forall_mem_cons.mpr ⟨lw_p7, List.forall_mem_cons.mpr ⟨lw_p8, List.forall_mem_cons.mpr ⟨lw_p9, List.forall_mem_cons.mpr ⟨lw_p10, List.forall_mem_cons.mpr ⟨lw_p11, List.forall_mem_cons.mpr ⟨lw_p12, List.forall_mem_cons.mpr ⟨lw_p13, List.forall_mem_cons.mpr ⟨lw_p14, List.forall_mem_cons.mpr ⟨lw_p15, fun _ h => absurd h List.not_mem_nil⟩⟩⟩⟩⟩⟩⟩⟩⟩⟩⟩⟩⟩⟩⟩⟩
theorem lw_p16 : lw_okq (⟨"TurnSlotsModel", "slot", "()I"⟩, 16) := ⟨⟨by decide +kernel, by decide +kernel⟩, List.mem_of_getElem? (i := 557) (by decide +kernel), List.mem_of_getElem? (i := 662) (by decide +kernel), List.mem_of_getElem? (i := 663) (by decide +kernel)⟩
theorem lw_p17 : lw_okq (⟨"TurnSlotsModel", "wakes", "()V"⟩, 16) := ⟨⟨by decide +kernel, by decide +kernel⟩, List.mem_of_getElem? (i := 557) (by decide +kernel), List.mem_of_getElem? (i := 666) (by decide +kernel), List.mem_of_getElem? (i := 667) (by decide +kernel)⟩
theorem lw_p18 : lw_okq (⟨"TurnSlotsModel", "runner", "(I)I"⟩, 16) := ⟨⟨by decide +kernel, by decide +kernel⟩, List.mem_of_getElem? (i := 557) (by decide +kernel), List.mem_of_getElem? (i := 670) (by decide +kernel), List.mem_of_getElem? (i := 671) (by decide +kernel)⟩
theorem lw_p19 : lw_okq (⟨"TurnSlotsModel", "stateOf", "(I)I"⟩, 16) := ⟨⟨by decide +kernel, by decide +kernel⟩, List.mem_of_getElem? (i := 557) (by decide +kernel), List.mem_of_getElem? (i := 674) (by decide +kernel), List.mem_of_getElem? (i := 675) (by decide +kernel)⟩
theorem lw_p20 : lw_okq (⟨"TurnSlotsModel", "isDone", "(I)Z"⟩, 16) := ⟨⟨by decide +kernel, by decide +kernel⟩, List.mem_of_getElem? (i := 557) (by decide +kernel), List.mem_of_getElem? (i := 678) (by decide +kernel), List.mem_of_getElem? (i := 679) (by decide +kernel)⟩
theorem lw_p21 : lw_okq (⟨"TurnSlotsModel", "commandOf", "(II)I"⟩, 16) := ⟨⟨by decide +kernel, by decide +kernel⟩, List.mem_of_getElem? (i := 557) (by decide +kernel), List.mem_of_getElem? (i := 682) (by decide +kernel), List.mem_of_getElem? (i := 683) (by decide +kernel)⟩
theorem lw_p22 : lw_okq (⟨"TurnSlotsModel", "argumentOf", "(II)I"⟩, 16) := ⟨⟨by decide +kernel, by decide +kernel⟩, List.mem_of_getElem? (i := 557) (by decide +kernel), List.mem_of_getElem? (i := 686) (by decide +kernel), List.mem_of_getElem? (i := 687) (by decide +kernel)⟩
theorem lw_p23 : lw_okq (⟨"TurnSlotsModel", "laysWaits", "()V"⟩, 16) := ⟨⟨by decide +kernel, by decide +kernel⟩, List.mem_of_getElem? (i := 557) (by decide +kernel), List.mem_of_getElem? (i := 690) (by decide +kernel), List.mem_of_getElem? (i := 691) (by decide +kernel)⟩
theorem lw_p24 : lw_okq (⟨"TurnSlotsModel", "waitsFor", "(I)I"⟩, 16) := ⟨⟨by decide +kernel, by decide +kernel⟩, List.mem_of_getElem? (i := 557) (by decide +kernel), List.mem_of_getElem? (i := 694) (by decide +kernel), List.mem_of_getElem? (i := 695) (by decide +kernel)⟩
theorem lw_p25 : lw_okq (⟨"TurnSlotsModel", "sendsTo", "(II)Z"⟩, 16) := ⟨⟨by decide +kernel, by decide +kernel⟩, List.mem_of_getElem? (i := 557) (by decide +kernel), List.mem_of_getElem? (i := 698) (by decide +kernel), List.mem_of_getElem? (i := 699) (by decide +kernel)⟩
theorem lw_p26 : lw_okq (⟨"TurnSlotsModel", "lent", "(I)I"⟩, 16) := ⟨⟨by decide +kernel, by decide +kernel⟩, List.mem_of_getElem? (i := 557) (by decide +kernel), List.mem_of_getElem? (i := 702) (by decide +kernel), List.mem_of_getElem? (i := 703) (by decide +kernel)⟩
theorem lw_p27 : lw_okq (⟨"TurnSlotsModel", "runs", "(I)V"⟩, 16) := ⟨⟨by decide +kernel, by decide +kernel⟩, List.mem_of_getElem? (i := 557) (by decide +kernel), List.mem_of_getElem? (i := 706) (by decide +kernel), List.mem_of_getElem? (i := 707) (by decide +kernel)⟩
theorem lw_p28 : lw_okq (⟨"TurnSlotsModel", "goesBack", "(II)V"⟩, 16) := ⟨⟨by decide +kernel, by decide +kernel⟩, List.mem_of_getElem? (i := 557) (by decide +kernel), List.mem_of_getElem? (i := 710) (by decide +kernel), List.mem_of_getElem? (i := 711) (by decide +kernel)⟩
theorem lw_p29 : lw_okq (⟨"TurnSlotsModel", "takes", "(I)V"⟩, 16) := ⟨⟨by decide +kernel, by decide +kernel⟩, List.mem_of_getElem? (i := 557) (by decide +kernel), List.mem_of_getElem? (i := 714) (by decide +kernel), List.mem_of_getElem? (i := 715) (by decide +kernel)⟩
theorem lw_p30 : lw_okq (⟨"TurnSlotsModel", "inState", "(I)I"⟩, 16) := ⟨⟨by decide +kernel, by decide +kernel⟩, List.mem_of_getElem? (i := 557) (by decide +kernel), List.mem_of_getElem? (i := 723) (by decide +kernel), List.mem_of_getElem? (i := 724) (by decide +kernel)⟩
theorem lw_p31 : lw_okq (⟨"TurnSlotsModel", "isStuck", "()Z"⟩, 16) := ⟨⟨by decide +kernel, by decide +kernel⟩, List.mem_of_getElem? (i := 557) (by decide +kernel), List.mem_of_getElem? (i := 727) (by decide +kernel), List.mem_of_getElem? (i := 728) (by decide +kernel)⟩
def lw_privs_2 : List (MethodName × Nat) := [(⟨"TurnSlotsModel", "slot", "()I"⟩, 16), (⟨"TurnSlotsModel", "wakes", "()V"⟩, 16), (⟨"TurnSlotsModel", "runner", "(I)I"⟩, 16), (⟨"TurnSlotsModel", "stateOf", "(I)I"⟩, 16), (⟨"TurnSlotsModel", "isDone", "(I)Z"⟩, 16), (⟨"TurnSlotsModel", "commandOf", "(II)I"⟩, 16), (⟨"TurnSlotsModel", "argumentOf", "(II)I"⟩, 16), (⟨"TurnSlotsModel", "laysWaits", "()V"⟩, 16), (⟨"TurnSlotsModel", "waitsFor", "(I)I"⟩, 16), (⟨"TurnSlotsModel", "sendsTo", "(II)Z"⟩, 16), (⟨"TurnSlotsModel", "lent", "(I)I"⟩, 16), (⟨"TurnSlotsModel", "runs", "(I)V"⟩, 16), (⟨"TurnSlotsModel", "goesBack", "(II)V"⟩, 16), (⟨"TurnSlotsModel", "takes", "(I)V"⟩, 16), (⟨"TurnSlotsModel", "inState", "(I)I"⟩, 16), (⟨"TurnSlotsModel", "isStuck", "()Z"⟩, 16)]
theorem lw_r2 : ∀ q ∈ lw_privs_2, lw_okq q := List.forall_mem_cons.mpr ⟨lw_p16, List.forall_mem_cons.mpr ⟨lw_p17, List.forall_mem_cons.mpr ⟨lw_p18, List.forall_mem_cons.mpr ⟨lw_p19, List.forall_mem_cons.mpr ⟨lw_p20, List.forall_mem_cons.mpr ⟨lw_p21, List.forall_mem_cons.mpr ⟨lw_p22, List.forall_mem_cons.mpr ⟨lw_p23, List.forall_mem_cons.mpr ⟨lw_p24, List.forall_mem_cons.mpr ⟨lw_p25, List.forall_mem_cons.mpr ⟨lw_p26, List.forall_mem_cons.mpr ⟨lw_p27, List.forall_mem_cons.mpr ⟨lw_p28, List.forall_mem_cons.mpr ⟨lw_p29, List.forall_mem_cons.mpr ⟨lw_p30, List.forall_mem_cons.mpr ⟨lw_p31, fun _ h => absurd h List.not_mem_nil⟩⟩⟩⟩⟩⟩⟩⟩⟩⟩⟩⟩⟩⟩⟩⟩
theorem lw_p32 : lw_okq (⟨"TurnSlotsModel", "rings", "()I"⟩, 16) := ⟨⟨by decide +kernel, by decide +kernel⟩, List.mem_of_getElem? (i := 557) (by decide +kernel), List.mem_of_getElem? (i := 754) (by decide +kernel), List.mem_of_getElem? (i := 755) (by decide +kernel)⟩
theorem lw_p33 : lw_okq (⟨"TurnSlotsModel", "sumOver", "(I)I"⟩, 16) := ⟨⟨by decide +kernel, by decide +kernel⟩, List.mem_of_getElem? (i := 557) (by decide +kernel), List.mem_of_getElem? (i := 758) (by decide +kernel), List.mem_of_getElem? (i := 759) (by decide +kernel)⟩
theorem lw_p34 : lw_okq (⟨"TurnSlotsModel", "next", "()I"⟩, 16) := ⟨⟨by decide +kernel, by decide +kernel⟩, List.mem_of_getElem? (i := 557) (by decide +kernel), List.mem_of_getElem? (i := 762) (by decide +kernel), List.mem_of_getElem? (i := 763) (by decide +kernel)⟩
theorem lw_p35 : lw_okq (⟨"TurnSlotsModel", "putAside", "()V"⟩, 16) := ⟨⟨by decide +kernel, by decide +kernel⟩, List.mem_of_getElem? (i := 557) (by decide +kernel), List.mem_of_getElem? (i := 766) (by decide +kernel), List.mem_of_getElem? (i := 767) (by decide +kernel)⟩
theorem lw_p36 : lw_okq (⟨"TurnSlotsModel", "takeBack", "()V"⟩, 16) := ⟨⟨by decide +kernel, by decide +kernel⟩, List.mem_of_getElem? (i := 557) (by decide +kernel), List.mem_of_getElem? (i := 770) (by decide +kernel), List.mem_of_getElem? (i := 771) (by decide +kernel)⟩
theorem lw_p37 : lw_okq (⟨"TurnSlotsModel", "until", "(I)I"⟩, 16) := ⟨⟨by decide +kernel, by decide +kernel⟩, List.mem_of_getElem? (i := 557) (by decide +kernel), List.mem_of_getElem? (i := 778) (by decide +kernel), List.mem_of_getElem? (i := 779) (by decide +kernel)⟩
theorem lw_p38 : lw_okq (⟨"TurnSlotsModel", "reads", "()I"⟩, 16) := ⟨⟨by decide +kernel, by decide +kernel⟩, List.mem_of_getElem? (i := 557) (by decide +kernel), List.mem_of_getElem? (i := 803) (by decide +kernel), List.mem_of_getElem? (i := 804) (by decide +kernel)⟩
theorem lw_p39 : lw_okq (⟨"TurnSlotsModel", "takesSign", "(II)I"⟩, 16) := ⟨⟨by decide +kernel, by decide +kernel⟩, List.mem_of_getElem? (i := 557) (by decide +kernel), List.mem_of_getElem? (i := 807) (by decide +kernel), List.mem_of_getElem? (i := 808) (by decide +kernel)⟩
theorem lw_p40 : lw_okq (⟨"TurnSlotsModel", "sign", "()I"⟩, 16) := ⟨⟨by decide +kernel, by decide +kernel⟩, List.mem_of_getElem? (i := 557) (by decide +kernel), List.mem_of_getElem? (i := 811) (by decide +kernel), List.mem_of_getElem? (i := 812) (by decide +kernel)⟩
theorem lw_p41 : lw_okq (⟨"TurnSlotsModel", "readsCommand", "()V"⟩, 16) := ⟨⟨by decide +kernel, by decide +kernel⟩, List.mem_of_getElem? (i := 557) (by decide +kernel), List.mem_of_getElem? (i := 815) (by decide +kernel), List.mem_of_getElem? (i := 816) (by decide +kernel)⟩
theorem lw_p42 : lw_okq (⟨"TurnSlotsModel", "number", "()I"⟩, 16) := ⟨⟨by decide +kernel, by decide +kernel⟩, List.mem_of_getElem? (i := 557) (by decide +kernel), List.mem_of_getElem? (i := 822) (by decide +kernel), List.mem_of_getElem? (i := 823) (by decide +kernel)⟩
theorem lw_p43 : lw_okq (⟨"TurnSlotsModel", "numberOfBack", "()I"⟩, 16) := ⟨⟨by decide +kernel, by decide +kernel⟩, List.mem_of_getElem? (i := 557) (by decide +kernel), List.mem_of_getElem? (i := 826) (by decide +kernel), List.mem_of_getElem? (i := 827) (by decide +kernel)⟩
def lw_privs_3 : List (MethodName × Nat) := [(⟨"TurnSlotsModel", "rings", "()I"⟩, 16), (⟨"TurnSlotsModel", "sumOver", "(I)I"⟩, 16), (⟨"TurnSlotsModel", "next", "()I"⟩, 16), (⟨"TurnSlotsModel", "putAside", "()V"⟩, 16), (⟨"TurnSlotsModel", "takeBack", "()V"⟩, 16), (⟨"TurnSlotsModel", "until", "(I)I"⟩, 16), (⟨"TurnSlotsModel", "reads", "()I"⟩, 16), (⟨"TurnSlotsModel", "takesSign", "(II)I"⟩, 16), (⟨"TurnSlotsModel", "sign", "()I"⟩, 16), (⟨"TurnSlotsModel", "readsCommand", "()V"⟩, 16), (⟨"TurnSlotsModel", "number", "()I"⟩, 16), (⟨"TurnSlotsModel", "numberOfBack", "()I"⟩, 16)]
theorem lw_r3 : ∀ q ∈ lw_privs_3, lw_okq q := List.forall_mem_cons.mpr ⟨lw_p32, List.forall_mem_cons.mpr ⟨lw_p33, List.forall_mem_cons.mpr ⟨lw_p34, List.forall_mem_cons.mpr ⟨lw_p35, List.forall_mem_cons.mpr ⟨lw_p36, List.forall_mem_cons.mpr ⟨lw_p37, List.forall_mem_cons.mpr ⟨lw_p38, List.forall_mem_cons.mpr ⟨lw_p39, List.forall_mem_cons.mpr ⟨lw_p40, List.forall_mem_cons.mpr ⟨lw_p41, List.forall_mem_cons.mpr ⟨lw_p42, List.forall_mem_cons.mpr ⟨lw_p43, fun _ h => absurd h List.not_mem_nil⟩⟩⟩⟩⟩⟩⟩⟩⟩⟩⟩⟩
def lw_privs : List (MethodName × Nat) := lw_privs_1 ++ (lw_privs_2 ++ (lw_privs_3))
def lw_tbl : List Cond := k2_sels lw_privs ++ tables_1
theorem lw_privs_ok : ∀ q ∈ lw_privs, lw_okq q := by
  show ∀ q ∈ lw_privs_1 ++ (lw_privs_2 ++ (lw_privs_3)), lw_okq q
  exact List.forall_mem_append.mpr ⟨lw_r1, List.forall_mem_append.mpr ⟨lw_r2, lw_r3⟩⟩
end
section
def RX0 : String := "TurnSlots$Context"
def TX0 : u_T := fun k => match k with
  | 0 => ("TurnSlots$Context", "kinds", "[I", true)
  | 1 => ("TurnSlots$Context", "numbers", "[I", true)
  | 2 => ("TurnSlots$Context", "messages", "[I", true)
  | 3 => ("TurnSlots$Context", "accounts", "[I", true)
  | 4 => ("TurnSlots$Context", "commands", "I", false)
  | 5 => ("TurnSlots$Context", "marks", "I", false)
  | 6 => ("TurnSlots$Context", "place", "I", false)
  | 7 => ("TurnSlots$Context", "sum", "I", false)
  | 8 => ("TurnSlots$Context", "priority", "I", false)
  | 9 => ("TurnSlots$Context", "received", "I", false)
  | _ => ("TurnSlots$Context", "sleep", "I", false)
def tyX0 : Nat → FieldType := fun k => match k with
  | 0 => .array .int
  | 1 => .array .int
  | 2 => .array .int
  | 3 => .array .int
  | 4 => .int
  | 5 => .int
  | 6 => .int
  | 7 => .int
  | 8 => .int
  | 9 => .int
  | _ => .int
theorem nmX0 : ∀ a, a < 11 → ∀ b, b < 11 → a ≠ b → (TX0 a).2.1 ≠ (TX0 b).2.1 := by decide +kernel
theorem tyX0_ok : ∀ k, k < 11 → parseFieldDescriptor (TX0 k).2.2.1 = some (tyX0 k) := by decide +kernel
abbrev cX0_init : ByteArray := prog_2_method_1_code
def yX0_init : MethodName := ⟨RX0, "<init>", "()V"⟩
abbrev cX0_copyFrom : ByteArray := prog_2_method_2_code
def yX0_copyFrom : MethodName := ⟨RX0, "copyFrom", "(LTurnSlots$Context;)V"⟩
abbrev cX0_append : ByteArray := prog_2_method_3_code
def yX0_append : MethodName := ⟨RX0, "append", "(II)V"⟩
abbrev cX0_load : ByteArray := prog_2_method_4_code
def yX0_load : MethodName := ⟨RX0, "load", "(LTurnSlots$Pad;)V"⟩
abbrev cX0_receive : ByteArray := prog_2_method_5_code
def yX0_receive : MethodName := ⟨RX0, "receive", "(I)V"⟩
abbrev cX0_takeMessage : ByteArray := prog_2_method_6_code
def yX0_takeMessage : MethodName := ⟨RX0, "takeMessage", "()V"⟩
abbrev cX0_addToSum : ByteArray := prog_2_method_7_code
def yX0_addToSum : MethodName := ⟨RX0, "addToSum", "(I)V"⟩
abbrev cX0_goBack : ByteArray := prog_2_method_8_code
def yX0_goBack : MethodName := ⟨RX0, "goBack", "(I)V"⟩
def RX1 : String := "TurnSlots$History"
def TX1 : u_T := fun k => match k with
  | 0 => ("TurnSlots$History", "states", "[LTurnSlots$Machine;", true)
  | 1 => ("TurnSlots$History", "oldest", "I", false)
  | _ => ("TurnSlots$History", "size", "I", false)
def tyX1 : Nat → FieldType := fun k => match k with
  | 0 => .array (.object "TurnSlots$Machine")
  | 1 => .int
  | _ => .int
theorem nmX1 : ∀ a, a < 3 → ∀ b, b < 3 → a ≠ b → (TX1 a).2.1 ≠ (TX1 b).2.1 := by decide +kernel
theorem tyX1_ok : ∀ k, k < 3 → parseFieldDescriptor (TX1 k).2.2.1 = some (tyX1 k) := by decide +kernel
abbrev cX1_init : ByteArray := prog_3_method_1_code
def yX1_init : MethodName := ⟨RX1, "<init>", "()V"⟩
abbrev cX1_record : ByteArray := prog_3_method_2_code
def yX1_record : MethodName := ⟨RX1, "record", "(LTurnSlots$Machine;)V"⟩
abbrev cX1_takeBack : ByteArray := prog_3_method_3_code
def yX1_takeBack : MethodName := ⟨RX1, "takeBack", "(LTurnSlots$Machine;)V"⟩
def RX2 : String := "TurnSlots$Machine"
def TX2 : u_T := fun k => match k with
  | 0 => ("TurnSlots$Machine", "contexts", "[LTurnSlots$Context;", true)
  | 1 => ("TurnSlots$Machine", "holders", "[I", true)
  | 2 => ("TurnSlots$Machine", "allWaits", "[I", true)
  | 3 => ("TurnSlots$Machine", "passed", "I", false)
  | 4 => ("TurnSlots$Machine", "idled", "I", false)
  | _ => ("TurnSlots$Machine", "givenAway", "I", false)
def tyX2 : Nat → FieldType := fun k => match k with
  | 0 => .array (.object "TurnSlots$Context")
  | 1 => .array .int
  | 2 => .array .int
  | 3 => .int
  | 4 => .int
  | _ => .int
theorem nmX2 : ∀ a, a < 6 → ∀ b, b < 6 → a ≠ b → (TX2 a).2.1 ≠ (TX2 b).2.1 := by decide +kernel
theorem tyX2_ok : ∀ k, k < 6 → parseFieldDescriptor (TX2 k).2.2.1 = some (tyX2 k) := by decide +kernel
abbrev cX2_init : ByteArray := prog_4_method_1_code
def yX2_init : MethodName := ⟨RX2, "<init>", "()V"⟩
abbrev cX2_copyFrom : ByteArray := prog_4_method_2_code
def yX2_copyFrom : MethodName := ⟨RX2, "copyFrom", "(LTurnSlots$Machine;)V"⟩
abbrev cX2_stateOf : ByteArray := prog_4_method_3_code
def yX2_stateOf : MethodName := ⟨RX2, "stateOf", "(I)I"⟩
abbrev cX2_setIn : ByteArray := prog_4_method_4_code
def yX2_setIn : MethodName := ⟨RX2, "setIn", "(I)I"⟩
abbrev cX2_areDone : ByteArray := prog_4_method_5_code
def yX2_areDone : MethodName := ⟨RX2, "areDone", "(I)Z"⟩
abbrev cX2_isStuck : ByteArray := prog_4_method_6_code
def yX2_isStuck : MethodName := ⟨RX2, "isStuck", "()Z"⟩
abbrev cX2_waitsOf : ByteArray := prog_4_method_7_code
def yX2_waitsOf : MethodName := ⟨RX2, "waitsOf", "(I)I"⟩
abbrev cX2_sendersTo : ByteArray := prog_4_method_8_code
def yX2_sendersTo : MethodName := ⟨RX2, "sendersTo", "(I)I"⟩
abbrev cX2_findAllWaits : ByteArray := prog_4_method_9_code
def yX2_findAllWaits : MethodName := ⟨RX2, "findAllWaits", "()[I"⟩
abbrev cX2_lentPriority : ByteArray := prog_4_method_10_code
def yX2_lentPriority : MethodName := ⟨RX2, "lentPriority", "(I[I)I"⟩
abbrev cX2_ringSet : ByteArray := prog_4_method_11_code
def yX2_ringSet : MethodName := ⟨RX2, "ringSet", "()I"⟩
abbrev cX2_passSlots : ByteArray := prog_4_method_12_code
def yX2_passSlots : MethodName := ⟨RX2, "passSlots", "(I)I"⟩
abbrev cX2_passUntilDone : ByteArray := prog_4_method_13_code
def yX2_passUntilDone : MethodName := ⟨RX2, "passUntilDone", "(I)I"⟩
abbrev cX2_passSlot : ByteArray := prog_4_method_14_code
def yX2_passSlot : MethodName := ⟨RX2, "passSlot", "()I"⟩
abbrev cX2_runnerInSlotOf : ByteArray := prog_4_method_15_code
def yX2_runnerInSlotOf : MethodName := ⟨RX2, "runnerInSlotOf", "(I)I"⟩
abbrev cX2_account : ByteArray := prog_4_method_16_code
def yX2_account : MethodName := ⟨RX2, "account", "(II)V"⟩
abbrev cX2_runNextOf : ByteArray := prog_4_method_17_code
def yX2_runNextOf : MethodName := ⟨RX2, "runNextOf", "(I)V"⟩
abbrev cX2_freeIfHeldBy : ByteArray := prog_4_method_18_code
def yX2_freeIfHeldBy : MethodName := ⟨RX2, "freeIfHeldBy", "(II)V"⟩
def RX3 : String := "TurnSlots$Pad"
def TX3 : u_T := fun k => match k with
  | 0 => ("TurnSlots$Pad", "characters", "[C", true)
  | 1 => ("TurnSlots$Pad", "length", "I", false)
  | 2 => ("TurnSlots$Pad", "kinds", "[I", true)
  | 3 => ("TurnSlots$Pad", "numbers", "[I", true)
  | 4 => ("TurnSlots$Pad", "context", "I", false)
  | 5 => ("TurnSlots$Pad", "commands", "I", false)
  | _ => ("TurnSlots$Pad", "at", "I", false)
def tyX3 : Nat → FieldType := fun k => match k with
  | 0 => .array .char
  | 1 => .int
  | 2 => .array .int
  | 3 => .array .int
  | 4 => .int
  | 5 => .int
  | _ => .int
theorem nmX3 : ∀ a, a < 7 → ∀ b, b < 7 → a ≠ b → (TX3 a).2.1 ≠ (TX3 b).2.1 := by decide +kernel
theorem tyX3_ok : ∀ k, k < 7 → parseFieldDescriptor (TX3 k).2.2.1 = some (tyX3 k) := by decide +kernel
abbrev cX3_init : ByteArray := prog_5_method_1_code
def yX3_init : MethodName := ⟨RX3, "<init>", "()V"⟩
abbrev cX3_charactersIn : ByteArray := prog_5_method_2_code
def yX3_charactersIn : MethodName := ⟨RX3, "charactersIn", "(J)I"⟩
abbrev cX3_append : ByteArray := prog_5_method_3_code
def yX3_append : MethodName := ⟨RX3, "append", "(JI)V"⟩
abbrev cX3_characterAt : ByteArray := prog_5_method_4_code
def yX3_characterAt : MethodName := ⟨RX3, "characterAt", "(I)C"⟩
abbrev cX3_findFault : ByteArray := prog_5_method_5_code
def yX3_findFault : MethodName := ⟨RX3, "findFault", "()I"⟩
abbrev cX3_takeCharacter : ByteArray := prog_5_method_6_code
def yX3_takeCharacter : MethodName := ⟨RX3, "takeCharacter", "(C)Z"⟩
abbrev cX3_takeCommand : ByteArray := prog_5_method_7_code
def yX3_takeCommand : MethodName := ⟨RX3, "takeCommand", "()Z"⟩
abbrev cX3_takeNumber : ByteArray := prog_5_method_8_code
def yX3_takeNumber : MethodName := ⟨RX3, "takeNumber", "(II)Z"⟩
abbrev cX3_digitHere : ByteArray := prog_5_method_9_code
def yX3_digitHere : MethodName := ⟨RX3, "digitHere", "()I"⟩
def RX4 : String := "TurnSlots"
def TX4 : u_T := fun k => match k with
  | 0 => ("TurnSlots", "now", "LTurnSlots$Machine;", true)
  | 1 => ("TurnSlots", "trial", "LTurnSlots$Machine;", true)
  | 2 => ("TurnSlots", "history", "LTurnSlots$History;", true)
  | 3 => ("TurnSlots", "saves", "[LTurnSlots$Machine;", true)
  | 4 => ("TurnSlots", "isSaved", "[Z", true)
  | _ => ("TurnSlots", "pad", "LTurnSlots$Pad;", true)
def tyX4 : Nat → FieldType := fun k => match k with
  | 0 => .object "TurnSlots$Machine"
  | 1 => .object "TurnSlots$Machine"
  | 2 => .object "TurnSlots$History"
  | 3 => .array (.object "TurnSlots$Machine")
  | 4 => .array .boolean
  | _ => .object "TurnSlots$Pad"
theorem nmX4 : ∀ a, a < 6 → ∀ b, b < 6 → a ≠ b → (TX4 a).2.1 ≠ (TX4 b).2.1 := by decide +kernel
theorem tyX4_ok : ∀ k, k < 6 → parseFieldDescriptor (TX4 k).2.2.1 = some (tyX4 k) := by decide +kernel
abbrev cX4_init : ByteArray := prog_1_method_1_code
def yX4_init : MethodName := ⟨RX4, "<init>", "()V"⟩
abbrev cX4_add : ByteArray := prog_1_method_2_code
def yX4_add : MethodName := ⟨RX4, "add", "(III)I"⟩
abbrev cX4_read : ByteArray := prog_1_method_3_code
def yX4_read : MethodName := ⟨RX4, "read", "()I"⟩
abbrev cX4_prefer : ByteArray := prog_1_method_4_code
def yX4_prefer : MethodName := ⟨RX4, "prefer", "(II)I"⟩
abbrev cX4_post : ByteArray := prog_1_method_5_code
def yX4_post : MethodName := ⟨RX4, "post", "(II)I"⟩
abbrev cX4_release : ByteArray := prog_1_method_6_code
def yX4_release : MethodName := ⟨RX4, "release", "(I)I"⟩
abbrev cX4_step : ByteArray := prog_1_method_7_code
def yX4_step : MethodName := ⟨RX4, "step", "(I)I"⟩
abbrev cX4_run : ByteArray := prog_1_method_8_code
def yX4_run : MethodName := ⟨RX4, "run", "()I"⟩
abbrev cX4_of : ByteArray := prog_1_method_9_code
def yX4_of : MethodName := ⟨RX4, "of", "(II)I"⟩
abbrev cX4_command : ByteArray := prog_1_method_10_code
def yX4_command : MethodName := ⟨RX4, "command", "(III)I"⟩
abbrev cX4_inbox : ByteArray := prog_1_method_11_code
def yX4_inbox : MethodName := ⟨RX4, "inbox", "(II)I"⟩
abbrev cX4_holder : ByteArray := prog_1_method_12_code
def yX4_holder : MethodName := ⟨RX4, "holder", "(I)I"⟩
abbrev cX4_count : ByteArray := prog_1_method_13_code
def yX4_count : MethodName := ⟨RX4, "count", "(I)I"⟩
abbrev cX4_slotsLeft : ByteArray := prog_1_method_14_code
def yX4_slotsLeft : MethodName := ⟨RX4, "slotsLeft", "()I"⟩
abbrev cX4_leftIf : ByteArray := prog_1_method_15_code
def yX4_leftIf : MethodName := ⟨RX4, "leftIf", "(III)I"⟩
abbrev cX4_sumBehind : ByteArray := prog_1_method_16_code
def yX4_sumBehind : MethodName := ⟨RX4, "sumBehind", "(II)I"⟩
abbrev cX4_put : ByteArray := prog_1_method_17_code
def yX4_put : MethodName := ⟨RX4, "put", "(J)I"⟩
abbrev cX4_wipe : ByteArray := prog_1_method_18_code
def yX4_wipe : MethodName := ⟨RX4, "wipe", "()I"⟩
abbrev cX4_fault : ByteArray := prog_1_method_19_code
def yX4_fault : MethodName := ⟨RX4, "fault", "()I"⟩
abbrev cX4_undo : ByteArray := prog_1_method_20_code
def yX4_undo : MethodName := ⟨RX4, "undo", "()I"⟩
abbrev cX4_save : ByteArray := prog_1_method_21_code
def yX4_save : MethodName := ⟨RX4, "save", "(I)I"⟩
abbrev cX4_restore : ByteArray := prog_1_method_22_code
def yX4_restore : MethodName := ⟨RX4, "restore", "(I)I"⟩
abbrev cX4_tryNow : ByteArray := prog_1_method_23_code
def yX4_tryNow : MethodName := ⟨RX4, "tryNow", "()LTurnSlots$Machine;"⟩
abbrev cX4_isContext : ByteArray := prog_1_method_24_code
def yX4_isContext : MethodName := ⟨RX4, "isContext", "(I)Z"⟩
abbrev cX4_isCommand : ByteArray := prog_1_method_25_code
def yX4_isCommand : MethodName := ⟨RX4, "isCommand", "(II)Z"⟩
abbrev cX4_isPriority : ByteArray := prog_1_method_26_code
def yX4_isPriority : MethodName := ⟨RX4, "isPriority", "(I)Z"⟩
abbrev cX4_isLock : ByteArray := prog_1_method_27_code
def yX4_isLock : MethodName := ⟨RX4, "isLock", "(I)Z"⟩
abbrev cX4_isStep : ByteArray := prog_1_method_28_code
def yX4_isStep : MethodName := ⟨RX4, "isStep", "(I)Z"⟩
abbrev cX4_isSave : ByteArray := prog_1_method_29_code
def yX4_isSave : MethodName := ⟨RX4, "isSave", "(I)Z"⟩
abbrev cX4_has : ByteArray := prog_1_method_30_code
def yX4_has : MethodName := ⟨RX4, "has", "(II)Z"⟩
def RX5 : String := "TurnSlotsModel"
def TX5 : u_T := fun k => match k with
  | 0 => ("TurnSlotsModel", "thrown", "I", false)
  | 1 => ("TurnSlotsModel", "s", "[I", true)
  | 2 => ("TurnSlotsModel", "aside", "[I", true)
  | 3 => ("TurnSlotsModel", "undos", "[I", true)
  | 4 => ("TurnSlotsModel", "undoMany", "I", false)
  | 5 => ("TurnSlotsModel", "slots", "[I", true)
  | 6 => ("TurnSlotsModel", "hasSlot", "[Z", true)
  | 7 => ("TurnSlotsModel", "pad", "[I", true)
  | 8 => ("TurnSlotsModel", "length", "I", false)
  | 9 => ("TurnSlotsModel", "waits", "[I", true)
  | 10 => ("TurnSlotsModel", "far", "[I", true)
  | 11 => ("TurnSlotsModel", "at", "I", false)
  | 12 => ("TurnSlotsModel", "isWell", "Z", false)
  | 13 => ("TurnSlotsModel", "whose", "I", false)
  | 14 => ("TurnSlotsModel", "readCode", "[I", true)
  | _ => ("TurnSlotsModel", "readMany", "I", false)
def tyX5 : Nat → FieldType := fun k => match k with
  | 0 => .int
  | 1 => .array .int
  | 2 => .array .int
  | 3 => .array .int
  | 4 => .int
  | 5 => .array .int
  | 6 => .array .boolean
  | 7 => .array .int
  | 8 => .int
  | 9 => .array .int
  | 10 => .array .int
  | 11 => .int
  | 12 => .boolean
  | 13 => .int
  | 14 => .array .int
  | _ => .int
theorem nmX5 : ∀ a, a < 16 → ∀ b, b < 16 → a ≠ b → (TX5 a).2.1 ≠ (TX5 b).2.1 := by decide +kernel
theorem tyX5_ok : ∀ k, k < 16 → parseFieldDescriptor (TX5 k).2.2.1 = some (tyX5 k) := by decide +kernel
abbrev cX5_init : ByteArray := prog_7_method_1_code
def yX5_init : MethodName := ⟨RX5, "<init>", "()V"⟩
abbrev cX5_in : ByteArray := prog_7_method_3_code
def yX5_in : MethodName := ⟨RX5, "in", "(III)Z"⟩
abbrev cX5_isContext : ByteArray := prog_7_method_4_code
def yX5_isContext : MethodName := ⟨RX5, "isContext", "(I)Z"⟩
abbrev cX5_get : ByteArray := prog_7_method_5_code
def yX5_get : MethodName := ⟨RX5, "get", "(II)I"⟩
abbrev cX5_lay : ByteArray := prog_7_method_6_code
def yX5_lay : MethodName := ⟨RX5, "lay", "(III)V"⟩
abbrev cX5_records : ByteArray := prog_7_method_7_code
def yX5_records : MethodName := ⟨RX5, "records", "()V"⟩
abbrev cX5_putAside : ByteArray := prog_7_method_8_code
def yX5_putAside : MethodName := ⟨RX5, "putAside", "()V"⟩
abbrev cX5_takeBack : ByteArray := prog_7_method_9_code
def yX5_takeBack : MethodName := ⟨RX5, "takeBack", "()V"⟩
abbrev cX5_isDone : ByteArray := prog_7_method_10_code
def yX5_isDone : MethodName := ⟨RX5, "isDone", "(I)Z"⟩
abbrev cX5_commandOf : ByteArray := prog_7_method_11_code
def yX5_commandOf : MethodName := ⟨RX5, "commandOf", "(II)I"⟩
abbrev cX5_argumentOf : ByteArray := prog_7_method_12_code
def yX5_argumentOf : MethodName := ⟨RX5, "argumentOf", "(II)I"⟩
abbrev cX5_stateOf : ByteArray := prog_7_method_13_code
def yX5_stateOf : MethodName := ⟨RX5, "stateOf", "(I)I"⟩
abbrev cX5_sendsTo : ByteArray := prog_7_method_14_code
def yX5_sendsTo : MethodName := ⟨RX5, "sendsTo", "(II)Z"⟩
abbrev cX5_waitsFor : ByteArray := prog_7_method_15_code
def yX5_waitsFor : MethodName := ⟨RX5, "waitsFor", "(I)I"⟩
abbrev cX5_laysWaits : ByteArray := prog_7_method_16_code
def yX5_laysWaits : MethodName := ⟨RX5, "laysWaits", "()V"⟩
abbrev cX5_lent : ByteArray := prog_7_method_17_code
def yX5_lent : MethodName := ⟨RX5, "lent", "(I)I"⟩
abbrev cX5_rings : ByteArray := prog_7_method_18_code
def yX5_rings : MethodName := ⟨RX5, "rings", "()I"⟩
abbrev cX5_inState : ByteArray := prog_7_method_19_code
def yX5_inState : MethodName := ⟨RX5, "inState", "(I)I"⟩
abbrev cX5_isStuck : ByteArray := prog_7_method_20_code
def yX5_isStuck : MethodName := ⟨RX5, "isStuck", "()Z"⟩
abbrev cX5_count1 : ByteArray := prog_7_method_21_code
def yX5_count1 : MethodName := ⟨RX5, "count1", "(I)I"⟩
abbrev cX5_sumOver : ByteArray := prog_7_method_22_code
def yX5_sumOver : MethodName := ⟨RX5, "sumOver", "(I)I"⟩
abbrev cX5_receives : ByteArray := prog_7_method_23_code
def yX5_receives : MethodName := ⟨RX5, "receives", "(II)V"⟩
abbrev cX5_goesBack : ByteArray := prog_7_method_24_code
def yX5_goesBack : MethodName := ⟨RX5, "goesBack", "(II)V"⟩
abbrev cX5_takes : ByteArray := prog_7_method_25_code
def yX5_takes : MethodName := ⟨RX5, "takes", "(I)V"⟩
abbrev cX5_runs : ByteArray := prog_7_method_26_code
def yX5_runs : MethodName := ⟨RX5, "runs", "(I)V"⟩
abbrev cX5_wakes : ByteArray := prog_7_method_27_code
def yX5_wakes : MethodName := ⟨RX5, "wakes", "()V"⟩
abbrev cX5_runner : ByteArray := prog_7_method_28_code
def yX5_runner : MethodName := ⟨RX5, "runner", "(I)I"⟩
abbrev cX5_slot : ByteArray := prog_7_method_29_code
def yX5_slot : MethodName := ⟨RX5, "slot", "()I"⟩
abbrev cX5_isArgument : ByteArray := prog_7_method_30_code
def yX5_isArgument : MethodName := ⟨RX5, "isArgument", "(II)Z"⟩
abbrev cX5_adds : ByteArray := prog_7_method_31_code
def yX5_adds : MethodName := ⟨RX5, "adds", "(III)V"⟩
abbrev cX5_add : ByteArray := prog_7_method_32_code
def yX5_add : MethodName := ⟨RX5, "add", "(III)I"⟩
abbrev cX5_prefer : ByteArray := prog_7_method_33_code
def yX5_prefer : MethodName := ⟨RX5, "prefer", "(II)I"⟩
abbrev cX5_post : ByteArray := prog_7_method_34_code
def yX5_post : MethodName := ⟨RX5, "post", "(II)I"⟩
abbrev cX5_release : ByteArray := prog_7_method_35_code
def yX5_release : MethodName := ⟨RX5, "release", "(I)I"⟩
abbrev cX5_step : ByteArray := prog_7_method_36_code
def yX5_step : MethodName := ⟨RX5, "step", "(I)I"⟩
abbrev cX5_run : ByteArray := prog_7_method_37_code
def yX5_run : MethodName := ⟨RX5, "run", "()I"⟩
abbrev cX5_of : ByteArray := prog_7_method_38_code
def yX5_of : MethodName := ⟨RX5, "of", "(II)I"⟩
abbrev cX5_command : ByteArray := prog_7_method_39_code
def yX5_command : MethodName := ⟨RX5, "command", "(III)I"⟩
abbrev cX5_inbox : ByteArray := prog_7_method_40_code
def yX5_inbox : MethodName := ⟨RX5, "inbox", "(II)I"⟩
abbrev cX5_holder : ByteArray := prog_7_method_41_code
def yX5_holder : MethodName := ⟨RX5, "holder", "(I)I"⟩
abbrev cX5_next : ByteArray := prog_7_method_42_code
def yX5_next : MethodName := ⟨RX5, "next", "()I"⟩
abbrev cX5_count : ByteArray := prog_7_method_43_code
def yX5_count : MethodName := ⟨RX5, "count", "(I)I"⟩
abbrev cX5_until : ByteArray := prog_7_method_44_code
def yX5_until : MethodName := ⟨RX5, "until", "(I)I"⟩
abbrev cX5_slotsLeft : ByteArray := prog_7_method_45_code
def yX5_slotsLeft : MethodName := ⟨RX5, "slotsLeft", "()I"⟩
abbrev cX5_leftIf : ByteArray := prog_7_method_46_code
def yX5_leftIf : MethodName := ⟨RX5, "leftIf", "(III)I"⟩
abbrev cX5_sumBehind : ByteArray := prog_7_method_47_code
def yX5_sumBehind : MethodName := ⟨RX5, "sumBehind", "(II)I"⟩
abbrev cX5_put : ByteArray := prog_7_method_48_code
def yX5_put : MethodName := ⟨RX5, "put", "(J)I"⟩
abbrev cX5_wipe : ByteArray := prog_7_method_49_code
def yX5_wipe : MethodName := ⟨RX5, "wipe", "()I"⟩
abbrev cX5_sign : ByteArray := prog_7_method_50_code
def yX5_sign : MethodName := ⟨RX5, "sign", "()I"⟩
abbrev cX5_takesSign : ByteArray := prog_7_method_51_code
def yX5_takesSign : MethodName := ⟨RX5, "takesSign", "(II)I"⟩
abbrev cX5_number : ByteArray := prog_7_method_52_code
def yX5_number : MethodName := ⟨RX5, "number", "()I"⟩
abbrev cX5_numberOfBack : ByteArray := prog_7_method_53_code
def yX5_numberOfBack : MethodName := ⟨RX5, "numberOfBack", "()I"⟩
abbrev cX5_commandBy : ByteArray := prog_7_method_54_code
def yX5_commandBy : MethodName := ⟨RX5, "commandBy", "(I)I"⟩
abbrev cX5_readsCommand : ByteArray := prog_7_method_55_code
def yX5_readsCommand : MethodName := ⟨RX5, "readsCommand", "()V"⟩
abbrev cX5_reads : ByteArray := prog_7_method_56_code
def yX5_reads : MethodName := ⟨RX5, "reads", "()I"⟩
abbrev cX5_fault : ByteArray := prog_7_method_57_code
def yX5_fault : MethodName := ⟨RX5, "fault", "()I"⟩
abbrev cX5_read : ByteArray := prog_7_method_58_code
def yX5_read : MethodName := ⟨RX5, "read", "()I"⟩
abbrev cX5_undo : ByteArray := prog_7_method_59_code
def yX5_undo : MethodName := ⟨RX5, "undo", "()I"⟩
abbrev cX5_save : ByteArray := prog_7_method_60_code
def yX5_save : MethodName := ⟨RX5, "save", "(I)I"⟩
abbrev cX5_restore : ByteArray := prog_7_method_61_code
def yX5_restore : MethodName := ⟨RX5, "restore", "(I)I"⟩
def RJ11 : String := "java/lang/Character"
abbrev cJ11_isValidCodePoint_9a6ad : ByteArray := prog_8_method_11_code
def yJ11_isValidCodePoint_9a6ad : MethodName := ⟨RJ11, "isValidCodePoint", "(I)Z"⟩
abbrev cJ11_highSurrogate_5068e : ByteArray := prog_8_method_28_code
def yJ11_highSurrogate_5068e : MethodName := ⟨RJ11, "highSurrogate", "(I)C"⟩
abbrev cJ11_lowSurrogate_5068e : ByteArray := prog_8_method_29_code
def yJ11_lowSurrogate_5068e : MethodName := ⟨RJ11, "lowSurrogate", "(I)C"⟩
def RJ6 : String := "java/lang/Integer"
abbrev cJ6_bitCount_0f7a4 : ByteArray := prog_9_method_49_code
def yJ6_bitCount_0f7a4 : MethodName := ⟨RJ6, "bitCount", "(I)I"⟩
def RJ9 : String := "java/lang/Math"
abbrev cJ9_max_7cf53 : ByteArray := prog_10_method_65_code
def yJ9_max_7cf53 : MethodName := ⟨RJ9, "max", "(II)I"⟩
abbrev cJ9_min_7cf53 : ByteArray := prog_10_method_69_code
def yJ9_min_7cf53 : MethodName := ⟨RJ9, "min", "(II)I"⟩
def RJ0 : String := "java/lang/String"
abbrev cJ0_length_8abf5 : ByteArray := prog_11_method_54_code
def yJ0_length_8abf5 : MethodName := ⟨RJ0, "length", "()I"⟩
abbrev cJ0_indexOf_0f7a4 : ByteArray := prog_11_method_79_code
def yJ0_indexOf_0f7a4 : MethodName := ⟨RJ0, "indexOf", "(I)I"⟩
abbrev cJ0_indexOf_7cf53 : ByteArray := prog_11_method_80_code
def yJ0_indexOf_7cf53 : MethodName := ⟨RJ0, "indexOf", "(II)I"⟩
abbrev cJ0_coder_7d493 : ByteArray := prog_11_method_152_code
def yJ0_coder_7d493 : MethodName := ⟨RJ0, "coder", "()B"⟩
abbrev cJ0_isLatin1_aae02 : ByteArray := prog_11_method_154_code
def yJ0_isLatin1_aae02 : MethodName := ⟨RJ0, "isLatin1", "()Z"⟩
abbrev cJ0_checkBoundsBeginEnd_23922 : ByteArray := prog_11_method_158_code
def yJ0_checkBoundsBeginEnd_23922 : MethodName := ⟨RJ0, "checkBoundsBeginEnd", "(III)V"⟩
def RJ1 : String := "java/lang/StringLatin1"
abbrev cJ1_canEncode_9a6ad : ByteArray := prog_12_method_4_code
def yJ1_canEncode_9a6ad : MethodName := ⟨RJ1, "canEncode", "(I)Z"⟩
abbrev cJ1_indexOf_4cfef : ByteArray := prog_12_method_22_code
def yJ1_indexOf_4cfef : MethodName := ⟨RJ1, "indexOf", "([BIII)I"⟩
abbrev cJ1_indexOfChar_4cfef : ByteArray := prog_12_method_23_code
def yJ1_indexOfChar_4cfef : MethodName := ⟨RJ1, "indexOfChar", "([BIII)I"⟩
def RJ2 : String := "java/lang/StringUTF16"
abbrev cJ2_getChar_3b067 : ByteArray := prog_13_method_5_code
def yJ2_getChar_3b067 : MethodName := ⟨RJ2, "getChar", "([BI)C"⟩
abbrev cJ2_length_9d52b : ByteArray := prog_13_method_6_code
def yJ2_length_9d52b : MethodName := ⟨RJ2, "length", "([B)I"⟩
abbrev cJ2_indexOf_4cfef : ByteArray := prog_13_method_40_code
def yJ2_indexOf_4cfef : MethodName := ⟨RJ2, "indexOf", "([BIII)I"⟩
abbrev cJ2_indexOfChar_4cfef : ByteArray := prog_13_method_47_code
def yJ2_indexOfChar_4cfef : MethodName := ⟨RJ2, "indexOfChar", "([BIII)I"⟩
abbrev cJ2_indexOfCharUnsafe_4cfef : ByteArray := prog_13_method_48_code
def yJ2_indexOfCharUnsafe_4cfef : MethodName := ⟨RJ2, "indexOfCharUnsafe", "([BIII)I"⟩
abbrev cJ2_indexOfSupplementary_4cfef : ByteArray := prog_13_method_49_code
def yJ2_indexOfSupplementary_4cfef : MethodName := ⟨RJ2, "indexOfSupplementary", "([BIII)I"⟩
abbrev cJ2_checkBoundsBeginEnd_d044e : ByteArray := prog_13_method_93_code
def yJ2_checkBoundsBeginEnd_d044e : MethodName := ⟨RJ2, "checkBoundsBeginEnd", "(II[B)V"⟩
def RJ10 : String := "java/lang/System"
def RJ3 : String := "jdk/internal/util/Preconditions"
abbrev cJ3_checkFromToIndex_8c36e : ByteArray := prog_15_method_12_code
def yJ3_checkFromToIndex_8c36e : MethodName := ⟨RJ3, "checkFromToIndex", "(IIILjava/util/function/BiFunction;)I"⟩
def RL : String := "TurnSlotsLaw"
abbrev cL_law : ByteArray := code
def yL_law : MethodName := ⟨RL, "law", "([I)Z"⟩
abbrev vwCl : List vw_C := [(RX0, TX0, 11), (RX1, TX1, 3), (RX2, TX2, 6), (RX3, TX3, 7), (RX4, TX4, 6), (RX5, TX5, 16)]
end
section
/-! ===== a pure machine: what bytecode does to typed cells, as a Lean function over the machine's own decode ===== -/
/-- a method: its name, bytes, locals, what it returns, its class's number, its height -/
abbrev xM : Type := MethodName × ByteArray × Nat × Option FieldType × Nat × Nat
/-- the shape of the cells: kind, length, references, by address; the heap's size; the slots used -/
abbrev xSh : Type := (Nat → Nat × Nat × (Nat → Option Nat)) × Nat × Nat
/-- the ints of the cells, by address and place -/
abbrev xV : Type := Nat → Nat → Int32
/-- a step's outcome: on; a return; a call -/
abbrev xStep : Type := (Nat × List (Option Value) × List Value × xSh × xV) ⊕ (Option Value) ⊕ (xM × List Value × List Value)
def xkd (S : xSh) (a : Nat) : Nat := (S.1 a).1
def xln (S : xSh) (a : Nat) : Nat := (S.1 a).2.1
def xrf (S : xSh) (a k : Nat) : Option Nat := (S.1 a).2.2 k
def xup (V : xV) (a j : Nat) (v : Int32) : xV := fun b i => if b = a ∧ i = j then v else V b i
def xrow (V : xV) (a : Nat) (f : Nat → Int32) : xV := fun b => if b = a then f else V b
def xnew (S : xSh) (kd n z : Nat) : xSh := (fun b => if b = S.2.1 then (kd, n, fun _ => none) else S.1 b, S.2.1 + 1, S.2.2 + z)
def xsetr (S : xSh) (a k : Nat) (r : Option Nat) : xSh := (fun b => if b = a then ((S.1 a).1, (S.1 a).2.1, fun j => if j = k then r else (S.1 a).2.2 j) else S.1 b, S.2)
def xassoc {α : Type} : List (Nat × α) → Nat → Option α
  | [], _ => none
  | (k, a) :: l, n => if n = k then some a else xassoc l n
theorem xassoc_mem {α : Type} {n : Nat} {a : α} : ∀ {l : List (Nat × α)}, xassoc l n = some a → (n, a) ∈ l := by
  intro l
  induction l with
  | nil => intro h; cases h
  | cons q l ih =>
    obtain ⟨k, b⟩ := q
    intro h
    rw [xassoc] at h
    by_cases hk : n = k
    · rw [if_pos hk] at h
      cases h
      subst hk
      exact List.mem_cons_self
    · rw [if_neg hk] at h
      exact List.mem_cons_of_mem _ (ih h)
/-- fields of a kind: declaring class, name, descriptor, final; their types -/
def xT (kd : Nat) : u_T := match kd with
  | 1 => TX0
  | 2 => TX1
  | 3 => TX2
  | 4 => TX3
  | 5 => TX4
  | 6 => TX5
  | _ => fun k => match k with
    | 0 => ("java/lang/String", "value", "[B", true)
    | _ => ("java/lang/String", "coder", "B", true)
def xty (kd : Nat) : Nat → FieldType := match kd with
  | 1 => tyX0
  | 2 => tyX1
  | 3 => tyX2
  | 4 => tyX3
  | 5 => tyX4
  | 6 => tyX5
  | _ => fun k => match k with
    | 0 => .array .byte
    | _ => .byte
def xcn (o : Nat) : String := match o with
  | 0 => RX0
  | 1 => RX1
  | 2 => RX2
  | 3 => RX3
  | 4 => RX4
  | 5 => RX5
  | 6 => RL
  | 7 => RJ0
  | 8 => RJ1
  | 9 => RJ9
  | _ => RJ6
def xN (kd : Nat) : Nat := match kd with
  | 1 => 11
  | 2 => 3
  | 3 => 6
  | 4 => 7
  | 5 => 6
  | 6 => 16
  | _ => 2
def xisR (kd k : Nat) : Bool := match xty kd k with
  | .array _ => true
  | .object _ => true
  | _ => false
def xisZ (kd k : Nat) : Bool := match xty kd k with
  | .boolean => true
  | _ => false
def xlocAt (ls : List (Option Value)) (i : Nat) : Option Value := match ls[i]? with
  | some (some v) => some v
  | _ => none
/-- a long whose second half is stored over goes -/
def xclr (ls : List (Option Value)) (i : Nat) : List (Option Value) := match i with
  | 0 => ls
  | j + 1 => match xlocAt ls j with
    | some v => if v.category = 2 then ls.set j none else ls
    | none => ls
def xst1 (ls : List (Option Value)) (i : Nat) (v : Value) : List (Option Value) := (xclr ls i).set i (some v)
def xst2 (ls : List (Option Value)) (i : Nat) (v : Value) : List (Option Value) := ((xclr ls i).set i (some v)).set (i + 1) none
def xargs : List Value → List (Option Value)
  | [] => []
  | v :: vs => if v.category = 2 then some v :: none :: xargs vs else some v :: xargs vs
def xlocs (n : Nat) (vs : List Value) : List (Option Value) := xargs vs ++ List.replicate (n - (xargs vs).length) none
def xcat (st : List Value) : Nat := (st.map fun v => v.category).sum
def xcb (c : Jvm.ClassFile.Cond) (x y : Int32) : Bool := match c with
  | .eq => decide (x = y)
  | .ne => decide (¬ x = y)
  | .lt => decide (x < y)
  | .ge => decide (y ≤ x)
  | .gt => decide (y < x)
  | .le => decide (x ≤ y)
def xgo (pc : Nat) (ls : List (Option Value)) (st : List Value) (S : xSh) (V : xV) : Option xStep := some (.inl (pc, ls, st, S, V))
def xoff (pc : Nat) (off : Int) (ls : List (Option Value)) (st : List Value) (S : xSh) (V : xV) : Option xStep :=
  if 0 ≤ (pc : Int) + off then xgo ((pc : Int) + off).toNat ls st S V else none
end
section
/-! ===== methods and links, by program out of the printed words ===== -/
def mX0_addToSum : xM := (yX0_addToSum, cX0_addToSum, 2, none, 0, 0)
def mX0_append : xM := (yX0_append, cX0_append, 3, none, 0, 0)
def mX0_receive : xM := (yX0_receive, cX0_receive, 2, none, 0, 0)
def mX2_account : xM := (yX2_account, cX2_account, 3, none, 2, 0)
def mX2_freeIfHeldBy : xM := (yX2_freeIfHeldBy, cX2_freeIfHeldBy, 3, none, 2, 0)
def mX2_sendersTo : xM := (yX2_sendersTo, cX2_sendersTo, 6, some .int, 2, 0)
def mX2_stateOf : xM := (yX2_stateOf, cX2_stateOf, 4, some .int, 2, 0)
def mX3_append : xM := (yX3_append, cX3_append, 5, none, 3, 0)
def mX3_characterAt : xM := (yX3_characterAt, cX3_characterAt, 2, some .char, 3, 0)
def mX3_charactersIn : xM := (yX3_charactersIn, cX3_charactersIn, 6, some .int, 3, 0)
def mX4_has : xM := (yX4_has, cX4_has, 2, some .boolean, 4, 0)
def mX4_isCommand : xM := (yX4_isCommand, cX4_isCommand, 2, some .boolean, 4, 0)
def mX4_isContext : xM := (yX4_isContext, cX4_isContext, 1, some .boolean, 4, 0)
def mX4_isLock : xM := (yX4_isLock, cX4_isLock, 1, some .boolean, 4, 0)
def mX4_isPriority : xM := (yX4_isPriority, cX4_isPriority, 1, some .boolean, 4, 0)
def mX4_isSave : xM := (yX4_isSave, cX4_isSave, 1, some .boolean, 4, 0)
def mX4_isStep : xM := (yX4_isStep, cX4_isStep, 1, some .boolean, 4, 0)
def mX4_wipe : xM := (yX4_wipe, cX4_wipe, 2, some .int, 4, 0)
def mX5_commandBy : xM := (yX5_commandBy, cX5_commandBy, 1, some .int, 5, 0)
def mX5_count1 : xM := (yX5_count1, cX5_count1, 3, some .int, 5, 0)
def mX5_get : xM := (yX5_get, cX5_get, 3, some .int, 5, 0)
def mX5_in : xM := (yX5_in, cX5_in, 3, some .boolean, 5, 0)
def mX5_lay : xM := (yX5_lay, cX5_lay, 4, none, 5, 0)
def mX5_putAside : xM := (yX5_putAside, cX5_putAside, 2, none, 5, 0)
def mX5_records : xM := (yX5_records, cX5_records, 2, none, 5, 0)
def mX5_sign : xM := (yX5_sign, cX5_sign, 1, some .int, 5, 0)
def mX5_takeBack : xM := (yX5_takeBack, cX5_takeBack, 2, none, 5, 0)
def mX5_undo : xM := (yX5_undo, cX5_undo, 2, some .int, 5, 0)
def mX5_wipe : xM := (yX5_wipe, cX5_wipe, 2, some .int, 5, 0)
def mJ0_coder_7d493 : xM := (yJ0_coder_7d493, cJ0_coder_7d493, 1, some .byte, 7, 0)
def mJ0_isLatin1_aae02 : xM := (yJ0_isLatin1_aae02, cJ0_isLatin1_aae02, 1, some .boolean, 7, 0)
def mJ1_canEncode_9a6ad : xM := (yJ1_canEncode_9a6ad, cJ1_canEncode_9a6ad, 1, some .boolean, 8, 0)
def mJ1_indexOfChar_4cfef : xM := (yJ1_indexOfChar_4cfef, cJ1_indexOfChar_4cfef, 6, some .int, 8, 0)
def mJ9_max_7cf53 : xM := (yJ9_max_7cf53, cJ9_max_7cf53, 2, some .int, 9, 0)
def mJ9_min_7cf53 : xM := (yJ9_min_7cf53, cJ9_min_7cf53, 2, some .int, 9, 0)
def mJ6_bitCount_0f7a4 : xM := (yJ6_bitCount_0f7a4, cJ6_bitCount_0f7a4, 1, some .int, 10, 0)
def mX0_init : xM := (yX0_init, cX0_init, 1, none, 0, 1)
def mX0_copyFrom : xM := (yX0_copyFrom, cX0_copyFrom, 2, none, 0, 1)
def mX0_goBack : xM := (yX0_goBack, cX0_goBack, 3, none, 0, 1)
def mX0_load : xM := (yX0_load, cX0_load, 3, none, 0, 1)
def mX0_takeMessage : xM := (yX0_takeMessage, cX0_takeMessage, 1, none, 0, 1)
def mX2_areDone : xM := (yX2_areDone, cX2_areDone, 3, some .boolean, 2, 1)
def mX2_isStuck : xM := (yX2_isStuck, cX2_isStuck, 4, some .boolean, 2, 1)
def mX2_lentPriority : xM := (yX2_lentPriority, cX2_lentPriority, 5, some .int, 2, 1)
def mX2_setIn : xM := (yX2_setIn, cX2_setIn, 4, some .int, 2, 1)
def mX2_waitsOf : xM := (yX2_waitsOf, cX2_waitsOf, 3, some .int, 2, 1)
def mX3_init : xM := (yX3_init, cX3_init, 1, none, 3, 1)
def mX3_digitHere : xM := (yX3_digitHere, cX3_digitHere, 2, some .int, 3, 1)
def mX3_takeCharacter : xM := (yX3_takeCharacter, cX3_takeCharacter, 2, some .boolean, 3, 1)
def mX4_command : xM := (yX4_command, cX4_command, 5, some .int, 4, 1)
def mX4_holder : xM := (yX4_holder, cX4_holder, 2, some .int, 4, 1)
def mX4_inbox : xM := (yX4_inbox, cX4_inbox, 4, some .int, 4, 1)
def mX4_put : xM := (yX4_put, cX4_put, 4, some .int, 4, 1)
def mX5_init : xM := (yX5_init, cX5_init, 1, none, 5, 1)
def mX5_adds : xM := (yX5_adds, cX5_adds, 5, none, 5, 1)
def mX5_argumentOf : xM := (yX5_argumentOf, cX5_argumentOf, 3, some .int, 5, 1)
def mX5_commandOf : xM := (yX5_commandOf, cX5_commandOf, 3, some .int, 5, 1)
def mX5_goesBack : xM := (yX5_goesBack, cX5_goesBack, 5, none, 5, 1)
def mX5_holder : xM := (yX5_holder, cX5_holder, 2, some .int, 5, 1)
def mX5_isContext : xM := (yX5_isContext, cX5_isContext, 1, some .boolean, 5, 1)
def mX5_isDone : xM := (yX5_isDone, cX5_isDone, 2, some .boolean, 5, 1)
def mX5_lent : xM := (yX5_lent, cX5_lent, 5, some .int, 5, 1)
def mX5_put : xM := (yX5_put, cX5_put, 8, some .int, 5, 1)
def mX5_receives : xM := (yX5_receives, cX5_receives, 3, none, 5, 1)
def mX5_release : xM := (yX5_release, cX5_release, 3, some .int, 5, 1)
def mX5_restore : xM := (yX5_restore, cX5_restore, 3, some .int, 5, 1)
def mX5_save : xM := (yX5_save, cX5_save, 3, some .int, 5, 1)
def mX5_sumOver : xM := (yX5_sumOver, cX5_sumOver, 4, some .int, 5, 1)
def mX5_takes : xM := (yX5_takes, cX5_takes, 3, none, 5, 1)
def mX5_takesSign : xM := (yX5_takesSign, cX5_takesSign, 4, some .int, 5, 1)
def mX5_wakes : xM := (yX5_wakes, cX5_wakes, 2, none, 5, 1)
def mJ0_length_8abf5 : xM := (yJ0_length_8abf5, cJ0_length_8abf5, 1, some .int, 7, 1)
def mJ1_indexOf_4cfef : xM := (yJ1_indexOf_4cfef, cJ1_indexOf_4cfef, 4, some .int, 8, 1)
def mX2_init : xM := (yX2_init, cX2_init, 2, none, 2, 2)
def mX2_copyFrom : xM := (yX2_copyFrom, cX2_copyFrom, 3, none, 2, 2)
def mX2_findAllWaits : xM := (yX2_findAllWaits, cX2_findAllWaits, 3, some (.array .int), 2, 2)
def mX2_runNextOf : xM := (yX2_runNextOf, cX2_runNextOf, 5, none, 2, 2)
def mX3_takeNumber : xM := (yX3_takeNumber, cX3_takeNumber, 5, some .boolean, 3, 2)
def mX5_command : xM := (yX5_command, cX5_command, 4, some .int, 5, 2)
def mX5_inbox : xM := (yX5_inbox, cX5_inbox, 3, some .int, 5, 2)
def mX5_isArgument : xM := (yX5_isArgument, cX5_isArgument, 2, some .boolean, 5, 2)
def mX5_number : xM := (yX5_number, cX5_number, 2, some .int, 5, 2)
def mX5_numberOfBack : xM := (yX5_numberOfBack, cX5_numberOfBack, 2, some .int, 5, 2)
def mX5_post : xM := (yX5_post, cX5_post, 3, some .int, 5, 2)
def mX5_prefer : xM := (yX5_prefer, cX5_prefer, 4, some .int, 5, 2)
def mX5_runs : xM := (yX5_runs, cX5_runs, 4, none, 5, 2)
def mX5_sendsTo : xM := (yX5_sendsTo, cX5_sendsTo, 5, some .boolean, 5, 2)
def mX5_stateOf : xM := (yX5_stateOf, cX5_stateOf, 4, some .int, 5, 2)
def mJ0_indexOf_7cf53 : xM := (yJ0_indexOf_7cf53, cJ0_indexOf_7cf53, 3, some .int, 7, 2)
def mX1_init : xM := (yX1_init, cX1_init, 2, none, 1, 3)
def mX1_record : xM := (yX1_record, cX1_record, 2, none, 1, 3)
def mX1_takeBack : xM := (yX1_takeBack, cX1_takeBack, 2, none, 1, 3)
def mX2_ringSet : xM := (yX2_ringSet, cX2_ringSet, 4, some .int, 2, 3)
def mX2_runnerInSlotOf : xM := (yX2_runnerInSlotOf, cX2_runnerInSlotOf, 9, some .int, 2, 3)
def mX4_save : xM := (yX4_save, cX4_save, 2, some .int, 4, 3)
def mX4_tryNow : xM := (yX4_tryNow, cX4_tryNow, 1, some (.object "TurnSlots$Machine"), 4, 3)
def mX5_add : xM := (yX5_add, cX5_add, 4, some .int, 5, 3)
def mX5_inState : xM := (yX5_inState, cX5_inState, 4, some .int, 5, 3)
def mX5_readsCommand : xM := (yX5_readsCommand, cX5_readsCommand, 3, none, 5, 3)
def mX5_waitsFor : xM := (yX5_waitsFor, cX5_waitsFor, 6, some .int, 5, 3)
def mJ0_indexOf_0f7a4 : xM := (yJ0_indexOf_0f7a4, cJ0_indexOf_0f7a4, 2, some .int, 7, 3)
def mX2_passSlot : xM := (yX2_passSlot, cX2_passSlot, 3, some .int, 2, 4)
def mX3_takeCommand : xM := (yX3_takeCommand, cX3_takeCommand, 2, some .boolean, 3, 4)
def mX4_init : xM := (yX4_init, cX4_init, 2, none, 4, 4)
def mX4_add : xM := (yX4_add, cX4_add, 5, some .int, 4, 4)
def mX4_of : xM := (yX4_of, cX4_of, 4, some .int, 4, 4)
def mX4_post : xM := (yX4_post, cX4_post, 4, some .int, 4, 4)
def mX4_prefer : xM := (yX4_prefer, cX4_prefer, 4, some .int, 4, 4)
def mX4_release : xM := (yX4_release, cX4_release, 3, some .int, 4, 4)
def mX4_restore : xM := (yX4_restore, cX4_restore, 2, some .int, 4, 4)
def mX4_undo : xM := (yX4_undo, cX4_undo, 1, some .int, 4, 4)
def mX5_isStuck : xM := (yX5_isStuck, cX5_isStuck, 3, some .boolean, 5, 4)
def mX5_laysWaits : xM := (yX5_laysWaits, cX5_laysWaits, 4, none, 5, 4)
def mX5_reads : xM := (yX5_reads, cX5_reads, 1, some .int, 5, 4)
def mX2_passSlots : xM := (yX2_passSlots, cX2_passSlots, 4, some .int, 2, 5)
def mX2_passUntilDone : xM := (yX2_passUntilDone, cX2_passUntilDone, 3, some .int, 2, 5)
def mX3_findFault : xM := (yX3_findFault, cX3_findFault, 2, some .int, 3, 5)
def mX4_count : xM := (yX4_count, cX4_count, 2, some .int, 4, 5)
def mX5_fault : xM := (yX5_fault, cX5_fault, 1, some .int, 5, 5)
def mX5_of : xM := (yX5_of, cX5_of, 3, some .int, 5, 5)
def mX5_read : xM := (yX5_read, cX5_read, 2, some .int, 5, 5)
def mX5_rings : xM := (yX5_rings, cX5_rings, 3, some .int, 5, 5)
def mX5_runner : xM := (yX5_runner, cX5_runner, 5, some .int, 5, 5)
def mX4_fault : xM := (yX4_fault, cX4_fault, 1, some .int, 4, 6)
def mX4_leftIf : xM := (yX4_leftIf, cX4_leftIf, 5, some .int, 4, 6)
def mX4_read : xM := (yX4_read, cX4_read, 1, some .int, 4, 6)
def mX4_run : xM := (yX4_run, cX4_run, 1, some .int, 4, 6)
def mX4_slotsLeft : xM := (yX4_slotsLeft, cX4_slotsLeft, 2, some .int, 4, 6)
def mX4_step : xM := (yX4_step, cX4_step, 2, some .int, 4, 6)
def mX4_sumBehind : xM := (yX4_sumBehind, cX4_sumBehind, 3, some .int, 4, 6)
def mX5_next : xM := (yX5_next, cX5_next, 2, some .int, 5, 6)
def mX5_slot : xM := (yX5_slot, cX5_slot, 3, some .int, 5, 6)
def mX5_count : xM := (yX5_count, cX5_count, 2, some .int, 5, 7)
def mX5_run : xM := (yX5_run, cX5_run, 2, some .int, 5, 7)
def mX5_step : xM := (yX5_step, cX5_step, 4, some .int, 5, 7)
def mX5_sumBehind : xM := (yX5_sumBehind, cX5_sumBehind, 4, some .int, 5, 7)
def mX5_until : xM := (yX5_until, cX5_until, 3, some .int, 5, 7)
def mX5_leftIf : xM := (yX5_leftIf, cX5_leftIf, 5, some .int, 5, 8)
def mX5_slotsLeft : xM := (yX5_slotsLeft, cX5_slotsLeft, 2, some .int, 5, 8)
def mL_law : xM := (yL_law, cL_law, 4, some .boolean, 6, 9)
def xFt : List (Nat × Nat × Nat) := [(9, 1, 0), (15, 1, 1), (18, 1, 2), (21, 1, 3), (30, 1, 4), (34, 1, 5), (37, 1, 6), (40, 1, 7), (43, 1, 8), (46, 1, 9), (49, 1, 10), (52, 4, 5), (55, 4, 2), (56, 4, 3), (10011, 2, 0), (10018, 2, 1), (10022, 2, 2), (20011, 3, 0), (20017, 3, 1), (20021, 3, 2), (20035, 3, 3), (20039, 3, 4), (20042, 3, 5), (20045, 1, 6), (20048, 1, 4), (20051, 1, 10), (20054, 1, 1), (20057, 1, 0), (20060, 1, 9), (20077, 1, 8), (20120, 1, 3), (20129, 1, 7), (30009, 4, 0), (30015, 4, 2), (30019, 4, 3), (30024, 4, 1), (30028, 4, 6), (30031, 4, 5), (30038, 4, 4), (40010, 5, 0), (40016, 5, 1), (40022, 5, 2), (40026, 5, 3), (40030, 5, 4), (40037, 5, 5), (40049, 3, 0), (40053, 1, 4), (40071, 4, 4), (40078, 4, 1), (40084, 1, 8), (40087, 1, 9), (40097, 3, 1), (40104, 3, 3), (40116, 1, 6), (40119, 1, 7), (40130, 1, 10), (40145, 1, 3), (40148, 1, 0), (40151, 1, 1), (40154, 1, 5), (40157, 1, 2), (40172, 3, 4), (40175, 3, 5), (40185, 2, 2), (50007, 6, 1), (50013, 6, 2), (50016, 6, 3), (50019, 6, 5), (50022, 6, 6), (50026, 6, 7), (50029, 6, 9), (50032, 6, 10), (50035, 6, 14), (50038, 6, 0), (50046, 6, 4), (50147, 6, 8), (50155, 6, 11), (50158, 6, 12), (50177, 6, 15), (50180, 6, 13), (70009, 13, 0), (70015, 13, 1)]
def xSt : List (Nat × Nat) := [(30061, 0), (30064, 1), (40207, 0), (40210, 1), (70038, 2)]
def xCt : List (Nat × xM × Nat × Nat) := [(57, mX0_append, 2, 0), (61, mX0_addToSum, 1, 0), (65, mX4_has, 2, 3), (69, mJ9_max_7cf53, 2, 1), (10017, mX2_init, 0, 2), (10025, mX2_copyFrom, 1, 0), (20024, mX0_init, 0, 4), (20025, mX0_copyFrom, 1, 0), (20063, mX2_stateOf, 1, 0), (20067, mX4_has, 2, 3), (20071, mX2_sendersTo, 1, 0), (20074, mX2_waitsOf, 1, 0), (20080, mJ9_max_7cf53, 2, 1), (20086, mX2_findAllWaits, 0, 0), (20090, mX2_passSlot, 0, 0), (20094, mX2_areDone, 1, 0), (20098, mX2_isStuck, 0, 0), (20102, mX2_runnerInSlotOf, 1, 0), (20105, mX2_account, 2, 0), (20109, mX2_runNextOf, 1, 0), (20113, mX2_setIn, 1, 0), (20116, mX2_lentPriority, 2, 0), (20123, mX0_goBack, 1, 0), (20126, mX0_addToSum, 1, 0), (20132, mX0_receive, 1, 0), (20135, mX0_takeMessage, 0, 0), (20138, mX2_freeIfHeldBy, 2, 0), (30034, mX3_digitHere, 0, 0), (30041, mX3_takeCharacter, 1, 0), (30045, mX3_takeCommand, 0, 0), (30049, mX3_characterAt, 1, 0), (30055, mJ0_indexOf_0f7a4, 1, 0), (30067, mX3_takeNumber, 2, 0), (40009, mX2_init, 0, 2), (40021, mX1_init, 0, 2), (40036, mX3_init, 0, 4), (40041, mX4_isContext, 1, 1), (40045, mX4_isCommand, 2, 1), (40059, mX1_record, 1, 0), (40063, mX0_append, 2, 0), (40067, mX3_findFault, 0, 0), (40074, mX0_load, 1, 0), (40081, mX4_isPriority, 1, 1), (40090, mX0_receive, 1, 0), (40094, mX4_isLock, 1, 1), (40101, mX4_isStep, 1, 1), (40108, mX2_passSlots, 1, 0), (40113, mX2_passUntilDone, 1, 0), (40122, mX2_findAllWaits, 0, 0), (40126, mX2_lentPriority, 2, 0), (40133, mX2_stateOf, 1, 0), (40136, mX2_waitsOf, 1, 0), (40139, mX2_ringSet, 0, 0), (40142, mX4_has, 2, 1), (40160, mX2_setIn, 1, 0), (40163, mJ6_bitCount_0f7a4, 1, 1), (40168, mX2_isStuck, 0, 0), (40178, mX4_tryNow, 0, 0), (40182, mX2_passSlot, 0, 0), (40188, mX2_areDone, 1, 0), (40191, mX3_charactersIn, 1, 1), (40195, mX3_append, 2, 0), (40198, mX1_takeBack, 1, 0), (40201, mX4_isSave, 1, 1), (40204, mX2_copyFrom, 1, 0), (50042, mX5_in, 3, 1), (50049, mX5_get, 2, 0), (50053, mX5_isDone, 1, 0), (50057, mX5_commandOf, 2, 0), (50060, mX5_argumentOf, 2, 0), (50063, mX5_stateOf, 1, 0), (50067, mX5_sendsTo, 2, 0), (50071, mX5_waitsFor, 1, 0), (50074, mX5_laysWaits, 0, 0), (50077, mX5_inState, 1, 0), (50080, mX5_lay, 3, 0), (50084, mX5_goesBack, 2, 0), (50088, mX5_receives, 2, 0), (50091, mX5_takes, 1, 0), (50095, mX5_lent, 1, 0), (50098, mX5_wakes, 0, 0), (50101, mX5_runner, 1, 0), (50104, mX5_runs, 1, 0), (50107, mX5_isContext, 1, 1), (50110, mX5_isArgument, 2, 1), (50113, mX5_records, 0, 0), (50116, mX5_adds, 3, 0), (50120, mX5_slot, 0, 0), (50125, mX5_isStuck, 0, 0), (50129, mX5_putAside, 0, 0), (50132, mX5_takeBack, 0, 0), (50135, mX5_count1, 1, 1), (50138, mX5_rings, 0, 0), (50141, mX5_sumOver, 1, 0), (50144, mX5_next, 0, 0), (50150, mX5_until, 1, 0), (50162, mX5_sign, 0, 0), (50165, mX5_takesSign, 2, 0), (50168, mX5_commandBy, 1, 1), (50171, mX5_number, 0, 0), (50174, mX5_numberOfBack, 0, 0), (50183, mX5_readsCommand, 0, 0), (50186, mX5_reads, 0, 0), (60009, mX4_init, 0, 2), (60012, mX5_init, 0, 2), (60013, mX4_add, 3, 0), (60017, mX5_add, 3, 0), (60018, mX4_read, 0, 0), (60022, mX5_read, 0, 0), (60023, mX4_prefer, 2, 0), (60027, mX5_prefer, 2, 0), (60028, mX4_post, 2, 0), (60031, mX5_post, 2, 0), (60032, mX4_release, 1, 0), (60036, mX5_release, 1, 0), (60037, mX4_step, 1, 0), (60040, mX5_step, 1, 0), (60041, mX4_run, 0, 0), (60044, mX5_run, 0, 0), (60045, mX4_of, 2, 0), (60048, mX5_of, 2, 0), (60049, mX4_command, 3, 0), (60052, mX5_command, 3, 0), (60053, mX4_inbox, 2, 0), (60056, mX5_inbox, 2, 0), (60057, mX4_holder, 1, 0), (60060, mX5_holder, 1, 0), (60061, mX4_count, 1, 0), (60064, mX5_count, 1, 0), (60065, mX4_slotsLeft, 0, 0), (60068, mX5_slotsLeft, 0, 0), (60069, mX4_leftIf, 3, 0), (60072, mX5_leftIf, 3, 0), (60073, mX4_sumBehind, 2, 0), (60076, mX5_sumBehind, 2, 0), (60079, mX4_put, 1, 0), (60083, mX5_put, 1, 0), (60084, mX4_wipe, 0, 0), (60087, mX5_wipe, 0, 0), (60088, mX4_fault, 0, 0), (60091, mX5_fault, 0, 0), (60092, mX4_undo, 0, 0), (60095, mX5_undo, 0, 0), (60096, mX4_save, 1, 0), (60099, mX5_save, 1, 0), (60100, mX4_restore, 1, 0), (60103, mX5_restore, 1, 0), (70335, mJ0_coder_7d493, 0, 0), (70492, mJ0_isLatin1_aae02, 0, 0), (70505, mJ0_length_8abf5, 0, 0), (70633, mJ0_indexOf_7cf53, 2, 0), (70637, mJ1_indexOf_4cfef, 4, 1), (80038, mJ9_min_7cf53, 2, 1), (80088, mJ1_canEncode_9a6ad, 1, 1), (80092, mJ9_max_7cf53, 2, 1), (80095, mJ1_indexOfChar_4cfef, 4, 1)]
def xIt : List (Nat × Int32) := [(40107, 100000), (40112, 99000), (50119, 100000), (50124, 99000), (100265, 1431655765), (100266, 858993459), (100267, 252645135)]
def xJt : List (Nat × Int64) := [(30022, 255), (50153, 255), (60077, 4294967295)]
def xKt : List (Nat × Nat) := [(10009, 2), (20009, 0), (40007, 2), (40019, 1), (40034, 3), (60007, 4), (60010, 5)]
def xAt : List Nat := [24, 20029]
def xOt : List Nat := [40001, 20003, 3, 10003, 30003, 50001]
def xStrKey : Nat := 30053
end
section
def xown (m : xM) : Nat := m.2.2.2.2.1
def xht (m : xM) : Nat := m.2.2.2.2.2
def xkey (m : xM) (x : Nat) : Nat := xown m * 10000 + x
/-- the kind of a class's objects, by the class's number -/
def xkdo (o : Nat) : Nat := if o = 7 then 13 else o + 1
def xcall (m y : xM) (n : Nat) (as rest st : List Value) : Option xStep :=
  if n ≤ st.length ∧ xcat rest ≤ 8 ∧ xht y < xht m ∧ (xargs as).length ≤ y.2.2.1 then some (.inr (.inr (y, as, rest))) else none
def xdo (E : Nat × Nat × Nat) (m : xM) (i : Instr) (k pc : Nat) (ls : List (Option Value)) (st : List Value) (S : xSh) (V : xV) : Option xStep :=
  match i with
  | .iconst n => if k = 1 then xgo (pc + 1) ls (.int (Int32.ofInt n) :: st) S V else none
  | .bipush n => if k = 2 then xgo (pc + 2) ls (.int (Int8.ofInt n).toInt32 :: st) S V else none
  | .sipush n => if k = 3 then xgo (pc + 3) ls (.int (Int16.ofInt n).toInt32 :: st) S V else none
  | .lconst n => if k = 1 then xgo (pc + 1) ls (.long (Int64.ofNat (n : Nat)) :: st) S V else none
  | .ldc x => if k = 2 then (match xassoc xIt (xkey m x) with
      | some v => xgo (pc + 2) ls (.int v :: st) S V
      | none => if xkey m x = xStrKey then xgo (pc + 2) ls (.ref E.2.2 :: st) S V else none) else none
  | .ldc_w x => if k = 3 then (match xassoc xIt (xkey m x) with
      | some v => xgo (pc + 3) ls (.int v :: st) S V
      | none => none) else none
  | .ldc2_w x => if k = 3 then (match xassoc xJt (xkey m x) with
      | some v => xgo (pc + 3) ls (.long v :: st) S V
      | none => none) else none
  | .iload_n j => if k = 1 then (match xlocAt ls (j : Nat) with
      | some (.int x) => xgo (pc + 1) ls (.int x :: st) S V
      | _ => none) else none
  | .iload j => if k = 2 then (match xlocAt ls j with
      | some (.int x) => xgo (pc + 2) ls (.int x :: st) S V
      | _ => none) else none
  | .lload_n j => if k = 1 then (match xlocAt ls (j : Nat) with
      | some (.long x) => xgo (pc + 1) ls (.long x :: st) S V
      | _ => none) else none
  | .lload j => if k = 2 then (match xlocAt ls j with
      | some (.long x) => xgo (pc + 2) ls (.long x :: st) S V
      | _ => none) else none
  | .aload_n j => if k = 1 then (match xlocAt ls (j : Nat) with
      | some (.ref x) => xgo (pc + 1) ls (.ref x :: st) S V
      | _ => none) else none
  | .aload j => if k = 2 then (match xlocAt ls j with
      | some (.ref x) => xgo (pc + 2) ls (.ref x :: st) S V
      | _ => none) else none
  | .istore_n j => if k = 1 then (match st with
      | .int x :: st => if (j : Nat) < ls.length then xgo (pc + 1) (xst1 ls (j : Nat) (.int x)) st S V else none
      | _ => none) else none
  | .istore j => if k = 2 then (match st with
      | .int x :: st => if j < ls.length then xgo (pc + 2) (xst1 ls j (.int x)) st S V else none
      | _ => none) else none
  | .lstore_n j => if k = 1 then (match st with
      | .long x :: st => if (j : Nat) + 1 < ls.length then xgo (pc + 1) (xst2 ls (j : Nat) (.long x)) st S V else none
      | _ => none) else none
  | .lstore j => if k = 2 then (match st with
      | .long x :: st => if j + 1 < ls.length then xgo (pc + 2) (xst2 ls j (.long x)) st S V else none
      | _ => none) else none
  | .astore_n j => if k = 1 then (match st with
      | .ref x :: st => if (j : Nat) < ls.length then xgo (pc + 1) (xst1 ls (j : Nat) (.ref x)) st S V else none
      | _ => none) else none
  | .astore j => if k = 2 then (match st with
      | .ref x :: st => if j < ls.length then xgo (pc + 2) (xst1 ls j (.ref x)) st S V else none
      | _ => none) else none
  | .iinc j n => if k = 3 then (match xlocAt ls j with
      | some (.int x) => if j < ls.length then xgo (pc + 3) (xst1 ls j (.int (x + Int32.ofInt n))) st S V else none
      | _ => none) else none
  | .iadd => if k = 1 then (match st with
      | .int y :: .int x :: st => xgo (pc + 1) ls (.int (x + y) :: st) S V
      | _ => none) else none
  | .isub => if k = 1 then (match st with
      | .int y :: .int x :: st => xgo (pc + 1) ls (.int (x - y) :: st) S V
      | _ => none) else none
  | .imul => if k = 1 then (match st with
      | .int y :: .int x :: st => xgo (pc + 1) ls (.int (x * y) :: st) S V
      | _ => none) else none
  | .iand => if k = 1 then (match st with
      | .int y :: .int x :: st => xgo (pc + 1) ls (.int (x &&& y) :: st) S V
      | _ => none) else none
  | .ior => if k = 1 then (match st with
      | .int y :: .int x :: st => xgo (pc + 1) ls (.int (x ||| y) :: st) S V
      | _ => none) else none
  | .ixor => if k = 1 then (match st with
      | .int y :: .int x :: st => xgo (pc + 1) ls (.int (x ^^^ y) :: st) S V
      | _ => none) else none
  | .ishl => if k = 1 then (match st with
      | .int y :: .int x :: st => xgo (pc + 1) ls (.int (x <<< (y &&& 31)) :: st) S V
      | _ => none) else none
  | .ishr => if k = 1 then (match st with
      | .int y :: .int x :: st => xgo (pc + 1) ls (.int (x >>> (y &&& 31)) :: st) S V
      | _ => none) else none
  | .iushr => if k = 1 then (match st with
      | .int y :: .int x :: st => xgo (pc + 1) ls (.int (x.toUInt32 >>> (y.toUInt32 &&& Int32.toUInt32 31)).toInt32 :: st) S V
      | _ => none) else none
  | .irem => if k = 1 then (match st with
      | .int y :: .int x :: st => if y = 0 then none else xgo (pc + 1) ls (.int (x - x / y * y) :: st) S V
      | _ => none) else none
  | .land => if k = 1 then (match st with
      | .long y :: .long x :: st => xgo (pc + 1) ls (.long (x &&& y) :: st) S V
      | _ => none) else none
  | .lor => if k = 1 then (match st with
      | .long y :: .long x :: st => xgo (pc + 1) ls (.long (x ||| y) :: st) S V
      | _ => none) else none
  | .lshl => if k = 1 then (match st with
      | .int y :: .long x :: st => xgo (pc + 1) ls (.long (x <<< (y.toInt64 &&& 63)) :: st) S V
      | _ => none) else none
  | .lushr => if k = 1 then (match st with
      | .int y :: .long x :: st => xgo (pc + 1) ls (.long (x.toUInt64 >>> (y.toInt64.toUInt64 &&& Int64.toUInt64 63)).toInt64 :: st) S V
      | _ => none) else none
  | .lcmp => if k = 1 then (match st with
      | .long y :: .long x :: st => xgo (pc + 1) ls (.int (lg_cmp x y) :: st) S V
      | _ => none) else none
  | .i2l => if k = 1 then (match st with
      | .int x :: st => xgo (pc + 1) ls (.long x.toInt64 :: st) S V
      | _ => none) else none
  | .l2i => if k = 1 then (match st with
      | .long x :: st => xgo (pc + 1) ls (.int x.toInt32 :: st) S V
      | _ => none) else none
  | .i2c => if k = 1 then (match st with
      | .int x :: st => xgo (pc + 1) ls (.int (x.toUInt32 % 65536).toInt32 :: st) S V
      | _ => none) else none
  | .i2b => if k = 1 then (match st with
      | .int x :: st => xgo (pc + 1) ls (.int x.toInt8.toInt32 :: st) S V
      | _ => none) else none
  | .dup => if k = 1 then (match st with
      | v :: st => if v.category = 1 then xgo (pc + 1) ls (v :: v :: st) S V else none
      | _ => none) else none
  | .dup2 => if k = 1 then (match st with
      | v :: w :: st => if v.category = 1 ∧ w.category = 1 then xgo (pc + 1) ls (v :: w :: v :: w :: st) S V else none
      | _ => none) else none
  | .pop => if k = 1 then (match st with
      | v :: st => if v.category = 1 then xgo (pc + 1) ls st S V else none
      | _ => none) else none
  | .ifCond c off => if k = 3 then (match st with
      | .int x :: st => if xcb c x 0 = true then xoff pc off ls st S V else xgo (pc + 3) ls st S V
      | _ => none) else none
  | .if_icmp c off => if k = 3 then (match st with
      | .int y :: .int x :: st => if xcb c x y = true then xoff pc off ls st S V else xgo (pc + 3) ls st S V
      | _ => none) else none
  | .goto off => if k = 3 then xoff pc off ls st S V else none
  | .tableswitch d lo hi offs => match st with
      | .int x :: st => if x.toInt < lo ∨ hi < x.toInt then xoff pc d ls st S V else (match offs[(x.toInt - lo).toNat]? with
        | some off => xoff pc off ls st S V
        | none => none)
      | _ => none
  | .lookupswitch d ps => match st with
      | .int x :: st => if (ps.toList.zip (ps.toList.drop 1)).all (fun (a, next) => a.1 < next.1) = true then xoff pc (Op.lookupswitch.offset ps.toList d x.toInt) ls st S V else none
      | _ => none
  | .getfield x => if k = 3 then (match st with
      | .ref a :: st => (match xassoc xFt (xkey m x) with
        | some (kd, j) => if xkd S a = kd then xgo (pc + 3) ls ((if xisR kd j = true then va_rf (xrf S a j) else .int (V a j)) :: st) S V else none
        | none => none)
      | _ => none) else none
  | .putfield x => if k = 3 then (match xassoc xFt (xkey m x) with
      | some (kd, j) => (match st with
        | .int v :: .ref a :: st => if xkd S a = kd ∧ kd ≤ 6 ∧ xisR kd j = false ∧ (xisZ kd j = true → v = 0 ∨ v = 1) then xgo (pc + 3) ls st S (xup V a j v) else none
        | .ref v :: .ref a :: st => if xkd S a = kd ∧ kd ≤ 6 ∧ xisR kd j = true ∧ m.1.name = "<init>" ∧ xown m + 1 = kd then xgo (pc + 3) ls st (xsetr S a j (some v)) V else none
        | _ => none)
      | none => none) else none
  | .getstatic x => if k = 3 then (match xassoc xSt (xkey m x) with
      | some 0 => xgo (pc + 3) ls (.ref E.1 :: st) S V
      | some 1 => xgo (pc + 3) ls (.ref E.2.1 :: st) S V
      | some 2 => xgo (pc + 3) ls (.int 1 :: st) S V
      | _ => none) else none
  | .iaload => if k = 1 then (match st with
      | .int j :: .ref a :: st => if (xkd S a = 7 ∨ xkd S a = 14) ∧ ¬ (j < 0 ∨ xln S a ≤ j.toNatClampNeg) then xgo (pc + 1) ls (.int (V a j.toNatClampNeg) :: st) S V else none
      | _ => none) else none
  | .baload => if k = 1 then (match st with
      | .int j :: .ref a :: st => if (xkd S a = 9 ∨ xkd S a = 12) ∧ ¬ (j < 0 ∨ xln S a ≤ j.toNatClampNeg) then xgo (pc + 1) ls (.int (V a j.toNatClampNeg) :: st) S V else none
      | _ => none) else none
  | .caload => if k = 1 then (match st with
      | .int j :: .ref a :: st => if xkd S a = 8 ∧ ¬ (j < 0 ∨ xln S a ≤ j.toNatClampNeg) then xgo (pc + 1) ls (.int (V a j.toNatClampNeg) :: st) S V else none
      | _ => none) else none
  | .aaload => if k = 1 then (match st with
      | .int j :: .ref a :: st => if (xkd S a = 10 ∨ xkd S a = 11) ∧ ¬ (j < 0 ∨ xln S a ≤ j.toNatClampNeg) then xgo (pc + 1) ls (va_rf (xrf S a j.toNatClampNeg) :: st) S V else none
      | _ => none) else none
  | .iastore => if k = 1 then (match st with
      | .int v :: .int j :: .ref a :: st => if xkd S a = 7 ∧ ¬ (j < 0 ∨ xln S a ≤ j.toNatClampNeg) then xgo (pc + 1) ls st S (xup V a j.toNatClampNeg v) else none
      | _ => none) else none
  | .bastore => if k = 1 then (match st with
      | .int v :: .int j :: .ref a :: st => if xkd S a = 9 ∧ ¬ (j < 0 ∨ xln S a ≤ j.toNatClampNeg) then xgo (pc + 1) ls st S (xup V a j.toNatClampNeg (vp_nar .boolean v)) else none
      | _ => none) else none
  | .castore => if k = 1 then (match st with
      | .int v :: .int j :: .ref a :: st => if xkd S a = 8 ∧ ¬ (j < 0 ∨ xln S a ≤ j.toNatClampNeg) then xgo (pc + 1) ls st S (xup V a j.toNatClampNeg (vp_nar .char v)) else none
      | _ => none) else none
  | .aastore => if k = 1 then (match st with
      | .ref v :: .int j :: .ref a :: st => if ((xkd S a = 10 ∧ xkd S v = 1) ∨ (xkd S a = 11 ∧ xkd S v = 3)) ∧ ¬ (j < 0 ∨ xln S a ≤ j.toNatClampNeg) then xgo (pc + 1) ls st (xsetr S a j.toNatClampNeg (some v)) V else none
      | _ => none) else none
  | .arraylength => if k = 1 then (match st with
      | .ref a :: st => if (7 ≤ xkd S a ∧ xkd S a ≤ 12) ∨ xkd S a = 14 then xgo (pc + 1) ls (.int (Int32.ofNat (xln S a)) :: st) S V else none
      | _ => none) else none
  | .newarray t => if k = 2 then (match st with
      | .int n :: st => if n < 0 then none else if n.toNatClampNeg ≤ 10000 then (match t with
        | .int => xgo (pc + 2) ls (.ref S.2.1 :: st) (xnew S 7 n.toNatClampNeg n.toNatClampNeg) (xrow V S.2.1 (fun _ => 0))
        | .char => xgo (pc + 2) ls (.ref S.2.1 :: st) (xnew S 8 n.toNatClampNeg n.toNatClampNeg) (xrow V S.2.1 (fun _ => 0))
        | .boolean => xgo (pc + 2) ls (.ref S.2.1 :: st) (xnew S 9 n.toNatClampNeg n.toNatClampNeg) (xrow V S.2.1 (fun _ => 0))
        | _ => none) else none
      | _ => none) else none
  | .anewarray x => if k = 3 then (match st with
      | .int n :: st => if n < 0 then none else if n.toNatClampNeg ≤ 10000 then (match xassoc xKt (xkey m x) with
        | some 0 => xgo (pc + 3) ls (.ref S.2.1 :: st) (xnew S 10 n.toNatClampNeg n.toNatClampNeg) (xrow V S.2.1 (fun _ => 0))
        | some 2 => xgo (pc + 3) ls (.ref S.2.1 :: st) (xnew S 11 n.toNatClampNeg n.toNatClampNeg) (xrow V S.2.1 (fun _ => 0))
        | _ => none) else none
      | _ => none) else none
  | .new x => if k = 3 then (match xassoc xKt (xkey m x) with
      | some ci => xgo (pc + 3) ls (.ref S.2.1 :: st) (xnew S (ci + 1) 0 (xN (ci + 1))) (xrow V S.2.1 (fun _ => 0))
      | none => none) else none
  | .ireturn => if k = 1 then (match st with
      | [.int v] => (match m.2.2.2.1 with
        | some ty => if narrow ty (.int v) = .int v then some (.inr (.inl (some (.int v)))) else none
        | none => none)
      | _ => none) else none
  | .areturn => if k = 1 then (match st with
      | [.ref a] => (match m.2.2.2.1 with
        | some (.object _) => some (.inr (.inl (some (.ref a))))
        | some (.array _) => some (.inr (.inl (some (.ref a))))
        | _ => none)
      | _ => none) else none
  | .return_ => if k = 1 then (match st with
      | [] => (match m.2.2.2.1 with
        | none => some (.inr (.inl none))
        | some _ => none)
      | _ => none) else none
  | .invokevirtual x => if k = 3 then (match xassoc xCt (xkey m x) with
      | some (y, n, 0) => (match st.drop n with
        | .ref b :: rest => if xkd S b = xkdo (xown y) then xcall m y n (.ref b :: (st.take n).reverse) rest st else none
        | _ => none)
      | _ => none) else none
  | .invokestatic x => if k = 3 then (match xassoc xCt (xkey m x) with
      | some (y, n, 1) => xcall m y n (st.take n).reverse (st.drop n) st
      | some (y, n, 3) => xcall m y n (st.take n).reverse (st.drop n) st
      | some _ => none
      | none => if xkey m x ∈ xAt then (match st with
        | .int n :: .int dp :: .ref a :: .int sp :: .ref a0 :: st => if xkd S a0 = 7 ∧ xkd S a = 7 ∧ (¬ sp < 0 ∧ ¬ dp < 0 ∧ ¬ n < 0) ∧ sp.toNatClampNeg + n.toNatClampNeg ≤ xln S a0 ∧ dp.toNatClampNeg + n.toNatClampNeg ≤ xln S a ∧ xcat st ≤ 8 ∧ 0 < xht m then
            xgo (pc + 3) ls st S (xrow V a (va_cpy (V a0) (V a) sp.toNatClampNeg dp.toNatClampNeg n.toNatClampNeg)) else none
        | _ => none) else none) else none
  | .invokespecial x => if k = 3 then (match xassoc xCt (xkey m x) with
      | some (y, n, 2) => (match st.drop n with
        | .ref b :: rest => xcall m y n (.ref b :: (st.take n).reverse) rest st
        | _ => none)
      | some (y, n, 4) => (match st.drop n with
        | .ref b :: rest => xcall m y n (.ref b :: (st.take n).reverse) rest st
        | _ => none)
      | some _ => none
      | none => if xkey m x ∈ xOt then (match st with
        | .ref b :: st => if xcat st ≤ 8 ∧ 0 < xht m then xgo (pc + 3) ls st S V else none
        | _ => none) else none) else none
  | _ => none
def xstep (E : Nat × Nat × Nat) (m : xM) (pc : Nat) (ls : List (Option Value)) (st : List Value) (S : xSh) (V : xV) : Option xStep := match decode m.2.1 pc with
  | .ok (i, k) => xdo E m i k pc ls st S V
  | .error _ => none
def xrun (E : Nat × Nat × Nat) : Nat → xM → Nat → List (Option Value) → List Value → xSh → xV → Option (Option Value × xSh × xV)
  | 0, _, _, _, _, _, _ => none
  | n + 1, m, pc, ls, st, S, V => match xstep E m pc ls st S V with
    | none => none
    | some (.inl q) => xrun E n m q.1 q.2.1 q.2.2.1 q.2.2.2.1 q.2.2.2.2
    | some (.inr (.inl v)) => some (v, S, V)
    | some (.inr (.inr q)) => match xrun E n q.1 0 (xlocs q.1.2.2.1 q.2.1) [] S V with
      | none => none
      | some r => xrun E n m (pc + 3) ls (r.1.toList ++ q.2.2) r.2.1 r.2.2
theorem xrun_mono (E : Nat × Nat × Nat) : ∀ (n : Nat) {m : xM} {pc : Nat} {ls : List (Option Value)} {st : List Value} {S : xSh} {V : xV} {r : Option Value × xSh × xV}, xrun E n m pc ls st S V = some r → xrun E (n + 1) m pc ls st S V = some r := by
  intro n
  induction n with
  | zero => intro m pc ls st S V r h; cases h
  | succ n ih =>
    intro m pc ls st S V r h
    rw [xrun] at h ⊢
    cases hs : xstep E m pc ls st S V with
    | none => rw [hs] at h; cases h
    | some q =>
      rw [hs] at h
      obtain q | v | q := q
      · exact ih h
      · exact h
      · dsimp only at h ⊢
        cases hc : xrun E n q.1 0 (xlocs q.1.2.2.1 q.2.1) [] S V with
        | none => rw [hc] at h; cases h
        | some r1 =>
          rw [hc] at h
          rw [ih hc]
          exact ih h
theorem xrun_le (E : Nat × Nat × Nat) {n n' : Nat} (hn : n ≤ n') {m : xM} {pc : Nat} {ls : List (Option Value)} {st : List Value} {S : xSh} {V : xV} {r : Option Value × xSh × xV} (h : xrun E n m pc ls st S V = some r) : xrun E n' m pc ls st S V = some r := by
  induction hn with
  | refl => exact h
  | step _ ih => exact xrun_mono E _ ih
/-- from here the method comes to a return with Q -/
def xX (E : Nat × Nat × Nat) (m : xM) (pc : Nat) (ls : List (Option Value)) (st : List Value) (S : xSh) (V : xV) (Q : Option Value → xSh → xV → Prop) : Prop :=
  ∃ (n : Nat) (r : Option Value × xSh × xV), xrun E n m pc ls st S V = some r ∧ Q r.1 r.2.1 r.2.2
/-- a call of a method -/
def xC (E : Nat × Nat × Nat) (m : xM) (as : List Value) (S : xSh) (V : xV) (Q : Option Value → xSh → xV → Prop) : Prop := xX E m 0 (xlocs m.2.2.1 as) [] S V Q
theorem xX_next {E : Nat × Nat × Nat} {m : xM} {pc pc' : Nat} {ls ls' : List (Option Value)} {st st' : List Value} {S S' : xSh} {V V' : xV} {Q : Option Value → xSh → xV → Prop} (h : xstep E m pc ls st S V = some (.inl (pc', ls', st', S', V'))) :
    xX E m pc ls st S V Q ↔ xX E m pc' ls' st' S' V' Q := by
  constructor
  · rintro ⟨n, r, h1, h2⟩
    cases n with
    | zero => cases h1
    | succ n =>
      rw [xrun, h] at h1
      exact ⟨n, r, h1, h2⟩
  · rintro ⟨n, r, h1, h2⟩
    exact ⟨n + 1, r, by rw [xrun, h]; exact h1, h2⟩
theorem xX_ret {E : Nat × Nat × Nat} {m : xM} {pc : Nat} {ls : List (Option Value)} {st : List Value} {S : xSh} {V : xV} {Q : Option Value → xSh → xV → Prop} {v : Option Value} (h : xstep E m pc ls st S V = some (.inr (.inl v))) :
    xX E m pc ls st S V Q ↔ Q v S V := by
  constructor
  · rintro ⟨n, r, h1, h2⟩
    cases n with
    | zero => cases h1
    | succ n =>
      rw [xrun, h] at h1
      cases h1
      exact h2
  · intro h2
    exact ⟨1, (v, S, V), by rw [xrun, h], h2⟩
theorem xX_call {E : Nat × Nat × Nat} {m : xM} {pc : Nat} {ls : List (Option Value)} {st : List Value} {S : xSh} {V : xV} {Q : Option Value → xSh → xV → Prop} {y : xM} {as rest : List Value} (h : xstep E m pc ls st S V = some (.inr (.inr (y, as, rest)))) :
    xX E m pc ls st S V Q ↔ xC E y as S V (fun v S' V' => xX E m (pc + 3) ls (v.toList ++ rest) S' V' Q) := by
  constructor
  · rintro ⟨n, r, h1, h2⟩
    cases n with
    | zero => cases h1
    | succ n =>
      rw [xrun, h] at h1
      dsimp only at h1
      cases hc : xrun E n y 0 (xlocs y.2.2.1 as) [] S V with
      | none => rw [hc] at h1; cases h1
      | some r1 =>
        rw [hc] at h1
        exact ⟨n, r1, hc, n, r, h1, h2⟩
  · rintro ⟨n1, r1, hc, n2, r, h1, h2⟩
    refine ⟨max n1 n2 + 1, r, ?_, h2⟩
    rw [xrun, h]
    dsimp only
    rw [xrun_le E (Nat.le_max_left n1 n2) hc]
    exact xrun_le E (Nat.le_max_right n1 n2) h1
theorem xX_mono {E : Nat × Nat × Nat} {m : xM} {pc : Nat} {ls : List (Option Value)} {st : List Value} {S : xSh} {V : xV} {Q Q' : Option Value → xSh → xV → Prop} (h : xX E m pc ls st S V Q) (hq : ∀ v S' V', Q v S' V' → Q' v S' V') : xX E m pc ls st S V Q' := by
  obtain ⟨n, r, h1, h2⟩ := h
  exact ⟨n, r, h1, hq _ _ _ h2⟩
end
