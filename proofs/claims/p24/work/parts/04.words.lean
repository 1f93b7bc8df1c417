/-! ===== the printed words behind the tables, by program ===== -/
def xws0 : List Cond := lw_tbl.filter goodWord
theorem xws0_of {i : Nat} {w : Cond} (h : lw_tbl[i]? = some w) (hg : goodWord w = true) : w ∈ xws0 := List.mem_filter.mpr ⟨List.mem_of_getElem? h, hg⟩
theorem xws0_good : GoodIn xws0 xws0 := fun w hw => ⟨hw, good_of_word (List.mem_filter.mp hw).2⟩
def xwsOf (y : xM) : List Cond := Cond.code y.1 y.2.1 y.2.2.1 y.2.2.2.1 :: xws0
/-- links of nest mates, which are no words of a method's list -/
def xNw : List Cond := [.methodLinkNest (xcn 2) 24 yX0_init "TurnSlots", .methodLinkNest (xcn 4) 36 yX3_init "TurnSlots", .methodLinkNest (xcn 2) 67 yX4_has "TurnSlots", .methodLinkNest (xcn 0) 65 yX4_has "TurnSlots"]
theorem xNw_tbl : ∀ w ∈ xNw, w ∈ lw_tbl := List.forall_mem_cons.mpr ⟨List.mem_of_getElem? (i := 32) (by decide +kernel), List.forall_mem_cons.mpr ⟨List.mem_of_getElem? (i := 137) (by decide +kernel), List.forall_mem_cons.mpr ⟨List.mem_of_getElem? (i := 215) (by decide +kernel), List.forall_mem_cons.mpr ⟨List.mem_of_getElem? (i := 266) (by decide +kernel), fun _ h => absurd h List.not_mem_nil⟩⟩⟩⟩
theorem xNw_kind : ∀ w ∈ xNw, (∃ a i x h, w = .methodLinkNest a i x h) ∨ (∃ a i b n d h, w = .fieldLinkNest a i b n d h) := List.forall_mem_cons.mpr ⟨Or.inl ⟨_, _, _, _, rfl⟩, List.forall_mem_cons.mpr ⟨Or.inl ⟨_, _, _, _, rfl⟩, List.forall_mem_cons.mpr ⟨Or.inl ⟨_, _, _, _, rfl⟩, List.forall_mem_cons.mpr ⟨Or.inl ⟨_, _, _, _, rfl⟩, fun _ h => absurd h List.not_mem_nil⟩⟩⟩⟩
def xFok (e : (Nat × Nat) × (Nat × Nat)) : Prop := ((1 ≤ e.2.1 ∧ e.2.1 ≤ 5)) ∧ e.2.2 < xN e.2.1 ∧ Cond.fieldLink (xcn e.1.1) e.1.2 (xT e.2.1 e.2.2).1 (xT e.2.1 e.2.2).2.1 (xT e.2.1 e.2.2).2.2.1 ∈ xws0
theorem xFt_ok_0 : xFok (((0, 9), (1, 0))) := ⟨by decide, by decide, xws0_of (i := 36) (by decide +kernel) rfl⟩
theorem xFt_ok_1 : xFok (((0, 15), (1, 1))) := ⟨by decide, by decide, xws0_of (i := 39) (by decide +kernel) rfl⟩
theorem xFt_ok_2 : xFok (((0, 18), (1, 2))) := ⟨by decide, by decide, xws0_of (i := 42) (by decide +kernel) rfl⟩
theorem xFt_ok_3 : xFok (((0, 21), (1, 3))) := ⟨by decide, by decide, xws0_of (i := 44) (by decide +kernel) rfl⟩
theorem xFt_ok_4 : xFok (((0, 30), (1, 4))) := ⟨by decide, by decide, xws0_of (i := 48) (by decide +kernel) rfl⟩
theorem xFt_ok_5 : xFok (((0, 34), (1, 5))) := ⟨by decide, by decide, xws0_of (i := 50) (by decide +kernel) rfl⟩
theorem xFt_ok_6 : xFok (((0, 37), (1, 6))) := ⟨by decide, by decide, xws0_of (i := 52) (by decide +kernel) rfl⟩
theorem xFt_ok_7 : xFok (((0, 40), (1, 7))) := ⟨by decide, by decide, xws0_of (i := 55) (by decide +kernel) rfl⟩
theorem xFt_ok_8 : xFok (((0, 43), (1, 8))) := ⟨by decide, by decide, xws0_of (i := 58) (by decide +kernel) rfl⟩
theorem xFt_ok_9 : xFok (((0, 46), (1, 9))) := ⟨by decide, by decide, xws0_of (i := 61) (by decide +kernel) rfl⟩
theorem xFt_ok_10 : xFok (((0, 49), (1, 10))) := ⟨by decide, by decide, xws0_of (i := 64) (by decide +kernel) rfl⟩
theorem xFt_ok_11 : xFok (((1, 11), (2, 0))) := ⟨by decide, by decide, xws0_of (i := 124) (by decide +kernel) rfl⟩
theorem xFt_ok_12 : xFok (((1, 18), (2, 1))) := ⟨by decide, by decide, xws0_of (i := 125) (by decide +kernel) rfl⟩
theorem xFt_ok_13 : xFok (((1, 22), (2, 2))) := ⟨by decide, by decide, xws0_of (i := 126) (by decide +kernel) rfl⟩
theorem xFt_ok_14 : xFok (((2, 11), (3, 0))) := ⟨by decide, by decide, xws0_of (i := 91) (by decide +kernel) rfl⟩
theorem xFt_ok_15 : xFok (((2, 17), (3, 1))) := ⟨by decide, by decide, xws0_of (i := 93) (by decide +kernel) rfl⟩
theorem xFt_ok_16 : xFok (((2, 21), (3, 2))) := ⟨by decide, by decide, xws0_of (i := 95) (by decide +kernel) rfl⟩
theorem xFt_ok_17 : xFok (((2, 35), (3, 3))) := ⟨by decide, by decide, xws0_of (i := 96) (by decide +kernel) rfl⟩
theorem xFt_ok_18 : xFok (((2, 39), (3, 4))) := ⟨by decide, by decide, xws0_of (i := 98) (by decide +kernel) rfl⟩
theorem xFt_ok_19 : xFok (((2, 42), (3, 5))) := ⟨by decide, by decide, xws0_of (i := 100) (by decide +kernel) rfl⟩
theorem xFt_ok_20 : xFok (((2, 45), (1, 6))) := ⟨by decide, by decide, xws0_of (i := 53) (by decide +kernel) rfl⟩
theorem xFt_ok_21 : xFok (((2, 48), (1, 4))) := ⟨by decide, by decide, xws0_of (i := 49) (by decide +kernel) rfl⟩
theorem xFt_ok_22 : xFok (((2, 51), (1, 10))) := ⟨by decide, by decide, xws0_of (i := 65) (by decide +kernel) rfl⟩
theorem xFt_ok_23 : xFok (((2, 54), (1, 1))) := ⟨by decide, by decide, xws0_of (i := 40) (by decide +kernel) rfl⟩
theorem xFt_ok_24 : xFok (((2, 57), (1, 0))) := ⟨by decide, by decide, xws0_of (i := 37) (by decide +kernel) rfl⟩
theorem xFt_ok_25 : xFok (((2, 60), (1, 9))) := ⟨by decide, by decide, xws0_of (i := 62) (by decide +kernel) rfl⟩
theorem xFt_ok_26 : xFok (((2, 77), (1, 8))) := ⟨by decide, by decide, xws0_of (i := 60) (by decide +kernel) rfl⟩
theorem xFt_ok_27 : xFok (((2, 120), (1, 3))) := ⟨by decide, by decide, xws0_of (i := 46) (by decide +kernel) rfl⟩
theorem xFt_ok_28 : xFok (((2, 129), (1, 7))) := ⟨by decide, by decide, xws0_of (i := 57) (by decide +kernel) rfl⟩
theorem xFt_ok_29 : xFok (((3, 9), (4, 0))) := ⟨by decide, by decide, xws0_of (i := 141) (by decide +kernel) rfl⟩
theorem xFt_ok_30 : xFok (((3, 15), (4, 2))) := ⟨by decide, by decide, xws0_of (i := 143) (by decide +kernel) rfl⟩
theorem xFt_ok_31 : xFok (((3, 19), (4, 3))) := ⟨by decide, by decide, xws0_of (i := 144) (by decide +kernel) rfl⟩
theorem xFt_ok_32 : xFok (((4, 10), (5, 0))) := ⟨by decide, by decide, xws0_of (i := 162) (by decide +kernel) rfl⟩
theorem xFt_ok_33 : xFok (((4, 16), (5, 1))) := ⟨by decide, by decide, xws0_of (i := 163) (by decide +kernel) rfl⟩
theorem xFt_ok_34 : xFok (((4, 22), (5, 2))) := ⟨by decide, by decide, xws0_of (i := 164) (by decide +kernel) rfl⟩
theorem xFt_ok_35 : xFok (((4, 26), (5, 3))) := ⟨by decide, by decide, xws0_of (i := 165) (by decide +kernel) rfl⟩
theorem xFt_ok_36 : xFok (((4, 30), (5, 4))) := ⟨by decide, by decide, xws0_of (i := 166) (by decide +kernel) rfl⟩
theorem xFt_ok_37 : xFok (((4, 37), (5, 5))) := ⟨by decide, by decide, xws0_of (i := 167) (by decide +kernel) rfl⟩
theorem xFt_ok_38 : xFok (((4, 49), (3, 0))) := ⟨by decide, by decide, xws0_of (i := 92) (by decide +kernel) rfl⟩
theorem xFt_ok_39 : xFok (((4, 53), (1, 4))) := ⟨by decide, by decide, xws0_of (i := 47) (by decide +kernel) rfl⟩
theorem xFt_ok_40 : xFok (((4, 78), (4, 1))) := ⟨by decide, by decide, xws0_of (i := 142) (by decide +kernel) rfl⟩
theorem xFt_ok_41 : xFok (((4, 84), (1, 8))) := ⟨by decide, by decide, xws0_of (i := 59) (by decide +kernel) rfl⟩
theorem xFt_ok_42 : xFok (((4, 87), (1, 9))) := ⟨by decide, by decide, xws0_of (i := 63) (by decide +kernel) rfl⟩
theorem xFt_ok_43 : xFok (((4, 97), (3, 1))) := ⟨by decide, by decide, xws0_of (i := 94) (by decide +kernel) rfl⟩
theorem xFt_ok_44 : xFok (((4, 104), (3, 3))) := ⟨by decide, by decide, xws0_of (i := 97) (by decide +kernel) rfl⟩
theorem xFt_ok_45 : xFok (((4, 116), (1, 6))) := ⟨by decide, by decide, xws0_of (i := 54) (by decide +kernel) rfl⟩
theorem xFt_ok_46 : xFok (((4, 119), (1, 7))) := ⟨by decide, by decide, xws0_of (i := 56) (by decide +kernel) rfl⟩
theorem xFt_ok_47 : xFok (((4, 130), (1, 10))) := ⟨by decide, by decide, xws0_of (i := 66) (by decide +kernel) rfl⟩
theorem xFt_ok_48 : xFok (((4, 145), (1, 3))) := ⟨by decide, by decide, xws0_of (i := 45) (by decide +kernel) rfl⟩
theorem xFt_ok_49 : xFok (((4, 148), (1, 0))) := ⟨by decide, by decide, xws0_of (i := 38) (by decide +kernel) rfl⟩
theorem xFt_ok_50 : xFok (((4, 151), (1, 1))) := ⟨by decide, by decide, xws0_of (i := 41) (by decide +kernel) rfl⟩
theorem xFt_ok_51 : xFok (((4, 154), (1, 5))) := ⟨by decide, by decide, xws0_of (i := 51) (by decide +kernel) rfl⟩
theorem xFt_ok_52 : xFok (((4, 157), (1, 2))) := ⟨by decide, by decide, xws0_of (i := 43) (by decide +kernel) rfl⟩
theorem xFt_ok_53 : xFok (((4, 172), (3, 4))) := ⟨by decide, by decide, xws0_of (i := 99) (by decide +kernel) rfl⟩
theorem xFt_ok_54 : xFok (((4, 175), (3, 5))) := ⟨by decide, by decide, xws0_of (i := 101) (by decide +kernel) rfl⟩
theorem xFt_ok_55 : xFok (((4, 185), (2, 2))) := ⟨by decide, by decide, xws0_of (i := 127) (by decide +kernel) rfl⟩
set_option maxRecDepth 4000 in
theorem xFt_ok : ∀ e ∈ xFt, xFok e := List.forall_mem_cons.mpr ⟨xFt_ok_0, List.forall_mem_cons.mpr ⟨xFt_ok_1, List.forall_mem_cons.mpr ⟨xFt_ok_2, List.forall_mem_cons.mpr ⟨xFt_ok_3, List.forall_mem_cons.mpr ⟨xFt_ok_4, List.forall_mem_cons.mpr ⟨xFt_ok_5, List.forall_mem_cons.mpr ⟨xFt_ok_6, List.forall_mem_cons.mpr ⟨xFt_ok_7, List.forall_mem_cons.mpr ⟨xFt_ok_8, List.forall_mem_cons.mpr ⟨xFt_ok_9, List.forall_mem_cons.mpr ⟨xFt_ok_10, List.forall_mem_cons.mpr ⟨xFt_ok_11, List.forall_mem_cons.mpr ⟨xFt_ok_12, List.forall_mem_cons.mpr ⟨xFt_ok_13, List.forall_mem_cons.mpr ⟨xFt_ok_14, List.forall_mem_cons.mpr ⟨xFt_ok_15, List.forall_mem_cons.mpr ⟨xFt_ok_16, List.forall_mem_cons.mpr ⟨xFt_ok_17, List.forall_mem_cons.mpr ⟨xFt_ok_18, List.forall_mem_cons.mpr ⟨xFt_ok_19, List.forall_mem_cons.mpr ⟨xFt_ok_20, List.forall_mem_cons.mpr ⟨xFt_ok_21, List.forall_mem_cons.mpr ⟨xFt_ok_22, List.forall_mem_cons.mpr ⟨xFt_ok_23, List.forall_mem_cons.mpr ⟨xFt_ok_24, List.forall_mem_cons.mpr ⟨xFt_ok_25, List.forall_mem_cons.mpr ⟨xFt_ok_26, List.forall_mem_cons.mpr ⟨xFt_ok_27, List.forall_mem_cons.mpr ⟨xFt_ok_28, List.forall_mem_cons.mpr ⟨xFt_ok_29, List.forall_mem_cons.mpr ⟨xFt_ok_30, List.forall_mem_cons.mpr ⟨xFt_ok_31, List.forall_mem_cons.mpr ⟨xFt_ok_32, List.forall_mem_cons.mpr ⟨xFt_ok_33, List.forall_mem_cons.mpr ⟨xFt_ok_34, List.forall_mem_cons.mpr ⟨xFt_ok_35, List.forall_mem_cons.mpr ⟨xFt_ok_36, List.forall_mem_cons.mpr ⟨xFt_ok_37, List.forall_mem_cons.mpr ⟨xFt_ok_38, List.forall_mem_cons.mpr ⟨xFt_ok_39, List.forall_mem_cons.mpr ⟨xFt_ok_40, List.forall_mem_cons.mpr ⟨xFt_ok_41, List.forall_mem_cons.mpr ⟨xFt_ok_42, List.forall_mem_cons.mpr ⟨xFt_ok_43, List.forall_mem_cons.mpr ⟨xFt_ok_44, List.forall_mem_cons.mpr ⟨xFt_ok_45, List.forall_mem_cons.mpr ⟨xFt_ok_46, List.forall_mem_cons.mpr ⟨xFt_ok_47, List.forall_mem_cons.mpr ⟨xFt_ok_48, List.forall_mem_cons.mpr ⟨xFt_ok_49, List.forall_mem_cons.mpr ⟨xFt_ok_50, List.forall_mem_cons.mpr ⟨xFt_ok_51, List.forall_mem_cons.mpr ⟨xFt_ok_52, List.forall_mem_cons.mpr ⟨xFt_ok_53, List.forall_mem_cons.mpr ⟨xFt_ok_54, List.forall_mem_cons.mpr ⟨xFt_ok_55, fun _ h => absurd h List.not_mem_nil⟩⟩⟩⟩⟩⟩⟩⟩⟩⟩⟩⟩⟩⟩⟩⟩⟩⟩⟩⟩⟩⟩⟩⟩⟩⟩⟩⟩⟩⟩⟩⟩⟩⟩⟩⟩⟩⟩⟩⟩⟩⟩⟩⟩⟩⟩⟩⟩⟩⟩⟩⟩⟩⟩⟩⟩
def xSok (e : (Nat × Nat) × Nat) : Prop := (e.2 = 0 → Cond.fieldLink (xcn e.1.1) e.1.2 "TurnSlots" "LEAST_N" "[I" ∈ xws0 ∨ Cond.fieldLinkNest (xcn e.1.1) e.1.2 "TurnSlots" "LEAST_N" "[I" "TurnSlots" ∈ xNw) ∧ (e.2 = 1 → Cond.fieldLink (xcn e.1.1) e.1.2 "TurnSlots" "GREATEST_N" "[I" ∈ xws0 ∨ Cond.fieldLinkNest (xcn e.1.1) e.1.2 "TurnSlots" "GREATEST_N" "[I" "TurnSlots" ∈ xNw) ∧ (e.2 = 2 → Cond.fieldLink (xcn e.1.1) e.1.2 "java/lang/String" "COMPACT_STRINGS" "Z" ∈ xws0)
theorem xSt_ok_0 : xSok (((4, 207), 0)) := ⟨fun _ => Or.inl (xws0_of (i := 406) (by decide +kernel) rfl), fun h => absurd h (by decide), fun h => absurd h (by decide)⟩
theorem xSt_ok_1 : xSok (((4, 210), 1)) := ⟨fun h => absurd h (by decide), fun _ => Or.inl (xws0_of (i := 408) (by decide +kernel) rfl), fun h => absurd h (by decide)⟩
set_option maxRecDepth 4000 in
theorem xSt_ok : ∀ e ∈ xSt, xSok e := List.forall_mem_cons.mpr ⟨xSt_ok_0, List.forall_mem_cons.mpr ⟨xSt_ok_1, fun _ h => absurd h List.not_mem_nil⟩⟩
def xIok (e : (Nat × Nat) × Int32) : Prop := Cond.constant (xcn e.1.1) e.1.2 e.2 ∈ xws0
theorem xIt_ok_0 : xIok (((4, 107), 100000)) := xws0_of (i := 394) (by decide +kernel) rfl
theorem xIt_ok_1 : xIok (((4, 112), 99000)) := xws0_of (i := 386) (by decide +kernel) rfl
theorem xIt_ok_2 : xIok (((6, 7), 2147483647)) := xws0_of (i := 365) (by decide +kernel) rfl
theorem xIt_ok_3 : xIok (((10, 265), 1431655765)) := xws0_of (i := 196) (by decide +kernel) rfl
theorem xIt_ok_4 : xIok (((10, 266), 858993459)) := xws0_of (i := 197) (by decide +kernel) rfl
theorem xIt_ok_5 : xIok (((10, 267), 252645135)) := xws0_of (i := 198) (by decide +kernel) rfl
set_option maxRecDepth 4000 in
theorem xIt_ok : ∀ e ∈ xIt, xIok e := List.forall_mem_cons.mpr ⟨xIt_ok_0, List.forall_mem_cons.mpr ⟨xIt_ok_1, List.forall_mem_cons.mpr ⟨xIt_ok_2, List.forall_mem_cons.mpr ⟨xIt_ok_3, List.forall_mem_cons.mpr ⟨xIt_ok_4, List.forall_mem_cons.mpr ⟨xIt_ok_5, fun _ h => absurd h List.not_mem_nil⟩⟩⟩⟩⟩⟩
def xJok (e : (Nat × Nat) × Int64) : Prop := Cond.constantLong (xcn e.1.1) e.1.2 e.2 ∈ xws0
theorem xJt_ok_0 : xJok (((6, 8), 3)) := xws0_of (i := 330) (by decide +kernel) rfl
theorem xJt_ok_1 : xJok (((6, 10), 31)) := xws0_of (i := 331) (by decide +kernel) rfl
set_option maxRecDepth 4000 in
theorem xJt_ok : ∀ e ∈ xJt, xJok e := List.forall_mem_cons.mpr ⟨xJt_ok_0, List.forall_mem_cons.mpr ⟨xJt_ok_1, fun _ h => absurd h List.not_mem_nil⟩⟩
def xKok (e : (Nat × Nat) × Nat) : Prop := e.2 ≤ 4 ∧ Cond.classLink (xcn e.1.1) e.1.2 (xcn e.2) ∈ xws0
theorem xKt_ok_0 : xKok (((1, 9), 2)) := ⟨by decide, xws0_of (i := 121) (by decide +kernel) rfl⟩
theorem xKt_ok_1 : xKok (((2, 9), 0)) := ⟨by decide, xws0_of (i := 29) (by decide +kernel) rfl⟩
theorem xKt_ok_2 : xKok (((4, 7), 2)) := ⟨by decide, xws0_of (i := 23) (by decide +kernel) rfl⟩
theorem xKt_ok_3 : xKok (((4, 19), 1)) := ⟨by decide, xws0_of (i := 115) (by decide +kernel) rfl⟩
theorem xKt_ok_4 : xKok (((4, 34), 3)) := ⟨by decide, xws0_of (i := 135) (by decide +kernel) rfl⟩
theorem xKt_ok_5 : xKok (((6, 13), 4)) := ⟨by decide, xws0_of (i := 15) (by decide +kernel) rfl⟩
set_option maxRecDepth 4000 in
theorem xKt_ok : ∀ e ∈ xKt, xKok e := List.forall_mem_cons.mpr ⟨xKt_ok_0, List.forall_mem_cons.mpr ⟨xKt_ok_1, List.forall_mem_cons.mpr ⟨xKt_ok_2, List.forall_mem_cons.mpr ⟨xKt_ok_3, List.forall_mem_cons.mpr ⟨xKt_ok_4, List.forall_mem_cons.mpr ⟨xKt_ok_5, fun _ h => absurd h List.not_mem_nil⟩⟩⟩⟩⟩⟩
def xAok (e : Nat × Nat) : Prop := Cond.methodLink (xcn e.1) e.2 arraycopyName ∈ xws0
theorem xAt_ok_0 : xAok ((0, 24)) := xws0_of (i := 234) (by decide +kernel) rfl
theorem xAt_ok_1 : xAok ((2, 29)) := xws0_of (i := 237) (by decide +kernel) rfl
set_option maxRecDepth 4000 in
theorem xAt_ok : ∀ e ∈ xAt, xAok e := List.forall_mem_cons.mpr ⟨xAt_ok_0, List.forall_mem_cons.mpr ⟨xAt_ok_1, fun _ h => absurd h List.not_mem_nil⟩⟩
def xOok (e : Nat × Nat) : Prop := Cond.methodLink (xcn e.1) e.2 objectInit ∈ xws0
theorem xOt_ok_0 : xOok ((4, 1)) := xws0_of (i := 20) (by decide +kernel) rfl
theorem xOt_ok_1 : xOok ((2, 3)) := xws0_of (i := 28) (by decide +kernel) rfl
theorem xOt_ok_2 : xOok ((0, 3)) := xws0_of (i := 35) (by decide +kernel) rfl
theorem xOt_ok_3 : xOok ((1, 3)) := xws0_of (i := 120) (by decide +kernel) rfl
theorem xOt_ok_4 : xOok ((3, 3)) := xws0_of (i := 140) (by decide +kernel) rfl
set_option maxRecDepth 4000 in
theorem xOt_ok : ∀ e ∈ xOt, xOok e := List.forall_mem_cons.mpr ⟨xOt_ok_0, List.forall_mem_cons.mpr ⟨xOt_ok_1, List.forall_mem_cons.mpr ⟨xOt_ok_2, List.forall_mem_cons.mpr ⟨xOt_ok_3, List.forall_mem_cons.mpr ⟨xOt_ok_4, fun _ h => absurd h List.not_mem_nil⟩⟩⟩⟩⟩
def xXok (e : (Nat × Nat) × Nat) : Prop := (e.2 = 0 → Cond.methodLink (xcn e.1.1) e.1.2 Lib.Math.max.name ∈ xws0) ∧ (e.2 = 1 → Cond.methodLink (xcn e.1.1) e.1.2 Lib.Math.min.name ∈ xws0)
theorem xMt_ok_0 : xXok (((0, 69), 0)) := ⟨fun _ => xws0_of (i := 267) (by decide +kernel) rfl, fun h => absurd h (by decide)⟩
theorem xMt_ok_1 : xXok (((2, 80), 0)) := ⟨fun _ => xws0_of (i := 242) (by decide +kernel) rfl, fun h => absurd h (by decide)⟩
set_option maxRecDepth 4000 in
theorem xMt_ok : ∀ e ∈ xMt, xXok e := List.forall_mem_cons.mpr ⟨xMt_ok_0, List.forall_mem_cons.mpr ⟨xMt_ok_1, fun _ h => absurd h List.not_mem_nil⟩⟩
theorem xw_max_s : Cond.static Lib.Math.max.name ∈ xws0 := xws0_of (i := 243) (by decide +kernel) rfl
theorem xw_max_c : Cond.code Lib.Math.max.name Lib.Math.max.code 2 (some .int) ∈ xws0 := xws0_of (i := 244) (by decide +kernel) rfl
theorem xw_math : Cond.initialized "java/lang/Math" ∈ xws0 := xws0_of (i := 14) (by decide +kernel) rfl
theorem xw_acNative : Cond.native arraycopyName ∈ xws0 := xws0_of (i := 236) (by decide +kernel) rfl
theorem xw_acStatic : Cond.static arraycopyName ∈ xws0 := xws0_of (i := 235) (by decide +kernel) rfl
theorem xw_acInit : Cond.initialized "java/lang/System" ∈ xws0 := xws0_of (i := 13) (by decide +kernel) rfl
theorem xw_oiInst : Cond.instanceMethod objectInit ∈ xws0 := xws0_of (i := 21) (by decide +kernel) rfl
theorem xw_oiCode : Cond.code objectInit ⟨#[0xb1]⟩ 1 none ∈ xws0 := xws0_of (i := 22) (by decide +kernel) rfl
theorem xw_arr_int : Cond.arrayClass .int ∈ xws0 := xws0_of (i := 90) (by decide +kernel) rfl
theorem xw_arr_boolean : Cond.arrayClass .boolean ∈ xws0 := xws0_of (i := 160) (by decide +kernel) rfl
theorem xw_arr_char : Cond.arrayClass .char ∈ xws0 := xws0_of (i := 161) (by decide +kernel) rfl
theorem xw_inst_0 : Cond.instantiable (xcn 0) (xN 1) ∈ xws0 := xws0_of (i := 31) (by decide +kernel) rfl
theorem xw_ini_0 : Cond.initialized (xcn 0) ∈ xws0 := xws0_of (i := 9) (by decide +kernel) rfl
theorem xw_lay_0 : ∀ w ∈ u_ws (xcn 0) (xT 1) (xN 1), w ∈ xws0 := by
  show ∀ w ∈ [u_lay (xcn 0) (xT 1) 0, u_lay (xcn 0) (xT 1) 1, u_lay (xcn 0) (xT 1) 2, u_lay (xcn 0) (xT 1) 3, u_lay (xcn 0) (xT 1) 4, u_lay (xcn 0) (xT 1) 5, u_lay (xcn 0) (xT 1) 6, u_lay (xcn 0) (xT 1) 7, u_lay (xcn 0) (xT 1) 8, u_lay (xcn 0) (xT 1) 9, u_lay (xcn 0) (xT 1) 10], w ∈ xws0
  exact List.forall_mem_cons.mpr ⟨xws0_of (i := 67) (by decide +kernel) rfl, List.forall_mem_cons.mpr ⟨xws0_of (i := 69) (by decide +kernel) rfl, List.forall_mem_cons.mpr ⟨xws0_of (i := 71) (by decide +kernel) rfl, List.forall_mem_cons.mpr ⟨xws0_of (i := 73) (by decide +kernel) rfl, List.forall_mem_cons.mpr ⟨xws0_of (i := 75) (by decide +kernel) rfl, List.forall_mem_cons.mpr ⟨xws0_of (i := 77) (by decide +kernel) rfl, List.forall_mem_cons.mpr ⟨xws0_of (i := 79) (by decide +kernel) rfl, List.forall_mem_cons.mpr ⟨xws0_of (i := 81) (by decide +kernel) rfl, List.forall_mem_cons.mpr ⟨xws0_of (i := 83) (by decide +kernel) rfl, List.forall_mem_cons.mpr ⟨xws0_of (i := 85) (by decide +kernel) rfl, List.forall_mem_cons.mpr ⟨xws0_of (i := 87) (by decide +kernel) rfl, fun _ h => absurd h List.not_mem_nil⟩⟩⟩⟩⟩⟩⟩⟩⟩⟩⟩
theorem xw_inst_1 : Cond.instantiable (xcn 1) (xN 2) ∈ xws0 := xws0_of (i := 116) (by decide +kernel) rfl
theorem xw_ini_1 : Cond.initialized (xcn 1) ∈ xws0 := xws0_of (i := 10) (by decide +kernel) rfl
theorem xw_lay_1 : ∀ w ∈ u_ws (xcn 1) (xT 2) (xN 2), w ∈ xws0 := by
  show ∀ w ∈ [u_lay (xcn 1) (xT 2) 0, u_lay (xcn 1) (xT 2) 1, u_lay (xcn 1) (xT 2) 2], w ∈ xws0
  exact List.forall_mem_cons.mpr ⟨xws0_of (i := 128) (by decide +kernel) rfl, List.forall_mem_cons.mpr ⟨xws0_of (i := 130) (by decide +kernel) rfl, List.forall_mem_cons.mpr ⟨xws0_of (i := 132) (by decide +kernel) rfl, fun _ h => absurd h List.not_mem_nil⟩⟩⟩
theorem xw_inst_2 : Cond.instantiable (xcn 2) (xN 3) ∈ xws0 := xws0_of (i := 24) (by decide +kernel) rfl
theorem xw_ini_2 : Cond.initialized (xcn 2) ∈ xws0 := xws0_of (i := 8) (by decide +kernel) rfl
theorem xw_lay_2 : ∀ w ∈ u_ws (xcn 2) (xT 3) (xN 3), w ∈ xws0 := by
  show ∀ w ∈ [u_lay (xcn 2) (xT 3) 0, u_lay (xcn 2) (xT 3) 1, u_lay (xcn 2) (xT 3) 2, u_lay (xcn 2) (xT 3) 3, u_lay (xcn 2) (xT 3) 4, u_lay (xcn 2) (xT 3) 5], w ∈ xws0
  exact List.forall_mem_cons.mpr ⟨xws0_of (i := 102) (by decide +kernel) rfl, List.forall_mem_cons.mpr ⟨xws0_of (i := 104) (by decide +kernel) rfl, List.forall_mem_cons.mpr ⟨xws0_of (i := 106) (by decide +kernel) rfl, List.forall_mem_cons.mpr ⟨xws0_of (i := 108) (by decide +kernel) rfl, List.forall_mem_cons.mpr ⟨xws0_of (i := 110) (by decide +kernel) rfl, List.forall_mem_cons.mpr ⟨xws0_of (i := 112) (by decide +kernel) rfl, fun _ h => absurd h List.not_mem_nil⟩⟩⟩⟩⟩⟩
theorem xw_inst_3 : Cond.instantiable (xcn 3) (xN 4) ∈ xws0 := xws0_of (i := 136) (by decide +kernel) rfl
theorem xw_ini_3 : Cond.initialized (xcn 3) ∈ xws0 := xws0_of (i := 11) (by decide +kernel) rfl
theorem xw_lay_3 : ∀ w ∈ u_ws (xcn 3) (xT 4) (xN 4), w ∈ xws0 := by
  show ∀ w ∈ [u_lay (xcn 3) (xT 4) 0, u_lay (xcn 3) (xT 4) 1, u_lay (xcn 3) (xT 4) 2, u_lay (xcn 3) (xT 4) 3, u_lay (xcn 3) (xT 4) 4, u_lay (xcn 3) (xT 4) 5, u_lay (xcn 3) (xT 4) 6], w ∈ xws0
  exact List.forall_mem_cons.mpr ⟨xws0_of (i := 145) (by decide +kernel) rfl, List.forall_mem_cons.mpr ⟨xws0_of (i := 147) (by decide +kernel) rfl, List.forall_mem_cons.mpr ⟨xws0_of (i := 149) (by decide +kernel) rfl, List.forall_mem_cons.mpr ⟨xws0_of (i := 151) (by decide +kernel) rfl, List.forall_mem_cons.mpr ⟨xws0_of (i := 153) (by decide +kernel) rfl, List.forall_mem_cons.mpr ⟨xws0_of (i := 155) (by decide +kernel) rfl, List.forall_mem_cons.mpr ⟨xws0_of (i := 157) (by decide +kernel) rfl, fun _ h => absurd h List.not_mem_nil⟩⟩⟩⟩⟩⟩⟩
theorem xw_inst_4 : Cond.instantiable (xcn 4) (xN 5) ∈ xws0 := xws0_of (i := 16) (by decide +kernel) rfl
theorem xw_ini_4 : Cond.initialized (xcn 4) ∈ xws0 := xws0_of (i := 7) (by decide +kernel) rfl
theorem xw_lay_4 : ∀ w ∈ u_ws (xcn 4) (xT 5) (xN 5), w ∈ xws0 := by
  show ∀ w ∈ [u_lay (xcn 4) (xT 5) 0, u_lay (xcn 4) (xT 5) 1, u_lay (xcn 4) (xT 5) 2, u_lay (xcn 4) (xT 5) 3, u_lay (xcn 4) (xT 5) 4, u_lay (xcn 4) (xT 5) 5], w ∈ xws0
  exact List.forall_mem_cons.mpr ⟨xws0_of (i := 168) (by decide +kernel) rfl, List.forall_mem_cons.mpr ⟨xws0_of (i := 170) (by decide +kernel) rfl, List.forall_mem_cons.mpr ⟨xws0_of (i := 172) (by decide +kernel) rfl, List.forall_mem_cons.mpr ⟨xws0_of (i := 174) (by decide +kernel) rfl, List.forall_mem_cons.mpr ⟨xws0_of (i := 176) (by decide +kernel) rfl, List.forall_mem_cons.mpr ⟨xws0_of (i := 178) (by decide +kernel) rfl, fun _ h => absurd h List.not_mem_nil⟩⟩⟩⟩⟩⟩
/-- a method whose code the words hold -/
def xMok (y : xM) : Prop := Cond.code y.1 y.2.1 y.2.2.1 y.2.2.2.1 ∈ xws0 ∧ Cond.initialized y.1.cls ∈ xws0 ∧ (y.1.cls ≠ "java/lang/invoke/MethodHandle" ∧ y.1.cls ≠ "java/lang/invoke/VarHandle") ∧ y.1.cls = xcn (xown y) ∧ y.2.2.1 ≤ 15 ∧ plainName y.1.cls = true
set_option maxRecDepth 100000 in
theorem xMok_mX0_addToSum : xMok mX0_addToSum := ⟨xws0_of (i := 271) rfl rfl, xws0_of (i := 9) (by decide +kernel) rfl, ⟨by decide +kernel, by decide +kernel⟩, rfl, by decide, by decide +kernel⟩
set_option maxRecDepth 100000 in
theorem xMok_mX0_append : xMok mX0_append := ⟨xws0_of (i := 413) rfl rfl, xws0_of (i := 9) (by decide +kernel) rfl, ⟨by decide +kernel, by decide +kernel⟩, rfl, by decide, by decide +kernel⟩
set_option maxRecDepth 100000 in
theorem xMok_mX0_receive : xMok mX0_receive := ⟨xws0_of (i := 275) rfl rfl, xws0_of (i := 9) (by decide +kernel) rfl, ⟨by decide +kernel, by decide +kernel⟩, rfl, by decide, by decide +kernel⟩
set_option maxRecDepth 100000 in
theorem xMok_mX2_account : xMok mX2_account := ⟨xws0_of (i := 257) rfl rfl, xws0_of (i := 8) (by decide +kernel) rfl, ⟨by decide +kernel, by decide +kernel⟩, rfl, by decide, by decide +kernel⟩
set_option maxRecDepth 100000 in
theorem xMok_mX2_freeIfHeldBy : xMok mX2_freeIfHeldBy := ⟨xws0_of (i := 284) rfl rfl, xws0_of (i := 8) (by decide +kernel) rfl, ⟨by decide +kernel, by decide +kernel⟩, rfl, by decide, by decide +kernel⟩
set_option maxRecDepth 100000 in
theorem xMok_mX2_sendersTo : xMok mX2_sendersTo := ⟨xws0_of (i := 214) rfl rfl, xws0_of (i := 8) (by decide +kernel) rfl, ⟨by decide +kernel, by decide +kernel⟩, rfl, by decide, by decide +kernel⟩
set_option maxRecDepth 100000 in
theorem xMok_mX2_stateOf : xMok mX2_stateOf := ⟨xws0_of (i := 192) rfl rfl, xws0_of (i := 8) (by decide +kernel) rfl, ⟨by decide +kernel, by decide +kernel⟩, rfl, by decide, by decide +kernel⟩
set_option maxRecDepth 100000 in
theorem xMok_mX4_has : xMok mX4_has := ⟨xws0_of (i := 217) rfl rfl, xws0_of (i := 7) (by decide +kernel) rfl, ⟨by decide +kernel, by decide +kernel⟩, rfl, by decide, by decide +kernel⟩
set_option maxRecDepth 100000 in
theorem xMok_mX4_isCommand : xMok mX4_isCommand := ⟨xws0_of (i := 405) rfl rfl, xws0_of (i := 7) (by decide +kernel) rfl, ⟨by decide +kernel, by decide +kernel⟩, rfl, by decide, by decide +kernel⟩
set_option maxRecDepth 100000 in
theorem xMok_mX4_isContext : xMok mX4_isContext := ⟨xws0_of (i := 338) rfl rfl, xws0_of (i := 7) (by decide +kernel) rfl, ⟨by decide +kernel, by decide +kernel⟩, rfl, by decide, by decide +kernel⟩
set_option maxRecDepth 100000 in
theorem xMok_mX4_isLock : xMok mX4_isLock := ⟨xws0_of (i := 358) rfl rfl, xws0_of (i := 7) (by decide +kernel) rfl, ⟨by decide +kernel, by decide +kernel⟩, rfl, by decide, by decide +kernel⟩
set_option maxRecDepth 100000 in
theorem xMok_mX4_isPriority : xMok mX4_isPriority := ⟨xws0_of (i := 372) rfl rfl, xws0_of (i := 7) (by decide +kernel) rfl, ⟨by decide +kernel, by decide +kernel⟩, rfl, by decide, by decide +kernel⟩
set_option maxRecDepth 100000 in
theorem xMok_mX4_isSave : xMok mX4_isSave := ⟨xws0_of (i := 315) rfl rfl, xws0_of (i := 7) (by decide +kernel) rfl, ⟨by decide +kernel, by decide +kernel⟩, rfl, by decide, by decide +kernel⟩
set_option maxRecDepth 100000 in
theorem xMok_mX4_isStep : xMok mX4_isStep := ⟨xws0_of (i := 393) rfl rfl, xws0_of (i := 7) (by decide +kernel) rfl, ⟨by decide +kernel, by decide +kernel⟩, rfl, by decide, by decide +kernel⟩
set_option maxRecDepth 100000 in
theorem xMok_mL_cell : xMok mL_cell := ⟨xws0_of (i := 326) rfl rfl, xws0_of (i := 6) (by decide +kernel) rfl, ⟨by decide +kernel, by decide +kernel⟩, rfl, by decide, by decide +kernel⟩
set_option maxRecDepth 100000 in
theorem xMok_mL_low : xMok mL_low := ⟨xws0_of (i := 364) rfl rfl, xws0_of (i := 6) (by decide +kernel) rfl, ⟨by decide +kernel, by decide +kernel⟩, rfl, by decide, by decide +kernel⟩
set_option maxRecDepth 100000 in
theorem xMok_mJ6_bitCount_0f7a4 : xMok mJ6_bitCount_0f7a4 := ⟨xws0_of (i := 195) rfl rfl, xws0_of (i := 12) (by decide +kernel) rfl, ⟨by decide +kernel, by decide +kernel⟩, rfl, by decide, by decide +kernel⟩
set_option maxRecDepth 100000 in
theorem xMok_mX0_init : xMok mX0_init := ⟨xws0_of (i := 34) rfl rfl, xws0_of (i := 9) (by decide +kernel) rfl, ⟨by decide +kernel, by decide +kernel⟩, rfl, by decide, by decide +kernel⟩
set_option maxRecDepth 100000 in
theorem xMok_mX0_copyFrom : xMok mX0_copyFrom := ⟨xws0_of (i := 233) rfl rfl, xws0_of (i := 9) (by decide +kernel) rfl, ⟨by decide +kernel, by decide +kernel⟩, rfl, by decide, by decide +kernel⟩
set_option maxRecDepth 100000 in
theorem xMok_mX0_goBack : xMok mX0_goBack := ⟨xws0_of (i := 265) rfl rfl, xws0_of (i := 9) (by decide +kernel) rfl, ⟨by decide +kernel, by decide +kernel⟩, rfl, by decide, by decide +kernel⟩
set_option maxRecDepth 100000 in
theorem xMok_mX0_takeMessage : xMok mX0_takeMessage := ⟨xws0_of (i := 279) rfl rfl, xws0_of (i := 9) (by decide +kernel) rfl, ⟨by decide +kernel, by decide +kernel⟩, rfl, by decide, by decide +kernel⟩
set_option maxRecDepth 100000 in
theorem xMok_mX2_areDone : xMok mX2_areDone := ⟨xws0_of (i := 296) rfl rfl, xws0_of (i := 8) (by decide +kernel) rfl, ⟨by decide +kernel, by decide +kernel⟩, rfl, by decide, by decide +kernel⟩
set_option maxRecDepth 100000 in
theorem xMok_mX2_isStuck : xMok mX2_isStuck := ⟨xws0_of (i := 221) rfl rfl, xws0_of (i := 8) (by decide +kernel) rfl, ⟨by decide +kernel, by decide +kernel⟩, rfl, by decide, by decide +kernel⟩
set_option maxRecDepth 100000 in
theorem xMok_mX2_lentPriority : xMok mX2_lentPriority := ⟨xws0_of (i := 253) rfl rfl, xws0_of (i := 8) (by decide +kernel) rfl, ⟨by decide +kernel, by decide +kernel⟩, rfl, by decide, by decide +kernel⟩
set_option maxRecDepth 100000 in
theorem xMok_mX2_setIn : xMok mX2_setIn := ⟨xws0_of (i := 188) rfl rfl, xws0_of (i := 8) (by decide +kernel) rfl, ⟨by decide +kernel, by decide +kernel⟩, rfl, by decide, by decide +kernel⟩
set_option maxRecDepth 100000 in
theorem xMok_mX2_waitsOf : xMok mX2_waitsOf := ⟨xws0_of (i := 210) rfl rfl, xws0_of (i := 8) (by decide +kernel) rfl, ⟨by decide +kernel, by decide +kernel⟩, rfl, by decide, by decide +kernel⟩
set_option maxRecDepth 100000 in
theorem xMok_mX3_init : xMok mX3_init := ⟨xws0_of (i := 139) rfl rfl, xws0_of (i := 11) (by decide +kernel) rfl, ⟨by decide +kernel, by decide +kernel⟩, rfl, by decide, by decide +kernel⟩
set_option maxRecDepth 100000 in
theorem xMok_mX4_command : xMok mX4_command := ⟨xws0_of (i := 351) rfl rfl, xws0_of (i := 7) (by decide +kernel) rfl, ⟨by decide +kernel, by decide +kernel⟩, rfl, by decide, by decide +kernel⟩
set_option maxRecDepth 100000 in
theorem xMok_mX4_holder : xMok mX4_holder := ⟨xws0_of (i := 355) rfl rfl, xws0_of (i := 7) (by decide +kernel) rfl, ⟨by decide +kernel, by decide +kernel⟩, rfl, by decide, by decide +kernel⟩
set_option maxRecDepth 100000 in
theorem xMok_mX4_inbox : xMok mX4_inbox := ⟨xws0_of (i := 347) rfl rfl, xws0_of (i := 7) (by decide +kernel) rfl, ⟨by decide +kernel, by decide +kernel⟩, rfl, by decide, by decide +kernel⟩
set_option maxRecDepth 100000 in
theorem xMok_mX2_init : xMok mX2_init := ⟨xws0_of (i := 27) rfl rfl, xws0_of (i := 8) (by decide +kernel) rfl, ⟨by decide +kernel, by decide +kernel⟩, rfl, by decide, by decide +kernel⟩
set_option maxRecDepth 100000 in
theorem xMok_mX2_copyFrom : xMok mX2_copyFrom := ⟨xws0_of (i := 229) rfl rfl, xws0_of (i := 8) (by decide +kernel) rfl, ⟨by decide +kernel, by decide +kernel⟩, rfl, by decide, by decide +kernel⟩
set_option maxRecDepth 100000 in
theorem xMok_mX2_findAllWaits : xMok mX2_findAllWaits := ⟨xws0_of (i := 206) rfl rfl, xws0_of (i := 8) (by decide +kernel) rfl, ⟨by decide +kernel, by decide +kernel⟩, rfl, by decide, by decide +kernel⟩
set_option maxRecDepth 100000 in
theorem xMok_mX2_runNextOf : xMok mX2_runNextOf := ⟨xws0_of (i := 261) rfl rfl, xws0_of (i := 8) (by decide +kernel) rfl, ⟨by decide +kernel, by decide +kernel⟩, rfl, by decide, by decide +kernel⟩
set_option maxRecDepth 100000 in
theorem xMok_mX1_init : xMok mX1_init := ⟨xws0_of (i := 119) rfl rfl, xws0_of (i := 10) (by decide +kernel) rfl, ⟨by decide +kernel, by decide +kernel⟩, rfl, by decide, by decide +kernel⟩
set_option maxRecDepth 100000 in
theorem xMok_mX1_record : xMok mX1_record := ⟨xws0_of (i := 323) rfl rfl, xws0_of (i := 10) (by decide +kernel) rfl, ⟨by decide +kernel, by decide +kernel⟩, rfl, by decide, by decide +kernel⟩
set_option maxRecDepth 100000 in
theorem xMok_mX1_takeBack : xMok mX1_takeBack := ⟨xws0_of (i := 307) rfl rfl, xws0_of (i := 10) (by decide +kernel) rfl, ⟨by decide +kernel, by decide +kernel⟩, rfl, by decide, by decide +kernel⟩
set_option maxRecDepth 100000 in
theorem xMok_mX2_ringSet : xMok mX2_ringSet := ⟨xws0_of (i := 202) rfl rfl, xws0_of (i := 8) (by decide +kernel) rfl, ⟨by decide +kernel, by decide +kernel⟩, rfl, by decide, by decide +kernel⟩
set_option maxRecDepth 100000 in
theorem xMok_mX2_runnerInSlotOf : xMok mX2_runnerInSlotOf := ⟨xws0_of (i := 248) rfl rfl, xws0_of (i := 8) (by decide +kernel) rfl, ⟨by decide +kernel, by decide +kernel⟩, rfl, by decide, by decide +kernel⟩
set_option maxRecDepth 100000 in
theorem xMok_mX4_save : xMok mX4_save := ⟨xws0_of (i := 312) rfl rfl, xws0_of (i := 7) (by decide +kernel) rfl, ⟨by decide +kernel, by decide +kernel⟩, rfl, by decide, by decide +kernel⟩
set_option maxRecDepth 100000 in
theorem xMok_mX4_tryNow : xMok mX4_tryNow := ⟨xws0_of (i := 225) rfl rfl, xws0_of (i := 7) (by decide +kernel) rfl, ⟨by decide +kernel, by decide +kernel⟩, rfl, by decide, by decide +kernel⟩
set_option maxRecDepth 100000 in
theorem xMok_mX2_passSlot : xMok mX2_passSlot := ⟨xws0_of (i := 241) rfl rfl, xws0_of (i := 8) (by decide +kernel) rfl, ⟨by decide +kernel, by decide +kernel⟩, rfl, by decide, by decide +kernel⟩
set_option maxRecDepth 100000 in
theorem xMok_mX4_init : xMok mX4_init := ⟨xws0_of (i := 19) rfl rfl, xws0_of (i := 7) (by decide +kernel) rfl, ⟨by decide +kernel, by decide +kernel⟩, rfl, by decide, by decide +kernel⟩
set_option maxRecDepth 100000 in
theorem xMok_mX4_add : xMok mX4_add := ⟨xws0_of (i := 402) rfl rfl, xws0_of (i := 7) (by decide +kernel) rfl, ⟨by decide +kernel, by decide +kernel⟩, rfl, by decide, by decide +kernel⟩
set_option maxRecDepth 100000 in
theorem xMok_mX4_of : xMok mX4_of := ⟨xws0_of (i := 335) rfl rfl, xws0_of (i := 7) (by decide +kernel) rfl, ⟨by decide +kernel, by decide +kernel⟩, rfl, by decide, by decide +kernel⟩
set_option maxRecDepth 100000 in
theorem xMok_mX4_post : xMok mX4_post := ⟨xws0_of (i := 376) rfl rfl, xws0_of (i := 7) (by decide +kernel) rfl, ⟨by decide +kernel, by decide +kernel⟩, rfl, by decide, by decide +kernel⟩
set_option maxRecDepth 100000 in
theorem xMok_mX4_prefer : xMok mX4_prefer := ⟨xws0_of (i := 369) rfl rfl, xws0_of (i := 7) (by decide +kernel) rfl, ⟨by decide +kernel, by decide +kernel⟩, rfl, by decide, by decide +kernel⟩
set_option maxRecDepth 100000 in
theorem xMok_mX4_release : xMok mX4_release := ⟨xws0_of (i := 381) rfl rfl, xws0_of (i := 7) (by decide +kernel) rfl, ⟨by decide +kernel, by decide +kernel⟩, rfl, by decide, by decide +kernel⟩
set_option maxRecDepth 100000 in
theorem xMok_mX4_restore : xMok mX4_restore := ⟨xws0_of (i := 319) rfl rfl, xws0_of (i := 7) (by decide +kernel) rfl, ⟨by decide +kernel, by decide +kernel⟩, rfl, by decide, by decide +kernel⟩
set_option maxRecDepth 100000 in
theorem xMok_mX4_undo : xMok mX4_undo := ⟨xws0_of (i := 303) rfl rfl, xws0_of (i := 7) (by decide +kernel) rfl, ⟨by decide +kernel, by decide +kernel⟩, rfl, by decide, by decide +kernel⟩
set_option maxRecDepth 100000 in
theorem xMok_mX2_passSlots : xMok mX2_passSlots := ⟨xws0_of (i := 398) rfl rfl, xws0_of (i := 8) (by decide +kernel) rfl, ⟨by decide +kernel, by decide +kernel⟩, rfl, by decide, by decide +kernel⟩
set_option maxRecDepth 100000 in
theorem xMok_mX2_passUntilDone : xMok mX2_passUntilDone := ⟨xws0_of (i := 292) rfl rfl, xws0_of (i := 8) (by decide +kernel) rfl, ⟨by decide +kernel, by decide +kernel⟩, rfl, by decide, by decide +kernel⟩
set_option maxRecDepth 100000 in
theorem xMok_mX4_count : xMok mX4_count := ⟨xws0_of (i := 184) rfl rfl, xws0_of (i := 7) (by decide +kernel) rfl, ⟨by decide +kernel, by decide +kernel⟩, rfl, by decide, by decide +kernel⟩
set_option maxRecDepth 100000 in
theorem xMok_mX4_run : xMok mX4_run := ⟨xws0_of (i := 385) rfl rfl, xws0_of (i := 7) (by decide +kernel) rfl, ⟨by decide +kernel, by decide +kernel⟩, rfl, by decide, by decide +kernel⟩
set_option maxRecDepth 100000 in
theorem xMok_mX4_slotsLeft : xMok mX4_slotsLeft := ⟨xws0_of (i := 288) rfl rfl, xws0_of (i := 7) (by decide +kernel) rfl, ⟨by decide +kernel, by decide +kernel⟩, rfl, by decide, by decide +kernel⟩
set_option maxRecDepth 100000 in
theorem xMok_mX4_step : xMok mX4_step := ⟨xws0_of (i := 390) rfl rfl, xws0_of (i := 7) (by decide +kernel) rfl, ⟨by decide +kernel, by decide +kernel⟩, rfl, by decide, by decide +kernel⟩
set_option maxRecDepth 100000 in
theorem xMok_mL_addsUp : xMok mL_addsUp := ⟨xws0_of (i := 416) rfl rfl, xws0_of (i := 6) (by decide +kernel) rfl, ⟨by decide +kernel, by decide +kernel⟩, rfl, by decide, by decide +kernel⟩
set_option maxRecDepth 100000 in
theorem xMok_mL_digest : xMok mL_digest := ⟨xws0_of (i := 329) rfl rfl, xws0_of (i := 6) (by decide +kernel) rfl, ⟨by decide +kernel, by decide +kernel⟩, rfl, by decide, by decide +kernel⟩
set_option maxRecDepth 100000 in
theorem xMok_mL_act : xMok mL_act := ⟨xws0_of (i := 361) rfl rfl, xws0_of (i := 6) (by decide +kernel) rfl, ⟨by decide +kernel, by decide +kernel⟩, rfl, by decide, by decide +kernel⟩
def xCok (e : (Nat × Nat) × (xM × Nat × Nat)) : Prop := xMok e.2.1 ∧ (parseMethodDescriptor e.2.1.1.desc).map (fun d => d.parameters.length) = some e.2.2.1 ∧
  (e.2.2.2 = 0 → Cond.methodLink (xcn e.1.1) e.1.2 e.2.1.1 ∈ xws0 ∧ Cond.instanceMethod e.2.1.1 ∈ xws0 ∧ Cond.selects e.2.1.1.cls e.2.1.1 e.2.1.1 ∈ xws0 ∧ (xown e.2.1 ≤ 4)) ∧
  (e.2.2.2 = 1 → Cond.methodLink (xcn e.1.1) e.1.2 e.2.1.1 ∈ xws0 ∧ Cond.static e.2.1.1 ∈ xws0) ∧
  (e.2.2.2 = 2 → Cond.methodLink (xcn e.1.1) e.1.2 e.2.1.1 ∈ xws0 ∧ Cond.instanceMethod e.2.1.1 ∈ xws0 ∧ e.2.1.1.name = "<init>" ∧ e.2.1.2.2.2.1 = none) ∧
  (e.2.2.2 = 3 → Cond.methodLinkNest (xcn e.1.1) e.1.2 e.2.1.1 "TurnSlots" ∈ xNw ∧ Cond.static e.2.1.1 ∈ xws0) ∧
  (e.2.2.2 = 4 → Cond.methodLinkNest (xcn e.1.1) e.1.2 e.2.1.1 "TurnSlots" ∈ xNw ∧ Cond.instanceMethod e.2.1.1 ∈ xws0 ∧ e.2.1.1.name = "<init>" ∧ e.2.1.2.2.2.1 = none)
theorem xCt_ok_0 : xCok (((0, 61), (mX0_addToSum, 1, 0))) := ⟨xMok_mX0_addToSum, by decide +kernel, fun _ => ⟨xws0_of (i := 280) (by decide +kernel) rfl, xws0_of (i := 269) (by decide +kernel) rfl, xws0_of (i := 270) (by decide +kernel) rfl, by decide⟩, fun h => absurd h (by decide), fun h => absurd h (by decide), fun h => absurd h (by decide), fun h => absurd h (by decide)⟩
theorem xCt_ok_1 : xCok (((0, 65), (mX4_has, 2, 3))) := ⟨xMok_mX4_has, by decide +kernel, fun h => absurd h (by decide), fun h => absurd h (by decide), fun h => absurd h (by decide), fun _ => ⟨List.mem_of_getElem? (i := 3) (by decide +kernel), xws0_of (i := 216) (by decide +kernel) rfl⟩, fun h => absurd h (by decide)⟩
theorem xCt_ok_2 : xCok (((1, 17), (mX2_init, 0, 2))) := ⟨xMok_mX2_init, by decide +kernel, fun h => absurd h (by decide), fun h => absurd h (by decide), fun _ => ⟨xws0_of (i := 123) (by decide +kernel) rfl, xws0_of (i := 26) (by decide +kernel) rfl, rfl, rfl⟩, fun h => absurd h (by decide), fun h => absurd h (by decide)⟩
theorem xCt_ok_3 : xCok (((1, 25), (mX2_copyFrom, 1, 0))) := ⟨xMok_mX2_copyFrom, by decide +kernel, fun _ => ⟨xws0_of (i := 308) (by decide +kernel) rfl, xws0_of (i := 227) (by decide +kernel) rfl, xws0_of (i := 228) (by decide +kernel) rfl, by decide⟩, fun h => absurd h (by decide), fun h => absurd h (by decide), fun h => absurd h (by decide), fun h => absurd h (by decide)⟩
theorem xCt_ok_4 : xCok (((2, 24), (mX0_init, 0, 4))) := ⟨xMok_mX0_init, by decide +kernel, fun h => absurd h (by decide), fun h => absurd h (by decide), fun h => absurd h (by decide), fun h => absurd h (by decide), fun _ => ⟨List.mem_of_getElem? (i := 0) (by decide +kernel), xws0_of (i := 33) (by decide +kernel) rfl, rfl, rfl⟩⟩
theorem xCt_ok_5 : xCok (((2, 25), (mX0_copyFrom, 1, 0))) := ⟨xMok_mX0_copyFrom, by decide +kernel, fun _ => ⟨xws0_of (i := 230) (by decide +kernel) rfl, xws0_of (i := 231) (by decide +kernel) rfl, xws0_of (i := 232) (by decide +kernel) rfl, by decide⟩, fun h => absurd h (by decide), fun h => absurd h (by decide), fun h => absurd h (by decide), fun h => absurd h (by decide)⟩
theorem xCt_ok_6 : xCok (((2, 63), (mX2_stateOf, 1, 0))) := ⟨xMok_mX2_stateOf, by decide +kernel, fun _ => ⟨xws0_of (i := 189) (by decide +kernel) rfl, xws0_of (i := 190) (by decide +kernel) rfl, xws0_of (i := 191) (by decide +kernel) rfl, by decide⟩, fun h => absurd h (by decide), fun h => absurd h (by decide), fun h => absurd h (by decide), fun h => absurd h (by decide)⟩
theorem xCt_ok_7 : xCok (((2, 67), (mX4_has, 2, 3))) := ⟨xMok_mX4_has, by decide +kernel, fun h => absurd h (by decide), fun h => absurd h (by decide), fun h => absurd h (by decide), fun _ => ⟨List.mem_of_getElem? (i := 2) (by decide +kernel), xws0_of (i := 216) (by decide +kernel) rfl⟩, fun h => absurd h (by decide)⟩
theorem xCt_ok_8 : xCok (((2, 71), (mX2_sendersTo, 1, 0))) := ⟨xMok_mX2_sendersTo, by decide +kernel, fun _ => ⟨xws0_of (i := 211) (by decide +kernel) rfl, xws0_of (i := 213) (by decide +kernel) rfl, xws0_of (i := 0) (by decide +kernel) rfl, by decide⟩, fun h => absurd h (by decide), fun h => absurd h (by decide), fun h => absurd h (by decide), fun h => absurd h (by decide)⟩
theorem xCt_ok_9 : xCok (((2, 74), (mX2_waitsOf, 1, 0))) := ⟨xMok_mX2_waitsOf, by decide +kernel, fun _ => ⟨xws0_of (i := 207) (by decide +kernel) rfl, xws0_of (i := 208) (by decide +kernel) rfl, xws0_of (i := 209) (by decide +kernel) rfl, by decide⟩, fun h => absurd h (by decide), fun h => absurd h (by decide), fun h => absurd h (by decide), fun h => absurd h (by decide)⟩
theorem xCt_ok_10 : xCok (((2, 86), (mX2_findAllWaits, 0, 0))) := ⟨xMok_mX2_findAllWaits, by decide +kernel, fun _ => ⟨xws0_of (i := 203) (by decide +kernel) rfl, xws0_of (i := 204) (by decide +kernel) rfl, xws0_of (i := 205) (by decide +kernel) rfl, by decide⟩, fun h => absurd h (by decide), fun h => absurd h (by decide), fun h => absurd h (by decide), fun h => absurd h (by decide)⟩
theorem xCt_ok_11 : xCok (((2, 90), (mX2_passSlot, 0, 0))) := ⟨xMok_mX2_passSlot, by decide +kernel, fun _ => ⟨xws0_of (i := 298) (by decide +kernel) rfl, xws0_of (i := 239) (by decide +kernel) rfl, xws0_of (i := 240) (by decide +kernel) rfl, by decide⟩, fun h => absurd h (by decide), fun h => absurd h (by decide), fun h => absurd h (by decide), fun h => absurd h (by decide)⟩
theorem xCt_ok_12 : xCok (((2, 94), (mX2_areDone, 1, 0))) := ⟨xMok_mX2_areDone, by decide +kernel, fun _ => ⟨xws0_of (i := 293) (by decide +kernel) rfl, xws0_of (i := 294) (by decide +kernel) rfl, xws0_of (i := 295) (by decide +kernel) rfl, by decide⟩, fun h => absurd h (by decide), fun h => absurd h (by decide), fun h => absurd h (by decide), fun h => absurd h (by decide)⟩
theorem xCt_ok_13 : xCok (((2, 98), (mX2_isStuck, 0, 0))) := ⟨xMok_mX2_isStuck, by decide +kernel, fun _ => ⟨xws0_of (i := 297) (by decide +kernel) rfl, xws0_of (i := 219) (by decide +kernel) rfl, xws0_of (i := 220) (by decide +kernel) rfl, by decide⟩, fun h => absurd h (by decide), fun h => absurd h (by decide), fun h => absurd h (by decide), fun h => absurd h (by decide)⟩
theorem xCt_ok_14 : xCok (((2, 102), (mX2_runnerInSlotOf, 1, 0))) := ⟨xMok_mX2_runnerInSlotOf, by decide +kernel, fun _ => ⟨xws0_of (i := 245) (by decide +kernel) rfl, xws0_of (i := 247) (by decide +kernel) rfl, xws0_of (i := 2) (by decide +kernel) rfl, by decide⟩, fun h => absurd h (by decide), fun h => absurd h (by decide), fun h => absurd h (by decide), fun h => absurd h (by decide)⟩
theorem xCt_ok_15 : xCok (((2, 105), (mX2_account, 2, 0))) := ⟨xMok_mX2_account, by decide +kernel, fun _ => ⟨xws0_of (i := 254) (by decide +kernel) rfl, xws0_of (i := 256) (by decide +kernel) rfl, xws0_of (i := 3) (by decide +kernel) rfl, by decide⟩, fun h => absurd h (by decide), fun h => absurd h (by decide), fun h => absurd h (by decide), fun h => absurd h (by decide)⟩
theorem xCt_ok_16 : xCok (((2, 109), (mX2_runNextOf, 1, 0))) := ⟨xMok_mX2_runNextOf, by decide +kernel, fun _ => ⟨xws0_of (i := 258) (by decide +kernel) rfl, xws0_of (i := 260) (by decide +kernel) rfl, xws0_of (i := 4) (by decide +kernel) rfl, by decide⟩, fun h => absurd h (by decide), fun h => absurd h (by decide), fun h => absurd h (by decide), fun h => absurd h (by decide)⟩
theorem xCt_ok_17 : xCok (((2, 113), (mX2_setIn, 1, 0))) := ⟨xMok_mX2_setIn, by decide +kernel, fun _ => ⟨xws0_of (i := 249) (by decide +kernel) rfl, xws0_of (i := 186) (by decide +kernel) rfl, xws0_of (i := 187) (by decide +kernel) rfl, by decide⟩, fun h => absurd h (by decide), fun h => absurd h (by decide), fun h => absurd h (by decide), fun h => absurd h (by decide)⟩
theorem xCt_ok_18 : xCok (((2, 116), (mX2_lentPriority, 2, 0))) := ⟨xMok_mX2_lentPriority, by decide +kernel, fun _ => ⟨xws0_of (i := 250) (by decide +kernel) rfl, xws0_of (i := 251) (by decide +kernel) rfl, xws0_of (i := 252) (by decide +kernel) rfl, by decide⟩, fun h => absurd h (by decide), fun h => absurd h (by decide), fun h => absurd h (by decide), fun h => absurd h (by decide)⟩
theorem xCt_ok_19 : xCok (((2, 123), (mX0_goBack, 1, 0))) := ⟨xMok_mX0_goBack, by decide +kernel, fun _ => ⟨xws0_of (i := 262) (by decide +kernel) rfl, xws0_of (i := 263) (by decide +kernel) rfl, xws0_of (i := 264) (by decide +kernel) rfl, by decide⟩, fun h => absurd h (by decide), fun h => absurd h (by decide), fun h => absurd h (by decide), fun h => absurd h (by decide)⟩
theorem xCt_ok_20 : xCok (((2, 126), (mX0_addToSum, 1, 0))) := ⟨xMok_mX0_addToSum, by decide +kernel, fun _ => ⟨xws0_of (i := 268) (by decide +kernel) rfl, xws0_of (i := 269) (by decide +kernel) rfl, xws0_of (i := 270) (by decide +kernel) rfl, by decide⟩, fun h => absurd h (by decide), fun h => absurd h (by decide), fun h => absurd h (by decide), fun h => absurd h (by decide)⟩
theorem xCt_ok_21 : xCok (((2, 132), (mX0_receive, 1, 0))) := ⟨xMok_mX0_receive, by decide +kernel, fun _ => ⟨xws0_of (i := 272) (by decide +kernel) rfl, xws0_of (i := 273) (by decide +kernel) rfl, xws0_of (i := 274) (by decide +kernel) rfl, by decide⟩, fun h => absurd h (by decide), fun h => absurd h (by decide), fun h => absurd h (by decide), fun h => absurd h (by decide)⟩
theorem xCt_ok_22 : xCok (((2, 135), (mX0_takeMessage, 0, 0))) := ⟨xMok_mX0_takeMessage, by decide +kernel, fun _ => ⟨xws0_of (i := 276) (by decide +kernel) rfl, xws0_of (i := 277) (by decide +kernel) rfl, xws0_of (i := 278) (by decide +kernel) rfl, by decide⟩, fun h => absurd h (by decide), fun h => absurd h (by decide), fun h => absurd h (by decide), fun h => absurd h (by decide)⟩
theorem xCt_ok_23 : xCok (((2, 138), (mX2_freeIfHeldBy, 2, 0))) := ⟨xMok_mX2_freeIfHeldBy, by decide +kernel, fun _ => ⟨xws0_of (i := 281) (by decide +kernel) rfl, xws0_of (i := 283) (by decide +kernel) rfl, xws0_of (i := 5) (by decide +kernel) rfl, by decide⟩, fun h => absurd h (by decide), fun h => absurd h (by decide), fun h => absurd h (by decide), fun h => absurd h (by decide)⟩
theorem xCt_ok_24 : xCok (((4, 9), (mX2_init, 0, 2))) := ⟨xMok_mX2_init, by decide +kernel, fun h => absurd h (by decide), fun h => absurd h (by decide), fun _ => ⟨xws0_of (i := 25) (by decide +kernel) rfl, xws0_of (i := 26) (by decide +kernel) rfl, rfl, rfl⟩, fun h => absurd h (by decide), fun h => absurd h (by decide)⟩
theorem xCt_ok_25 : xCok (((4, 21), (mX1_init, 0, 2))) := ⟨xMok_mX1_init, by decide +kernel, fun h => absurd h (by decide), fun h => absurd h (by decide), fun _ => ⟨xws0_of (i := 117) (by decide +kernel) rfl, xws0_of (i := 118) (by decide +kernel) rfl, rfl, rfl⟩, fun h => absurd h (by decide), fun h => absurd h (by decide)⟩
theorem xCt_ok_26 : xCok (((4, 36), (mX3_init, 0, 4))) := ⟨xMok_mX3_init, by decide +kernel, fun h => absurd h (by decide), fun h => absurd h (by decide), fun h => absurd h (by decide), fun h => absurd h (by decide), fun _ => ⟨List.mem_of_getElem? (i := 1) (by decide +kernel), xws0_of (i := 138) (by decide +kernel) rfl, rfl, rfl⟩⟩
theorem xCt_ok_27 : xCok (((4, 41), (mX4_isContext, 1, 1))) := ⟨xMok_mX4_isContext, by decide +kernel, fun h => absurd h (by decide), fun _ => ⟨xws0_of (i := 336) (by decide +kernel) rfl, xws0_of (i := 337) (by decide +kernel) rfl⟩, fun h => absurd h (by decide), fun h => absurd h (by decide), fun h => absurd h (by decide)⟩
theorem xCt_ok_28 : xCok (((4, 45), (mX4_isCommand, 2, 1))) := ⟨xMok_mX4_isCommand, by decide +kernel, fun h => absurd h (by decide), fun _ => ⟨xws0_of (i := 403) (by decide +kernel) rfl, xws0_of (i := 404) (by decide +kernel) rfl⟩, fun h => absurd h (by decide), fun h => absurd h (by decide), fun h => absurd h (by decide)⟩
theorem xCt_ok_29 : xCok (((4, 59), (mX1_record, 1, 0))) := ⟨xMok_mX1_record, by decide +kernel, fun _ => ⟨xws0_of (i := 320) (by decide +kernel) rfl, xws0_of (i := 321) (by decide +kernel) rfl, xws0_of (i := 322) (by decide +kernel) rfl, by decide⟩, fun h => absurd h (by decide), fun h => absurd h (by decide), fun h => absurd h (by decide), fun h => absurd h (by decide)⟩
theorem xCt_ok_30 : xCok (((4, 63), (mX0_append, 2, 0))) := ⟨xMok_mX0_append, by decide +kernel, fun _ => ⟨xws0_of (i := 410) (by decide +kernel) rfl, xws0_of (i := 411) (by decide +kernel) rfl, xws0_of (i := 412) (by decide +kernel) rfl, by decide⟩, fun h => absurd h (by decide), fun h => absurd h (by decide), fun h => absurd h (by decide), fun h => absurd h (by decide)⟩
theorem xCt_ok_31 : xCok (((4, 81), (mX4_isPriority, 1, 1))) := ⟨xMok_mX4_isPriority, by decide +kernel, fun h => absurd h (by decide), fun _ => ⟨xws0_of (i := 370) (by decide +kernel) rfl, xws0_of (i := 371) (by decide +kernel) rfl⟩, fun h => absurd h (by decide), fun h => absurd h (by decide), fun h => absurd h (by decide)⟩
theorem xCt_ok_32 : xCok (((4, 90), (mX0_receive, 1, 0))) := ⟨xMok_mX0_receive, by decide +kernel, fun _ => ⟨xws0_of (i := 377) (by decide +kernel) rfl, xws0_of (i := 273) (by decide +kernel) rfl, xws0_of (i := 274) (by decide +kernel) rfl, by decide⟩, fun h => absurd h (by decide), fun h => absurd h (by decide), fun h => absurd h (by decide), fun h => absurd h (by decide)⟩
theorem xCt_ok_33 : xCok (((4, 94), (mX4_isLock, 1, 1))) := ⟨xMok_mX4_isLock, by decide +kernel, fun h => absurd h (by decide), fun _ => ⟨xws0_of (i := 356) (by decide +kernel) rfl, xws0_of (i := 357) (by decide +kernel) rfl⟩, fun h => absurd h (by decide), fun h => absurd h (by decide), fun h => absurd h (by decide)⟩
theorem xCt_ok_34 : xCok (((4, 101), (mX4_isStep, 1, 1))) := ⟨xMok_mX4_isStep, by decide +kernel, fun h => absurd h (by decide), fun _ => ⟨xws0_of (i := 391) (by decide +kernel) rfl, xws0_of (i := 392) (by decide +kernel) rfl⟩, fun h => absurd h (by decide), fun h => absurd h (by decide), fun h => absurd h (by decide)⟩
theorem xCt_ok_35 : xCok (((4, 108), (mX2_passSlots, 1, 0))) := ⟨xMok_mX2_passSlots, by decide +kernel, fun _ => ⟨xws0_of (i := 395) (by decide +kernel) rfl, xws0_of (i := 396) (by decide +kernel) rfl, xws0_of (i := 397) (by decide +kernel) rfl, by decide⟩, fun h => absurd h (by decide), fun h => absurd h (by decide), fun h => absurd h (by decide), fun h => absurd h (by decide)⟩
theorem xCt_ok_36 : xCok (((4, 113), (mX2_passUntilDone, 1, 0))) := ⟨xMok_mX2_passUntilDone, by decide +kernel, fun _ => ⟨xws0_of (i := 289) (by decide +kernel) rfl, xws0_of (i := 290) (by decide +kernel) rfl, xws0_of (i := 291) (by decide +kernel) rfl, by decide⟩, fun h => absurd h (by decide), fun h => absurd h (by decide), fun h => absurd h (by decide), fun h => absurd h (by decide)⟩
theorem xCt_ok_37 : xCok (((4, 122), (mX2_findAllWaits, 0, 0))) := ⟨xMok_mX2_findAllWaits, by decide +kernel, fun _ => ⟨xws0_of (i := 339) (by decide +kernel) rfl, xws0_of (i := 204) (by decide +kernel) rfl, xws0_of (i := 205) (by decide +kernel) rfl, by decide⟩, fun h => absurd h (by decide), fun h => absurd h (by decide), fun h => absurd h (by decide), fun h => absurd h (by decide)⟩
theorem xCt_ok_38 : xCok (((4, 126), (mX2_lentPriority, 2, 0))) := ⟨xMok_mX2_lentPriority, by decide +kernel, fun _ => ⟨xws0_of (i := 340) (by decide +kernel) rfl, xws0_of (i := 251) (by decide +kernel) rfl, xws0_of (i := 252) (by decide +kernel) rfl, by decide⟩, fun h => absurd h (by decide), fun h => absurd h (by decide), fun h => absurd h (by decide), fun h => absurd h (by decide)⟩
theorem xCt_ok_39 : xCok (((4, 133), (mX2_stateOf, 1, 0))) := ⟨xMok_mX2_stateOf, by decide +kernel, fun _ => ⟨xws0_of (i := 341) (by decide +kernel) rfl, xws0_of (i := 190) (by decide +kernel) rfl, xws0_of (i := 191) (by decide +kernel) rfl, by decide⟩, fun h => absurd h (by decide), fun h => absurd h (by decide), fun h => absurd h (by decide), fun h => absurd h (by decide)⟩
theorem xCt_ok_40 : xCok (((4, 136), (mX2_waitsOf, 1, 0))) := ⟨xMok_mX2_waitsOf, by decide +kernel, fun _ => ⟨xws0_of (i := 342) (by decide +kernel) rfl, xws0_of (i := 208) (by decide +kernel) rfl, xws0_of (i := 209) (by decide +kernel) rfl, by decide⟩, fun h => absurd h (by decide), fun h => absurd h (by decide), fun h => absurd h (by decide), fun h => absurd h (by decide)⟩
theorem xCt_ok_41 : xCok (((4, 139), (mX2_ringSet, 0, 0))) := ⟨xMok_mX2_ringSet, by decide +kernel, fun _ => ⟨xws0_of (i := 199) (by decide +kernel) rfl, xws0_of (i := 200) (by decide +kernel) rfl, xws0_of (i := 201) (by decide +kernel) rfl, by decide⟩, fun h => absurd h (by decide), fun h => absurd h (by decide), fun h => absurd h (by decide), fun h => absurd h (by decide)⟩
theorem xCt_ok_42 : xCok (((4, 142), (mX4_has, 2, 1))) := ⟨xMok_mX4_has, by decide +kernel, fun h => absurd h (by decide), fun _ => ⟨xws0_of (i := 343) (by decide +kernel) rfl, xws0_of (i := 216) (by decide +kernel) rfl⟩, fun h => absurd h (by decide), fun h => absurd h (by decide), fun h => absurd h (by decide)⟩
theorem xCt_ok_43 : xCok (((4, 160), (mX2_setIn, 1, 0))) := ⟨xMok_mX2_setIn, by decide +kernel, fun _ => ⟨xws0_of (i := 185) (by decide +kernel) rfl, xws0_of (i := 186) (by decide +kernel) rfl, xws0_of (i := 187) (by decide +kernel) rfl, by decide⟩, fun h => absurd h (by decide), fun h => absurd h (by decide), fun h => absurd h (by decide), fun h => absurd h (by decide)⟩
theorem xCt_ok_44 : xCok (((4, 163), (mJ6_bitCount_0f7a4, 1, 1))) := ⟨xMok_mJ6_bitCount_0f7a4, by decide +kernel, fun h => absurd h (by decide), fun _ => ⟨xws0_of (i := 193) (by decide +kernel) rfl, xws0_of (i := 194) (by decide +kernel) rfl⟩, fun h => absurd h (by decide), fun h => absurd h (by decide), fun h => absurd h (by decide)⟩
theorem xCt_ok_45 : xCok (((4, 168), (mX2_isStuck, 0, 0))) := ⟨xMok_mX2_isStuck, by decide +kernel, fun _ => ⟨xws0_of (i := 218) (by decide +kernel) rfl, xws0_of (i := 219) (by decide +kernel) rfl, xws0_of (i := 220) (by decide +kernel) rfl, by decide⟩, fun h => absurd h (by decide), fun h => absurd h (by decide), fun h => absurd h (by decide), fun h => absurd h (by decide)⟩
theorem xCt_ok_46 : xCok (((4, 178), (mX4_tryNow, 0, 0))) := ⟨xMok_mX4_tryNow, by decide +kernel, fun _ => ⟨xws0_of (i := 222) (by decide +kernel) rfl, xws0_of (i := 224) (by decide +kernel) rfl, xws0_of (i := 1) (by decide +kernel) rfl, by decide⟩, fun h => absurd h (by decide), fun h => absurd h (by decide), fun h => absurd h (by decide), fun h => absurd h (by decide)⟩
theorem xCt_ok_47 : xCok (((4, 182), (mX2_passSlot, 0, 0))) := ⟨xMok_mX2_passSlot, by decide +kernel, fun _ => ⟨xws0_of (i := 238) (by decide +kernel) rfl, xws0_of (i := 239) (by decide +kernel) rfl, xws0_of (i := 240) (by decide +kernel) rfl, by decide⟩, fun h => absurd h (by decide), fun h => absurd h (by decide), fun h => absurd h (by decide), fun h => absurd h (by decide)⟩
theorem xCt_ok_48 : xCok (((4, 188), (mX2_areDone, 1, 0))) := ⟨xMok_mX2_areDone, by decide +kernel, fun _ => ⟨xws0_of (i := 299) (by decide +kernel) rfl, xws0_of (i := 294) (by decide +kernel) rfl, xws0_of (i := 295) (by decide +kernel) rfl, by decide⟩, fun h => absurd h (by decide), fun h => absurd h (by decide), fun h => absurd h (by decide), fun h => absurd h (by decide)⟩
theorem xCt_ok_49 : xCok (((4, 198), (mX1_takeBack, 1, 0))) := ⟨xMok_mX1_takeBack, by decide +kernel, fun _ => ⟨xws0_of (i := 304) (by decide +kernel) rfl, xws0_of (i := 305) (by decide +kernel) rfl, xws0_of (i := 306) (by decide +kernel) rfl, by decide⟩, fun h => absurd h (by decide), fun h => absurd h (by decide), fun h => absurd h (by decide), fun h => absurd h (by decide)⟩
theorem xCt_ok_50 : xCok (((4, 201), (mX4_isSave, 1, 1))) := ⟨xMok_mX4_isSave, by decide +kernel, fun h => absurd h (by decide), fun _ => ⟨xws0_of (i := 313) (by decide +kernel) rfl, xws0_of (i := 314) (by decide +kernel) rfl⟩, fun h => absurd h (by decide), fun h => absurd h (by decide), fun h => absurd h (by decide)⟩
theorem xCt_ok_51 : xCok (((4, 204), (mX2_copyFrom, 1, 0))) := ⟨xMok_mX2_copyFrom, by decide +kernel, fun _ => ⟨xws0_of (i := 226) (by decide +kernel) rfl, xws0_of (i := 227) (by decide +kernel) rfl, xws0_of (i := 228) (by decide +kernel) rfl, by decide⟩, fun h => absurd h (by decide), fun h => absurd h (by decide), fun h => absurd h (by decide), fun h => absurd h (by decide)⟩
theorem xCt_ok_52 : xCok (((6, 12), (mX4_count, 1, 0))) := ⟨xMok_mX4_count, by decide +kernel, fun _ => ⟨xws0_of (i := 181) (by decide +kernel) rfl, xws0_of (i := 182) (by decide +kernel) rfl, xws0_of (i := 183) (by decide +kernel) rfl, by decide⟩, fun h => absurd h (by decide), fun h => absurd h (by decide), fun h => absurd h (by decide), fun h => absurd h (by decide)⟩
theorem xCt_ok_53 : xCok (((6, 18), (mX4_of, 2, 0))) := ⟨xMok_mX4_of, by decide +kernel, fun _ => ⟨xws0_of (i := 332) (by decide +kernel) rfl, xws0_of (i := 333) (by decide +kernel) rfl, xws0_of (i := 334) (by decide +kernel) rfl, by decide⟩, fun h => absurd h (by decide), fun h => absurd h (by decide), fun h => absurd h (by decide), fun h => absurd h (by decide)⟩
theorem xCt_ok_54 : xCok (((6, 22), (mX4_inbox, 2, 0))) := ⟨xMok_mX4_inbox, by decide +kernel, fun _ => ⟨xws0_of (i := 344) (by decide +kernel) rfl, xws0_of (i := 345) (by decide +kernel) rfl, xws0_of (i := 346) (by decide +kernel) rfl, by decide⟩, fun h => absurd h (by decide), fun h => absurd h (by decide), fun h => absurd h (by decide), fun h => absurd h (by decide)⟩
theorem xCt_ok_55 : xCok (((6, 25), (mX4_command, 3, 0))) := ⟨xMok_mX4_command, by decide +kernel, fun _ => ⟨xws0_of (i := 348) (by decide +kernel) rfl, xws0_of (i := 349) (by decide +kernel) rfl, xws0_of (i := 350) (by decide +kernel) rfl, by decide⟩, fun h => absurd h (by decide), fun h => absurd h (by decide), fun h => absurd h (by decide), fun h => absurd h (by decide)⟩
theorem xCt_ok_56 : xCok (((6, 29), (mX4_holder, 1, 0))) := ⟨xMok_mX4_holder, by decide +kernel, fun _ => ⟨xws0_of (i := 352) (by decide +kernel) rfl, xws0_of (i := 353) (by decide +kernel) rfl, xws0_of (i := 354) (by decide +kernel) rfl, by decide⟩, fun h => absurd h (by decide), fun h => absurd h (by decide), fun h => absurd h (by decide), fun h => absurd h (by decide)⟩
theorem xCt_ok_57 : xCok (((6, 32), (mL_low, 2, 1))) := ⟨xMok_mL_low, by decide +kernel, fun h => absurd h (by decide), fun _ => ⟨xws0_of (i := 362) (by decide +kernel) rfl, xws0_of (i := 363) (by decide +kernel) rfl⟩, fun h => absurd h (by decide), fun h => absurd h (by decide), fun h => absurd h (by decide)⟩
theorem xCt_ok_58 : xCok (((6, 37), (mX4_prefer, 2, 0))) := ⟨xMok_mX4_prefer, by decide +kernel, fun _ => ⟨xws0_of (i := 366) (by decide +kernel) rfl, xws0_of (i := 367) (by decide +kernel) rfl, xws0_of (i := 368) (by decide +kernel) rfl, by decide⟩, fun h => absurd h (by decide), fun h => absurd h (by decide), fun h => absurd h (by decide), fun h => absurd h (by decide)⟩
theorem xCt_ok_59 : xCok (((6, 40), (mX4_post, 2, 0))) := ⟨xMok_mX4_post, by decide +kernel, fun _ => ⟨xws0_of (i := 373) (by decide +kernel) rfl, xws0_of (i := 374) (by decide +kernel) rfl, xws0_of (i := 375) (by decide +kernel) rfl, by decide⟩, fun h => absurd h (by decide), fun h => absurd h (by decide), fun h => absurd h (by decide), fun h => absurd h (by decide)⟩
theorem xCt_ok_60 : xCok (((6, 43), (mX4_release, 1, 0))) := ⟨xMok_mX4_release, by decide +kernel, fun _ => ⟨xws0_of (i := 378) (by decide +kernel) rfl, xws0_of (i := 379) (by decide +kernel) rfl, xws0_of (i := 380) (by decide +kernel) rfl, by decide⟩, fun h => absurd h (by decide), fun h => absurd h (by decide), fun h => absurd h (by decide), fun h => absurd h (by decide)⟩
theorem xCt_ok_61 : xCok (((6, 46), (mX4_run, 0, 0))) := ⟨xMok_mX4_run, by decide +kernel, fun _ => ⟨xws0_of (i := 382) (by decide +kernel) rfl, xws0_of (i := 383) (by decide +kernel) rfl, xws0_of (i := 384) (by decide +kernel) rfl, by decide⟩, fun h => absurd h (by decide), fun h => absurd h (by decide), fun h => absurd h (by decide), fun h => absurd h (by decide)⟩
theorem xCt_ok_62 : xCok (((6, 50), (mX4_step, 1, 0))) := ⟨xMok_mX4_step, by decide +kernel, fun _ => ⟨xws0_of (i := 387) (by decide +kernel) rfl, xws0_of (i := 388) (by decide +kernel) rfl, xws0_of (i := 389) (by decide +kernel) rfl, by decide⟩, fun h => absurd h (by decide), fun h => absurd h (by decide), fun h => absurd h (by decide), fun h => absurd h (by decide)⟩
theorem xCt_ok_63 : xCok (((6, 53), (mX4_add, 3, 0))) := ⟨xMok_mX4_add, by decide +kernel, fun _ => ⟨xws0_of (i := 399) (by decide +kernel) rfl, xws0_of (i := 400) (by decide +kernel) rfl, xws0_of (i := 401) (by decide +kernel) rfl, by decide⟩, fun h => absurd h (by decide), fun h => absurd h (by decide), fun h => absurd h (by decide), fun h => absurd h (by decide)⟩
theorem xCt_ok_64 : xCok (((6, 56), (mX4_init, 0, 2))) := ⟨xMok_mX4_init, by decide +kernel, fun h => absurd h (by decide), fun h => absurd h (by decide), fun _ => ⟨xws0_of (i := 17) (by decide +kernel) rfl, xws0_of (i := 18) (by decide +kernel) rfl, rfl, rfl⟩, fun h => absurd h (by decide), fun h => absurd h (by decide)⟩
theorem xCt_ok_65 : xCok (((6, 57), (mL_digest, 1, 1))) := ⟨xMok_mL_digest, by decide +kernel, fun h => absurd h (by decide), fun _ => ⟨xws0_of (i := 327) (by decide +kernel) rfl, xws0_of (i := 328) (by decide +kernel) rfl⟩, fun h => absurd h (by decide), fun h => absurd h (by decide), fun h => absurd h (by decide)⟩
theorem xCt_ok_66 : xCok (((6, 61), (mX4_save, 1, 0))) := ⟨xMok_mX4_save, by decide +kernel, fun _ => ⟨xws0_of (i := 309) (by decide +kernel) rfl, xws0_of (i := 310) (by decide +kernel) rfl, xws0_of (i := 311) (by decide +kernel) rfl, by decide⟩, fun h => absurd h (by decide), fun h => absurd h (by decide), fun h => absurd h (by decide), fun h => absurd h (by decide)⟩
theorem xCt_ok_67 : xCok (((6, 64), (mX4_undo, 0, 0))) := ⟨xMok_mX4_undo, by decide +kernel, fun _ => ⟨xws0_of (i := 300) (by decide +kernel) rfl, xws0_of (i := 301) (by decide +kernel) rfl, xws0_of (i := 302) (by decide +kernel) rfl, by decide⟩, fun h => absurd h (by decide), fun h => absurd h (by decide), fun h => absurd h (by decide), fun h => absurd h (by decide)⟩
theorem xCt_ok_68 : xCok (((6, 67), (mX4_restore, 1, 0))) := ⟨xMok_mX4_restore, by decide +kernel, fun _ => ⟨xws0_of (i := 316) (by decide +kernel) rfl, xws0_of (i := 317) (by decide +kernel) rfl, xws0_of (i := 318) (by decide +kernel) rfl, by decide⟩, fun h => absurd h (by decide), fun h => absurd h (by decide), fun h => absurd h (by decide), fun h => absurd h (by decide)⟩
theorem xCt_ok_69 : xCok (((6, 70), (mL_cell, 2, 1))) := ⟨xMok_mL_cell, by decide +kernel, fun h => absurd h (by decide), fun _ => ⟨xws0_of (i := 324) (by decide +kernel) rfl, xws0_of (i := 325) (by decide +kernel) rfl⟩, fun h => absurd h (by decide), fun h => absurd h (by decide), fun h => absurd h (by decide)⟩
theorem xCt_ok_70 : xCok (((6, 74), (mL_act, 3, 1))) := ⟨xMok_mL_act, by decide +kernel, fun h => absurd h (by decide), fun _ => ⟨xws0_of (i := 359) (by decide +kernel) rfl, xws0_of (i := 360) (by decide +kernel) rfl⟩, fun h => absurd h (by decide), fun h => absurd h (by decide), fun h => absurd h (by decide)⟩
theorem xCt_ok_71 : xCok (((6, 78), (mL_addsUp, 1, 1))) := ⟨xMok_mL_addsUp, by decide +kernel, fun h => absurd h (by decide), fun _ => ⟨xws0_of (i := 414) (by decide +kernel) rfl, xws0_of (i := 415) (by decide +kernel) rfl⟩, fun h => absurd h (by decide), fun h => absurd h (by decide), fun h => absurd h (by decide)⟩
theorem xCt_ok_72 : xCok (((6, 82), (mX4_slotsLeft, 0, 0))) := ⟨xMok_mX4_slotsLeft, by decide +kernel, fun _ => ⟨xws0_of (i := 285) (by decide +kernel) rfl, xws0_of (i := 286) (by decide +kernel) rfl, xws0_of (i := 287) (by decide +kernel) rfl, by decide⟩, fun h => absurd h (by decide), fun h => absurd h (by decide), fun h => absurd h (by decide), fun h => absurd h (by decide)⟩
set_option maxRecDepth 4000 in
theorem xCt_ok : ∀ e ∈ xCt, xCok e := List.forall_mem_cons.mpr ⟨xCt_ok_0, List.forall_mem_cons.mpr ⟨xCt_ok_1, List.forall_mem_cons.mpr ⟨xCt_ok_2, List.forall_mem_cons.mpr ⟨xCt_ok_3, List.forall_mem_cons.mpr ⟨xCt_ok_4, List.forall_mem_cons.mpr ⟨xCt_ok_5, List.forall_mem_cons.mpr ⟨xCt_ok_6, List.forall_mem_cons.mpr ⟨xCt_ok_7, List.forall_mem_cons.mpr ⟨xCt_ok_8, List.forall_mem_cons.mpr ⟨xCt_ok_9, List.forall_mem_cons.mpr ⟨xCt_ok_10, List.forall_mem_cons.mpr ⟨xCt_ok_11, List.forall_mem_cons.mpr ⟨xCt_ok_12, List.forall_mem_cons.mpr ⟨xCt_ok_13, List.forall_mem_cons.mpr ⟨xCt_ok_14, List.forall_mem_cons.mpr ⟨xCt_ok_15, List.forall_mem_cons.mpr ⟨xCt_ok_16, List.forall_mem_cons.mpr ⟨xCt_ok_17, List.forall_mem_cons.mpr ⟨xCt_ok_18, List.forall_mem_cons.mpr ⟨xCt_ok_19, List.forall_mem_cons.mpr ⟨xCt_ok_20, List.forall_mem_cons.mpr ⟨xCt_ok_21, List.forall_mem_cons.mpr ⟨xCt_ok_22, List.forall_mem_cons.mpr ⟨xCt_ok_23, List.forall_mem_cons.mpr ⟨xCt_ok_24, List.forall_mem_cons.mpr ⟨xCt_ok_25, List.forall_mem_cons.mpr ⟨xCt_ok_26, List.forall_mem_cons.mpr ⟨xCt_ok_27, List.forall_mem_cons.mpr ⟨xCt_ok_28, List.forall_mem_cons.mpr ⟨xCt_ok_29, List.forall_mem_cons.mpr ⟨xCt_ok_30, List.forall_mem_cons.mpr ⟨xCt_ok_31, List.forall_mem_cons.mpr ⟨xCt_ok_32, List.forall_mem_cons.mpr ⟨xCt_ok_33, List.forall_mem_cons.mpr ⟨xCt_ok_34, List.forall_mem_cons.mpr ⟨xCt_ok_35, List.forall_mem_cons.mpr ⟨xCt_ok_36, List.forall_mem_cons.mpr ⟨xCt_ok_37, List.forall_mem_cons.mpr ⟨xCt_ok_38, List.forall_mem_cons.mpr ⟨xCt_ok_39, List.forall_mem_cons.mpr ⟨xCt_ok_40, List.forall_mem_cons.mpr ⟨xCt_ok_41, List.forall_mem_cons.mpr ⟨xCt_ok_42, List.forall_mem_cons.mpr ⟨xCt_ok_43, List.forall_mem_cons.mpr ⟨xCt_ok_44, List.forall_mem_cons.mpr ⟨xCt_ok_45, List.forall_mem_cons.mpr ⟨xCt_ok_46, List.forall_mem_cons.mpr ⟨xCt_ok_47, List.forall_mem_cons.mpr ⟨xCt_ok_48, List.forall_mem_cons.mpr ⟨xCt_ok_49, List.forall_mem_cons.mpr ⟨xCt_ok_50, List.forall_mem_cons.mpr ⟨xCt_ok_51, List.forall_mem_cons.mpr ⟨xCt_ok_52, List.forall_mem_cons.mpr ⟨xCt_ok_53, List.forall_mem_cons.mpr ⟨xCt_ok_54, List.forall_mem_cons.mpr ⟨xCt_ok_55, List.forall_mem_cons.mpr ⟨xCt_ok_56, List.forall_mem_cons.mpr ⟨xCt_ok_57, List.forall_mem_cons.mpr ⟨xCt_ok_58, List.forall_mem_cons.mpr ⟨xCt_ok_59, List.forall_mem_cons.mpr ⟨xCt_ok_60, List.forall_mem_cons.mpr ⟨xCt_ok_61, List.forall_mem_cons.mpr ⟨xCt_ok_62, List.forall_mem_cons.mpr ⟨xCt_ok_63, List.forall_mem_cons.mpr ⟨xCt_ok_64, List.forall_mem_cons.mpr ⟨xCt_ok_65, List.forall_mem_cons.mpr ⟨xCt_ok_66, List.forall_mem_cons.mpr ⟨xCt_ok_67, List.forall_mem_cons.mpr ⟨xCt_ok_68, List.forall_mem_cons.mpr ⟨xCt_ok_69, List.forall_mem_cons.mpr ⟨xCt_ok_70, List.forall_mem_cons.mpr ⟨xCt_ok_71, List.forall_mem_cons.mpr ⟨xCt_ok_72, fun _ h => absurd h List.not_mem_nil⟩⟩⟩⟩⟩⟩⟩⟩⟩⟩⟩⟩⟩⟩⟩⟩⟩⟩⟩⟩⟩⟩⟩⟩⟩⟩⟩⟩⟩⟩⟩⟩⟩⟩⟩⟩⟩⟩⟩⟩⟩⟩⟩⟩⟩⟩⟩⟩⟩⟩⟩⟩⟩⟩⟩⟩⟩⟩⟩⟩⟩⟩⟩⟩⟩⟩⟩⟩⟩⟩⟩⟩⟩
