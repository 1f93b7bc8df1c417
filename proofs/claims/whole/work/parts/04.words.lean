/-! ===== the printed words behind the tables, by program ===== -/
def xws0 : List Cond := lw_tbl.filter goodWord
theorem xws0_of {i : Nat} {w : Cond} (h : lw_tbl[i]? = some w) (hg : goodWord w = true) : w ∈ xws0 := List.mem_filter.mpr ⟨List.mem_of_getElem? h, hg⟩
theorem xws0_good : GoodIn xws0 xws0 := fun w hw => ⟨hw, good_of_word (List.mem_filter.mp hw).2⟩
def xwsOf (y : xM) : List Cond := Cond.code y.1 y.2.1 y.2.2.1 y.2.2.2.1 :: xws0
/-- links of nest mates, which are no words of a method's list -/
def xNw : List Cond := [.methodLinkNest (xcn 2) 24 yX0_init "TurnSlots", .methodLinkNest (xcn 4) 36 yX3_init "TurnSlots", .fieldLinkNest (xcn 3) 61 "TurnSlots" "LEAST_N" "[I" "TurnSlots", .fieldLinkNest (xcn 3) 64 "TurnSlots" "GREATEST_N" "[I" "TurnSlots", .methodLinkNest (xcn 2) 67 yX4_has "TurnSlots", .methodLinkNest (xcn 0) 65 yX4_has "TurnSlots"]
theorem xNw_tbl : ∀ w ∈ xNw, w ∈ lw_tbl := List.forall_mem_cons.mpr ⟨List.mem_of_getElem? (i := 76) (by decide +kernel), List.forall_mem_cons.mpr ⟨List.mem_of_getElem? (i := 181) (by decide +kernel), List.forall_mem_cons.mpr ⟨List.mem_of_getElem? (i := 378) (by decide +kernel), List.forall_mem_cons.mpr ⟨List.mem_of_getElem? (i := 379) (by decide +kernel), List.forall_mem_cons.mpr ⟨List.mem_of_getElem? (i := 441) (by decide +kernel), List.forall_mem_cons.mpr ⟨List.mem_of_getElem? (i := 472) (by decide +kernel), fun _ h => absurd h List.not_mem_nil⟩⟩⟩⟩⟩⟩
theorem xNw_kind : ∀ w ∈ xNw, (∃ a i x h, w = .methodLinkNest a i x h) ∨ (∃ a i b n d h, w = .fieldLinkNest a i b n d h) := List.forall_mem_cons.mpr ⟨Or.inl ⟨_, _, _, _, rfl⟩, List.forall_mem_cons.mpr ⟨Or.inl ⟨_, _, _, _, rfl⟩, List.forall_mem_cons.mpr ⟨Or.inr ⟨_, _, _, _, _, _, rfl⟩, List.forall_mem_cons.mpr ⟨Or.inr ⟨_, _, _, _, _, _, rfl⟩, List.forall_mem_cons.mpr ⟨Or.inl ⟨_, _, _, _, rfl⟩, List.forall_mem_cons.mpr ⟨Or.inl ⟨_, _, _, _, rfl⟩, fun _ h => absurd h List.not_mem_nil⟩⟩⟩⟩⟩⟩
def xFok (e : (Nat × Nat) × (Nat × Nat)) : Prop := ((1 ≤ e.2.1 ∧ e.2.1 ≤ 6) ∨ e.2.1 = 13) ∧ e.2.2 < xN e.2.1 ∧ Cond.fieldLink (xcn e.1.1) e.1.2 (xT e.2.1 e.2.2).1 (xT e.2.1 e.2.2).2.1 (xT e.2.1 e.2.2).2.2.1 ∈ xws0
theorem xFt_ok_0 : xFok (((0, 9), (1, 0))) := ⟨by decide, by decide, xws0_of (i := 80) (by decide +kernel) rfl⟩
theorem xFt_ok_1 : xFok (((0, 15), (1, 1))) := ⟨by decide, by decide, xws0_of (i := 83) (by decide +kernel) rfl⟩
theorem xFt_ok_2 : xFok (((0, 18), (1, 2))) := ⟨by decide, by decide, xws0_of (i := 86) (by decide +kernel) rfl⟩
theorem xFt_ok_3 : xFok (((0, 21), (1, 3))) := ⟨by decide, by decide, xws0_of (i := 88) (by decide +kernel) rfl⟩
theorem xFt_ok_4 : xFok (((0, 30), (1, 4))) := ⟨by decide, by decide, xws0_of (i := 92) (by decide +kernel) rfl⟩
theorem xFt_ok_5 : xFok (((0, 34), (1, 5))) := ⟨by decide, by decide, xws0_of (i := 94) (by decide +kernel) rfl⟩
theorem xFt_ok_6 : xFok (((0, 37), (1, 6))) := ⟨by decide, by decide, xws0_of (i := 96) (by decide +kernel) rfl⟩
theorem xFt_ok_7 : xFok (((0, 40), (1, 7))) := ⟨by decide, by decide, xws0_of (i := 99) (by decide +kernel) rfl⟩
theorem xFt_ok_8 : xFok (((0, 43), (1, 8))) := ⟨by decide, by decide, xws0_of (i := 102) (by decide +kernel) rfl⟩
theorem xFt_ok_9 : xFok (((0, 46), (1, 9))) := ⟨by decide, by decide, xws0_of (i := 105) (by decide +kernel) rfl⟩
theorem xFt_ok_10 : xFok (((0, 49), (1, 10))) := ⟨by decide, by decide, xws0_of (i := 108) (by decide +kernel) rfl⟩
theorem xFt_ok_11 : xFok (((0, 52), (4, 5))) := ⟨by decide, by decide, xws0_of (i := 194) (by decide +kernel) rfl⟩
theorem xFt_ok_12 : xFok (((0, 55), (4, 2))) := ⟨by decide, by decide, xws0_of (i := 189) (by decide +kernel) rfl⟩
theorem xFt_ok_13 : xFok (((0, 56), (4, 3))) := ⟨by decide, by decide, xws0_of (i := 191) (by decide +kernel) rfl⟩
theorem xFt_ok_14 : xFok (((1, 11), (2, 0))) := ⟨by decide, by decide, xws0_of (i := 168) (by decide +kernel) rfl⟩
theorem xFt_ok_15 : xFok (((1, 18), (2, 1))) := ⟨by decide, by decide, xws0_of (i := 169) (by decide +kernel) rfl⟩
theorem xFt_ok_16 : xFok (((1, 22), (2, 2))) := ⟨by decide, by decide, xws0_of (i := 170) (by decide +kernel) rfl⟩
theorem xFt_ok_17 : xFok (((2, 11), (3, 0))) := ⟨by decide, by decide, xws0_of (i := 135) (by decide +kernel) rfl⟩
theorem xFt_ok_18 : xFok (((2, 17), (3, 1))) := ⟨by decide, by decide, xws0_of (i := 137) (by decide +kernel) rfl⟩
theorem xFt_ok_19 : xFok (((2, 21), (3, 2))) := ⟨by decide, by decide, xws0_of (i := 139) (by decide +kernel) rfl⟩
theorem xFt_ok_20 : xFok (((2, 35), (3, 3))) := ⟨by decide, by decide, xws0_of (i := 140) (by decide +kernel) rfl⟩
theorem xFt_ok_21 : xFok (((2, 39), (3, 4))) := ⟨by decide, by decide, xws0_of (i := 142) (by decide +kernel) rfl⟩
theorem xFt_ok_22 : xFok (((2, 42), (3, 5))) := ⟨by decide, by decide, xws0_of (i := 144) (by decide +kernel) rfl⟩
theorem xFt_ok_23 : xFok (((2, 45), (1, 6))) := ⟨by decide, by decide, xws0_of (i := 97) (by decide +kernel) rfl⟩
theorem xFt_ok_24 : xFok (((2, 48), (1, 4))) := ⟨by decide, by decide, xws0_of (i := 93) (by decide +kernel) rfl⟩
theorem xFt_ok_25 : xFok (((2, 51), (1, 10))) := ⟨by decide, by decide, xws0_of (i := 109) (by decide +kernel) rfl⟩
theorem xFt_ok_26 : xFok (((2, 54), (1, 1))) := ⟨by decide, by decide, xws0_of (i := 84) (by decide +kernel) rfl⟩
theorem xFt_ok_27 : xFok (((2, 57), (1, 0))) := ⟨by decide, by decide, xws0_of (i := 81) (by decide +kernel) rfl⟩
theorem xFt_ok_28 : xFok (((2, 60), (1, 9))) := ⟨by decide, by decide, xws0_of (i := 106) (by decide +kernel) rfl⟩
theorem xFt_ok_29 : xFok (((2, 77), (1, 8))) := ⟨by decide, by decide, xws0_of (i := 104) (by decide +kernel) rfl⟩
theorem xFt_ok_30 : xFok (((2, 120), (1, 3))) := ⟨by decide, by decide, xws0_of (i := 90) (by decide +kernel) rfl⟩
theorem xFt_ok_31 : xFok (((2, 129), (1, 7))) := ⟨by decide, by decide, xws0_of (i := 101) (by decide +kernel) rfl⟩
theorem xFt_ok_32 : xFok (((3, 9), (4, 0))) := ⟨by decide, by decide, xws0_of (i := 185) (by decide +kernel) rfl⟩
theorem xFt_ok_33 : xFok (((3, 15), (4, 2))) := ⟨by decide, by decide, xws0_of (i := 188) (by decide +kernel) rfl⟩
theorem xFt_ok_34 : xFok (((3, 19), (4, 3))) := ⟨by decide, by decide, xws0_of (i := 190) (by decide +kernel) rfl⟩
theorem xFt_ok_35 : xFok (((3, 24), (4, 1))) := ⟨by decide, by decide, xws0_of (i := 186) (by decide +kernel) rfl⟩
theorem xFt_ok_36 : xFok (((3, 28), (4, 6))) := ⟨by decide, by decide, xws0_of (i := 196) (by decide +kernel) rfl⟩
theorem xFt_ok_37 : xFok (((3, 31), (4, 5))) := ⟨by decide, by decide, xws0_of (i := 195) (by decide +kernel) rfl⟩
theorem xFt_ok_38 : xFok (((3, 38), (4, 4))) := ⟨by decide, by decide, xws0_of (i := 193) (by decide +kernel) rfl⟩
theorem xFt_ok_39 : xFok (((4, 10), (5, 0))) := ⟨by decide, by decide, xws0_of (i := 214) (by decide +kernel) rfl⟩
theorem xFt_ok_40 : xFok (((4, 16), (5, 1))) := ⟨by decide, by decide, xws0_of (i := 215) (by decide +kernel) rfl⟩
theorem xFt_ok_41 : xFok (((4, 22), (5, 2))) := ⟨by decide, by decide, xws0_of (i := 216) (by decide +kernel) rfl⟩
theorem xFt_ok_42 : xFok (((4, 26), (5, 3))) := ⟨by decide, by decide, xws0_of (i := 217) (by decide +kernel) rfl⟩
theorem xFt_ok_43 : xFok (((4, 30), (5, 4))) := ⟨by decide, by decide, xws0_of (i := 218) (by decide +kernel) rfl⟩
theorem xFt_ok_44 : xFok (((4, 37), (5, 5))) := ⟨by decide, by decide, xws0_of (i := 219) (by decide +kernel) rfl⟩
theorem xFt_ok_45 : xFok (((4, 49), (3, 0))) := ⟨by decide, by decide, xws0_of (i := 136) (by decide +kernel) rfl⟩
theorem xFt_ok_46 : xFok (((4, 53), (1, 4))) := ⟨by decide, by decide, xws0_of (i := 91) (by decide +kernel) rfl⟩
theorem xFt_ok_47 : xFok (((4, 71), (4, 4))) := ⟨by decide, by decide, xws0_of (i := 192) (by decide +kernel) rfl⟩
theorem xFt_ok_48 : xFok (((4, 78), (4, 1))) := ⟨by decide, by decide, xws0_of (i := 187) (by decide +kernel) rfl⟩
theorem xFt_ok_49 : xFok (((4, 84), (1, 8))) := ⟨by decide, by decide, xws0_of (i := 103) (by decide +kernel) rfl⟩
theorem xFt_ok_50 : xFok (((4, 87), (1, 9))) := ⟨by decide, by decide, xws0_of (i := 107) (by decide +kernel) rfl⟩
theorem xFt_ok_51 : xFok (((4, 97), (3, 1))) := ⟨by decide, by decide, xws0_of (i := 138) (by decide +kernel) rfl⟩
theorem xFt_ok_52 : xFok (((4, 104), (3, 3))) := ⟨by decide, by decide, xws0_of (i := 141) (by decide +kernel) rfl⟩
theorem xFt_ok_53 : xFok (((4, 116), (1, 6))) := ⟨by decide, by decide, xws0_of (i := 98) (by decide +kernel) rfl⟩
theorem xFt_ok_54 : xFok (((4, 119), (1, 7))) := ⟨by decide, by decide, xws0_of (i := 100) (by decide +kernel) rfl⟩
theorem xFt_ok_55 : xFok (((4, 130), (1, 10))) := ⟨by decide, by decide, xws0_of (i := 110) (by decide +kernel) rfl⟩
theorem xFt_ok_56 : xFok (((4, 145), (1, 3))) := ⟨by decide, by decide, xws0_of (i := 89) (by decide +kernel) rfl⟩
theorem xFt_ok_57 : xFok (((4, 148), (1, 0))) := ⟨by decide, by decide, xws0_of (i := 82) (by decide +kernel) rfl⟩
theorem xFt_ok_58 : xFok (((4, 151), (1, 1))) := ⟨by decide, by decide, xws0_of (i := 85) (by decide +kernel) rfl⟩
theorem xFt_ok_59 : xFok (((4, 154), (1, 5))) := ⟨by decide, by decide, xws0_of (i := 95) (by decide +kernel) rfl⟩
theorem xFt_ok_60 : xFok (((4, 157), (1, 2))) := ⟨by decide, by decide, xws0_of (i := 87) (by decide +kernel) rfl⟩
theorem xFt_ok_61 : xFok (((4, 172), (3, 4))) := ⟨by decide, by decide, xws0_of (i := 143) (by decide +kernel) rfl⟩
theorem xFt_ok_62 : xFok (((4, 175), (3, 5))) := ⟨by decide, by decide, xws0_of (i := 145) (by decide +kernel) rfl⟩
theorem xFt_ok_63 : xFok (((4, 185), (2, 2))) := ⟨by decide, by decide, xws0_of (i := 171) (by decide +kernel) rfl⟩
theorem xFt_ok_64 : xFok (((5, 7), (6, 1))) := ⟨by decide, by decide, xws0_of (i := 607) (by decide +kernel) rfl⟩
theorem xFt_ok_65 : xFok (((5, 13), (6, 2))) := ⟨by decide, by decide, xws0_of (i := 608) (by decide +kernel) rfl⟩
theorem xFt_ok_66 : xFok (((5, 16), (6, 3))) := ⟨by decide, by decide, xws0_of (i := 609) (by decide +kernel) rfl⟩
theorem xFt_ok_67 : xFok (((5, 19), (6, 5))) := ⟨by decide, by decide, xws0_of (i := 611) (by decide +kernel) rfl⟩
theorem xFt_ok_68 : xFok (((5, 22), (6, 6))) := ⟨by decide, by decide, xws0_of (i := 612) (by decide +kernel) rfl⟩
theorem xFt_ok_69 : xFok (((5, 26), (6, 7))) := ⟨by decide, by decide, xws0_of (i := 613) (by decide +kernel) rfl⟩
theorem xFt_ok_70 : xFok (((5, 29), (6, 9))) := ⟨by decide, by decide, xws0_of (i := 615) (by decide +kernel) rfl⟩
theorem xFt_ok_71 : xFok (((5, 32), (6, 10))) := ⟨by decide, by decide, xws0_of (i := 616) (by decide +kernel) rfl⟩
theorem xFt_ok_72 : xFok (((5, 35), (6, 14))) := ⟨by decide, by decide, xws0_of (i := 620) (by decide +kernel) rfl⟩
theorem xFt_ok_73 : xFok (((5, 38), (6, 0))) := ⟨by decide, by decide, xws0_of (i := 606) (by decide +kernel) rfl⟩
theorem xFt_ok_74 : xFok (((5, 46), (6, 4))) := ⟨by decide, by decide, xws0_of (i := 610) (by decide +kernel) rfl⟩
theorem xFt_ok_75 : xFok (((5, 147), (6, 8))) := ⟨by decide, by decide, xws0_of (i := 614) (by decide +kernel) rfl⟩
theorem xFt_ok_76 : xFok (((5, 155), (6, 11))) := ⟨by decide, by decide, xws0_of (i := 617) (by decide +kernel) rfl⟩
theorem xFt_ok_77 : xFok (((5, 158), (6, 12))) := ⟨by decide, by decide, xws0_of (i := 618) (by decide +kernel) rfl⟩
theorem xFt_ok_78 : xFok (((5, 177), (6, 15))) := ⟨by decide, by decide, xws0_of (i := 621) (by decide +kernel) rfl⟩
theorem xFt_ok_79 : xFok (((5, 180), (6, 13))) := ⟨by decide, by decide, xws0_of (i := 619) (by decide +kernel) rfl⟩
theorem xFt_ok_80 : xFok (((7, 9), (13, 0))) := ⟨by decide, by decide, xws0_of (i := 891) (by decide +kernel) rfl⟩
theorem xFt_ok_81 : xFok (((7, 15), (13, 1))) := ⟨by decide, by decide, xws0_of (i := 890) (by decide +kernel) rfl⟩
set_option maxRecDepth 4000 in
theorem xFt_ok : ∀ e ∈ xFt, xFok e := List.forall_mem_cons.mpr ⟨xFt_ok_0, List.forall_mem_cons.mpr ⟨xFt_ok_1, List.forall_mem_cons.mpr ⟨xFt_ok_2, List.forall_mem_cons.mpr ⟨xFt_ok_3, List.forall_mem_cons.mpr ⟨xFt_ok_4, List.forall_mem_cons.mpr ⟨xFt_ok_5, List.forall_mem_cons.mpr ⟨xFt_ok_6, List.forall_mem_cons.mpr ⟨xFt_ok_7, List.forall_mem_cons.mpr ⟨xFt_ok_8, List.forall_mem_cons.mpr ⟨xFt_ok_9, List.forall_mem_cons.mpr ⟨xFt_ok_10, List.forall_mem_cons.mpr ⟨xFt_ok_11, List.forall_mem_cons.mpr ⟨xFt_ok_12, List.forall_mem_cons.mpr ⟨xFt_ok_13, List.forall_mem_cons.mpr ⟨xFt_ok_14, List.forall_mem_cons.mpr ⟨xFt_ok_15, List.forall_mem_cons.mpr ⟨xFt_ok_16, List.forall_mem_cons.mpr ⟨xFt_ok_17, List.forall_mem_cons.mpr ⟨xFt_ok_18, List.forall_mem_cons.mpr ⟨xFt_ok_19, List.forall_mem_cons.mpr ⟨xFt_ok_20, List.forall_mem_cons.mpr ⟨xFt_ok_21, List.forall_mem_cons.mpr ⟨xFt_ok_22, List.forall_mem_cons.mpr ⟨xFt_ok_23, List.forall_mem_cons.mpr ⟨xFt_ok_24, List.forall_mem_cons.mpr ⟨xFt_ok_25, List.forall_mem_cons.mpr ⟨xFt_ok_26, List.forall_mem_cons.mpr ⟨xFt_ok_27, List.forall_mem_cons.mpr ⟨xFt_ok_28, List.forall_mem_cons.mpr ⟨xFt_ok_29, List.forall_mem_cons.mpr ⟨xFt_ok_30, List.forall_mem_cons.mpr ⟨xFt_ok_31, List.forall_mem_cons.mpr ⟨xFt_ok_32, List.forall_mem_cons.mpr ⟨xFt_ok_33, List.forall_mem_cons.mpr ⟨xFt_ok_34, List.forall_mem_cons.mpr ⟨xFt_ok_35, List.forall_mem_cons.mpr ⟨xFt_ok_36, List.forall_mem_cons.mpr ⟨xFt_ok_37, List.forall_mem_cons.mpr ⟨xFt_ok_38, List.forall_mem_cons.mpr ⟨xFt_ok_39, List.forall_mem_cons.mpr ⟨xFt_ok_40, List.forall_mem_cons.mpr ⟨xFt_ok_41, List.forall_mem_cons.mpr ⟨xFt_ok_42, List.forall_mem_cons.mpr ⟨xFt_ok_43, List.forall_mem_cons.mpr ⟨xFt_ok_44, List.forall_mem_cons.mpr ⟨xFt_ok_45, List.forall_mem_cons.mpr ⟨xFt_ok_46, List.forall_mem_cons.mpr ⟨xFt_ok_47, List.forall_mem_cons.mpr ⟨xFt_ok_48, List.forall_mem_cons.mpr ⟨xFt_ok_49, List.forall_mem_cons.mpr ⟨xFt_ok_50, List.forall_mem_cons.mpr ⟨xFt_ok_51, List.forall_mem_cons.mpr ⟨xFt_ok_52, List.forall_mem_cons.mpr ⟨xFt_ok_53, List.forall_mem_cons.mpr ⟨xFt_ok_54, List.forall_mem_cons.mpr ⟨xFt_ok_55, List.forall_mem_cons.mpr ⟨xFt_ok_56, List.forall_mem_cons.mpr ⟨xFt_ok_57, List.forall_mem_cons.mpr ⟨xFt_ok_58, List.forall_mem_cons.mpr ⟨xFt_ok_59, List.forall_mem_cons.mpr ⟨xFt_ok_60, List.forall_mem_cons.mpr ⟨xFt_ok_61, List.forall_mem_cons.mpr ⟨xFt_ok_62, List.forall_mem_cons.mpr ⟨xFt_ok_63, List.forall_mem_cons.mpr ⟨xFt_ok_64, List.forall_mem_cons.mpr ⟨xFt_ok_65, List.forall_mem_cons.mpr ⟨xFt_ok_66, List.forall_mem_cons.mpr ⟨xFt_ok_67, List.forall_mem_cons.mpr ⟨xFt_ok_68, List.forall_mem_cons.mpr ⟨xFt_ok_69, List.forall_mem_cons.mpr ⟨xFt_ok_70, List.forall_mem_cons.mpr ⟨xFt_ok_71, List.forall_mem_cons.mpr ⟨xFt_ok_72, List.forall_mem_cons.mpr ⟨xFt_ok_73, List.forall_mem_cons.mpr ⟨xFt_ok_74, List.forall_mem_cons.mpr ⟨xFt_ok_75, List.forall_mem_cons.mpr ⟨xFt_ok_76, List.forall_mem_cons.mpr ⟨xFt_ok_77, List.forall_mem_cons.mpr ⟨xFt_ok_78, List.forall_mem_cons.mpr ⟨xFt_ok_79, List.forall_mem_cons.mpr ⟨xFt_ok_80, List.forall_mem_cons.mpr ⟨xFt_ok_81, fun _ h => absurd h List.not_mem_nil⟩⟩⟩⟩⟩⟩⟩⟩⟩⟩⟩⟩⟩⟩⟩⟩⟩⟩⟩⟩⟩⟩⟩⟩⟩⟩⟩⟩⟩⟩⟩⟩⟩⟩⟩⟩⟩⟩⟩⟩⟩⟩⟩⟩⟩⟩⟩⟩⟩⟩⟩⟩⟩⟩⟩⟩⟩⟩⟩⟩⟩⟩⟩⟩⟩⟩⟩⟩⟩⟩⟩⟩⟩⟩⟩⟩⟩⟩⟩⟩⟩⟩
def xSok (e : (Nat × Nat) × Nat) : Prop := (e.2 = 0 → Cond.fieldLink (xcn e.1.1) e.1.2 "TurnSlots" "LEAST_N" "[I" ∈ xws0 ∨ Cond.fieldLinkNest (xcn e.1.1) e.1.2 "TurnSlots" "LEAST_N" "[I" "TurnSlots" ∈ xNw) ∧ (e.2 = 1 → Cond.fieldLink (xcn e.1.1) e.1.2 "TurnSlots" "GREATEST_N" "[I" ∈ xws0 ∨ Cond.fieldLinkNest (xcn e.1.1) e.1.2 "TurnSlots" "GREATEST_N" "[I" "TurnSlots" ∈ xNw) ∧ (e.2 = 2 → Cond.fieldLink (xcn e.1.1) e.1.2 "java/lang/String" "COMPACT_STRINGS" "Z" ∈ xws0)
theorem xSt_ok_0 : xSok (((3, 61), 0)) := ⟨fun _ => Or.inr (List.mem_of_getElem? (i := 2) (by decide +kernel)), fun h => absurd h (by decide), fun h => absurd h (by decide)⟩
theorem xSt_ok_1 : xSok (((3, 64), 1)) := ⟨fun h => absurd h (by decide), fun _ => Or.inr (List.mem_of_getElem? (i := 3) (by decide +kernel)), fun h => absurd h (by decide)⟩
theorem xSt_ok_2 : xSok (((4, 207), 0)) := ⟨fun _ => Or.inl (xws0_of (i := 243) (by decide +kernel) rfl), fun h => absurd h (by decide), fun h => absurd h (by decide)⟩
theorem xSt_ok_3 : xSok (((4, 210), 1)) := ⟨fun h => absurd h (by decide), fun _ => Or.inl (xws0_of (i := 245) (by decide +kernel) rfl), fun h => absurd h (by decide)⟩
theorem xSt_ok_4 : xSok (((7, 38), 2)) := ⟨fun h => absurd h (by decide), fun h => absurd h (by decide), fun _ => xws0_of (i := 304) (by decide +kernel) rfl⟩
set_option maxRecDepth 4000 in
theorem xSt_ok : ∀ e ∈ xSt, xSok e := List.forall_mem_cons.mpr ⟨xSt_ok_0, List.forall_mem_cons.mpr ⟨xSt_ok_1, List.forall_mem_cons.mpr ⟨xSt_ok_2, List.forall_mem_cons.mpr ⟨xSt_ok_3, List.forall_mem_cons.mpr ⟨xSt_ok_4, fun _ h => absurd h List.not_mem_nil⟩⟩⟩⟩⟩
def xIok (e : (Nat × Nat) × Int32) : Prop := Cond.constant (xcn e.1.1) e.1.2 e.2 ∈ xws0
theorem xIt_ok_0 : xIok (((4, 107), 100000)) := xws0_of (i := 419) (by decide +kernel) rfl
theorem xIt_ok_1 : xIok (((4, 112), 99000)) := xws0_of (i := 492) (by decide +kernel) rfl
theorem xIt_ok_2 : xIok (((5, 119), 100000)) := xws0_of (i := 704) (by decide +kernel) rfl
theorem xIt_ok_3 : xIok (((5, 124), 99000)) := xws0_of (i := 765) (by decide +kernel) rfl
theorem xIt_ok_4 : xIok (((10, 265), 1431655765)) := xws0_of (i := 538) (by decide +kernel) rfl
theorem xIt_ok_5 : xIok (((10, 266), 858993459)) := xws0_of (i := 539) (by decide +kernel) rfl
theorem xIt_ok_6 : xIok (((10, 267), 252645135)) := xws0_of (i := 540) (by decide +kernel) rfl
set_option maxRecDepth 4000 in
theorem xIt_ok : ∀ e ∈ xIt, xIok e := List.forall_mem_cons.mpr ⟨xIt_ok_0, List.forall_mem_cons.mpr ⟨xIt_ok_1, List.forall_mem_cons.mpr ⟨xIt_ok_2, List.forall_mem_cons.mpr ⟨xIt_ok_3, List.forall_mem_cons.mpr ⟨xIt_ok_4, List.forall_mem_cons.mpr ⟨xIt_ok_5, List.forall_mem_cons.mpr ⟨xIt_ok_6, fun _ h => absurd h List.not_mem_nil⟩⟩⟩⟩⟩⟩⟩
def xJok (e : (Nat × Nat) × Int64) : Prop := Cond.constantLong (xcn e.1.1) e.1.2 e.2 ∈ xws0
theorem xJt_ok_0 : xJok (((3, 22), 255)) := xws0_of (i := 568) (by decide +kernel) rfl
theorem xJt_ok_1 : xJok (((5, 153), 255)) := xws0_of (i := 837) (by decide +kernel) rfl
theorem xJt_ok_2 : xJok (((6, 77), 4294967295)) := xws0_of (i := 889) (by decide +kernel) rfl
set_option maxRecDepth 4000 in
theorem xJt_ok : ∀ e ∈ xJt, xJok e := List.forall_mem_cons.mpr ⟨xJt_ok_0, List.forall_mem_cons.mpr ⟨xJt_ok_1, List.forall_mem_cons.mpr ⟨xJt_ok_2, fun _ h => absurd h List.not_mem_nil⟩⟩⟩
def xKok (e : (Nat × Nat) × Nat) : Prop := e.2 ≤ 5 ∧ Cond.classLink (xcn e.1.1) e.1.2 (xcn e.2) ∈ xws0
theorem xKt_ok_0 : xKok (((1, 9), 2)) := ⟨by decide, xws0_of (i := 165) (by decide +kernel) rfl⟩
theorem xKt_ok_1 : xKok (((2, 9), 0)) := ⟨by decide, xws0_of (i := 73) (by decide +kernel) rfl⟩
theorem xKt_ok_2 : xKok (((4, 7), 2)) := ⟨by decide, xws0_of (i := 67) (by decide +kernel) rfl⟩
theorem xKt_ok_3 : xKok (((4, 19), 1)) := ⟨by decide, xws0_of (i := 159) (by decide +kernel) rfl⟩
theorem xKt_ok_4 : xKok (((4, 34), 3)) := ⟨by decide, xws0_of (i := 179) (by decide +kernel) rfl⟩
theorem xKt_ok_5 : xKok (((6, 7), 4)) := ⟨by decide, xws0_of (i := 59) (by decide +kernel) rfl⟩
theorem xKt_ok_6 : xKok (((6, 10), 5)) := ⟨by decide, xws0_of (i := 600) (by decide +kernel) rfl⟩
set_option maxRecDepth 4000 in
theorem xKt_ok : ∀ e ∈ xKt, xKok e := List.forall_mem_cons.mpr ⟨xKt_ok_0, List.forall_mem_cons.mpr ⟨xKt_ok_1, List.forall_mem_cons.mpr ⟨xKt_ok_2, List.forall_mem_cons.mpr ⟨xKt_ok_3, List.forall_mem_cons.mpr ⟨xKt_ok_4, List.forall_mem_cons.mpr ⟨xKt_ok_5, List.forall_mem_cons.mpr ⟨xKt_ok_6, fun _ h => absurd h List.not_mem_nil⟩⟩⟩⟩⟩⟩⟩
def xAok (e : Nat × Nat) : Prop := Cond.methodLink (xcn e.1) e.2 arraycopyName ∈ xws0
theorem xAt_ok_0 : xAok ((0, 24)) := xws0_of (i := 259) (by decide +kernel) rfl
theorem xAt_ok_1 : xAok ((2, 29)) := xws0_of (i := 262) (by decide +kernel) rfl
set_option maxRecDepth 4000 in
theorem xAt_ok : ∀ e ∈ xAt, xAok e := List.forall_mem_cons.mpr ⟨xAt_ok_0, List.forall_mem_cons.mpr ⟨xAt_ok_1, fun _ h => absurd h List.not_mem_nil⟩⟩
def xOok (e : Nat × Nat) : Prop := Cond.methodLink (xcn e.1) e.2 objectInit ∈ xws0
theorem xOt_ok_0 : xOok ((4, 1)) := xws0_of (i := 64) (by decide +kernel) rfl
theorem xOt_ok_1 : xOok ((2, 3)) := xws0_of (i := 72) (by decide +kernel) rfl
theorem xOt_ok_2 : xOok ((0, 3)) := xws0_of (i := 79) (by decide +kernel) rfl
theorem xOt_ok_3 : xOok ((1, 3)) := xws0_of (i := 164) (by decide +kernel) rfl
theorem xOt_ok_4 : xOok ((3, 3)) := xws0_of (i := 184) (by decide +kernel) rfl
theorem xOt_ok_5 : xOok ((5, 1)) := xws0_of (i := 605) (by decide +kernel) rfl
set_option maxRecDepth 4000 in
theorem xOt_ok : ∀ e ∈ xOt, xOok e := List.forall_mem_cons.mpr ⟨xOt_ok_0, List.forall_mem_cons.mpr ⟨xOt_ok_1, List.forall_mem_cons.mpr ⟨xOt_ok_2, List.forall_mem_cons.mpr ⟨xOt_ok_3, List.forall_mem_cons.mpr ⟨xOt_ok_4, List.forall_mem_cons.mpr ⟨xOt_ok_5, fun _ h => absurd h List.not_mem_nil⟩⟩⟩⟩⟩⟩
def xXok (e : (Nat × Nat) × Nat) : Prop := (e.2 = 0 → Cond.methodLink (xcn e.1.1) e.1.2 Lib.Math.max.name ∈ xws0) ∧ (e.2 = 1 → Cond.methodLink (xcn e.1.1) e.1.2 Lib.Math.min.name ∈ xws0)
theorem xMt_ok_0 : xXok (((0, 69), 0)) := ⟨fun _ => xws0_of (i := 473) (by decide +kernel) rfl, fun h => absurd h (by decide)⟩
theorem xMt_ok_1 : xXok (((2, 80), 0)) := ⟨fun _ => xws0_of (i := 428) (by decide +kernel) rfl, fun h => absurd h (by decide)⟩
theorem xMt_ok_2 : xXok (((8, 38), 1)) := ⟨fun h => absurd h (by decide), fun _ => xws0_of (i := 323) (by decide +kernel) rfl⟩
theorem xMt_ok_3 : xXok (((8, 92), 0)) := ⟨fun _ => xws0_of (i := 320) (by decide +kernel) rfl, fun h => absurd h (by decide)⟩
set_option maxRecDepth 4000 in
theorem xMt_ok : ∀ e ∈ xMt, xXok e := List.forall_mem_cons.mpr ⟨xMt_ok_0, List.forall_mem_cons.mpr ⟨xMt_ok_1, List.forall_mem_cons.mpr ⟨xMt_ok_2, List.forall_mem_cons.mpr ⟨xMt_ok_3, fun _ h => absurd h List.not_mem_nil⟩⟩⟩⟩
theorem xw_max_s : Cond.static Lib.Math.max.name ∈ xws0 := xws0_of (i := 321) (by decide +kernel) rfl
theorem xw_max_c : Cond.code Lib.Math.max.name Lib.Math.max.code 2 (some .int) ∈ xws0 := xws0_of (i := 322) (by decide +kernel) rfl
theorem xw_min_s : Cond.static Lib.Math.min.name ∈ xws0 := xws0_of (i := 324) (by decide +kernel) rfl
theorem xw_min_c : Cond.code Lib.Math.min.name Lib.Math.min.code 2 (some .int) ∈ xws0 := xws0_of (i := 325) (by decide +kernel) rfl
theorem xw_math : Cond.initialized "java/lang/Math" ∈ xws0 := xws0_of (i := 54) (by decide +kernel) rfl
theorem xw_acNative : Cond.native arraycopyName ∈ xws0 := xws0_of (i := 261) (by decide +kernel) rfl
theorem xw_acStatic : Cond.static arraycopyName ∈ xws0 := xws0_of (i := 260) (by decide +kernel) rfl
theorem xw_acInit : Cond.initialized "java/lang/System" ∈ xws0 := xws0_of (i := 51) (by decide +kernel) rfl
theorem xw_oiInst : Cond.instanceMethod objectInit ∈ xws0 := xws0_of (i := 65) (by decide +kernel) rfl
theorem xw_oiCode : Cond.code objectInit ⟨#[0xb1]⟩ 1 none ∈ xws0 := xws0_of (i := 66) (by decide +kernel) rfl
theorem xw_arr_int : Cond.arrayClass .int ∈ xws0 := xws0_of (i := 134) (by decide +kernel) rfl
theorem xw_arr_boolean : Cond.arrayClass .boolean ∈ xws0 := xws0_of (i := 212) (by decide +kernel) rfl
theorem xw_arr_char : Cond.arrayClass .char ∈ xws0 := xws0_of (i := 213) (by decide +kernel) rfl
theorem xw_inst_0 : Cond.instantiable (xcn 0) (xN 1) ∈ xws0 := xws0_of (i := 75) (by decide +kernel) rfl
theorem xw_ini_0 : Cond.initialized (xcn 0) ∈ xws0 := xws0_of (i := 47) (by decide +kernel) rfl
theorem xw_lay_0 : ∀ w ∈ u_ws (xcn 0) (xT 1) (xN 1), w ∈ xws0 := by
  show ∀ w ∈ [u_lay (xcn 0) (xT 1) 0, u_lay (xcn 0) (xT 1) 1, u_lay (xcn 0) (xT 1) 2, u_lay (xcn 0) (xT 1) 3, u_lay (xcn 0) (xT 1) 4, u_lay (xcn 0) (xT 1) 5, u_lay (xcn 0) (xT 1) 6, u_lay (xcn 0) (xT 1) 7, u_lay (xcn 0) (xT 1) 8, u_lay (xcn 0) (xT 1) 9, u_lay (xcn 0) (xT 1) 10], w ∈ xws0
  exact List.forall_mem_cons.mpr ⟨xws0_of (i := 111) (by decide +kernel) rfl, List.forall_mem_cons.mpr ⟨xws0_of (i := 113) (by decide +kernel) rfl, List.forall_mem_cons.mpr ⟨xws0_of (i := 115) (by decide +kernel) rfl, List.forall_mem_cons.mpr ⟨xws0_of (i := 117) (by decide +kernel) rfl, List.forall_mem_cons.mpr ⟨xws0_of (i := 119) (by decide +kernel) rfl, List.forall_mem_cons.mpr ⟨xws0_of (i := 121) (by decide +kernel) rfl, List.forall_mem_cons.mpr ⟨xws0_of (i := 123) (by decide +kernel) rfl, List.forall_mem_cons.mpr ⟨xws0_of (i := 125) (by decide +kernel) rfl, List.forall_mem_cons.mpr ⟨xws0_of (i := 127) (by decide +kernel) rfl, List.forall_mem_cons.mpr ⟨xws0_of (i := 129) (by decide +kernel) rfl, List.forall_mem_cons.mpr ⟨xws0_of (i := 131) (by decide +kernel) rfl, fun _ h => absurd h List.not_mem_nil⟩⟩⟩⟩⟩⟩⟩⟩⟩⟩⟩
theorem xw_inst_1 : Cond.instantiable (xcn 1) (xN 2) ∈ xws0 := xws0_of (i := 160) (by decide +kernel) rfl
theorem xw_ini_1 : Cond.initialized (xcn 1) ∈ xws0 := xws0_of (i := 48) (by decide +kernel) rfl
theorem xw_lay_1 : ∀ w ∈ u_ws (xcn 1) (xT 2) (xN 2), w ∈ xws0 := by
  show ∀ w ∈ [u_lay (xcn 1) (xT 2) 0, u_lay (xcn 1) (xT 2) 1, u_lay (xcn 1) (xT 2) 2], w ∈ xws0
  exact List.forall_mem_cons.mpr ⟨xws0_of (i := 172) (by decide +kernel) rfl, List.forall_mem_cons.mpr ⟨xws0_of (i := 174) (by decide +kernel) rfl, List.forall_mem_cons.mpr ⟨xws0_of (i := 176) (by decide +kernel) rfl, fun _ h => absurd h List.not_mem_nil⟩⟩⟩
theorem xw_inst_2 : Cond.instantiable (xcn 2) (xN 3) ∈ xws0 := xws0_of (i := 68) (by decide +kernel) rfl
theorem xw_ini_2 : Cond.initialized (xcn 2) ∈ xws0 := xws0_of (i := 46) (by decide +kernel) rfl
theorem xw_lay_2 : ∀ w ∈ u_ws (xcn 2) (xT 3) (xN 3), w ∈ xws0 := by
  show ∀ w ∈ [u_lay (xcn 2) (xT 3) 0, u_lay (xcn 2) (xT 3) 1, u_lay (xcn 2) (xT 3) 2, u_lay (xcn 2) (xT 3) 3, u_lay (xcn 2) (xT 3) 4, u_lay (xcn 2) (xT 3) 5], w ∈ xws0
  exact List.forall_mem_cons.mpr ⟨xws0_of (i := 146) (by decide +kernel) rfl, List.forall_mem_cons.mpr ⟨xws0_of (i := 148) (by decide +kernel) rfl, List.forall_mem_cons.mpr ⟨xws0_of (i := 150) (by decide +kernel) rfl, List.forall_mem_cons.mpr ⟨xws0_of (i := 152) (by decide +kernel) rfl, List.forall_mem_cons.mpr ⟨xws0_of (i := 154) (by decide +kernel) rfl, List.forall_mem_cons.mpr ⟨xws0_of (i := 156) (by decide +kernel) rfl, fun _ h => absurd h List.not_mem_nil⟩⟩⟩⟩⟩⟩
theorem xw_inst_3 : Cond.instantiable (xcn 3) (xN 4) ∈ xws0 := xws0_of (i := 180) (by decide +kernel) rfl
theorem xw_ini_3 : Cond.initialized (xcn 3) ∈ xws0 := xws0_of (i := 49) (by decide +kernel) rfl
theorem xw_lay_3 : ∀ w ∈ u_ws (xcn 3) (xT 4) (xN 4), w ∈ xws0 := by
  show ∀ w ∈ [u_lay (xcn 3) (xT 4) 0, u_lay (xcn 3) (xT 4) 1, u_lay (xcn 3) (xT 4) 2, u_lay (xcn 3) (xT 4) 3, u_lay (xcn 3) (xT 4) 4, u_lay (xcn 3) (xT 4) 5, u_lay (xcn 3) (xT 4) 6], w ∈ xws0
  exact List.forall_mem_cons.mpr ⟨xws0_of (i := 197) (by decide +kernel) rfl, List.forall_mem_cons.mpr ⟨xws0_of (i := 199) (by decide +kernel) rfl, List.forall_mem_cons.mpr ⟨xws0_of (i := 201) (by decide +kernel) rfl, List.forall_mem_cons.mpr ⟨xws0_of (i := 203) (by decide +kernel) rfl, List.forall_mem_cons.mpr ⟨xws0_of (i := 205) (by decide +kernel) rfl, List.forall_mem_cons.mpr ⟨xws0_of (i := 207) (by decide +kernel) rfl, List.forall_mem_cons.mpr ⟨xws0_of (i := 209) (by decide +kernel) rfl, fun _ h => absurd h List.not_mem_nil⟩⟩⟩⟩⟩⟩⟩
theorem xw_inst_4 : Cond.instantiable (xcn 4) (xN 5) ∈ xws0 := xws0_of (i := 60) (by decide +kernel) rfl
theorem xw_ini_4 : Cond.initialized (xcn 4) ∈ xws0 := xws0_of (i := 45) (by decide +kernel) rfl
theorem xw_lay_4 : ∀ w ∈ u_ws (xcn 4) (xT 5) (xN 5), w ∈ xws0 := by
  show ∀ w ∈ [u_lay (xcn 4) (xT 5) 0, u_lay (xcn 4) (xT 5) 1, u_lay (xcn 4) (xT 5) 2, u_lay (xcn 4) (xT 5) 3, u_lay (xcn 4) (xT 5) 4, u_lay (xcn 4) (xT 5) 5], w ∈ xws0
  exact List.forall_mem_cons.mpr ⟨xws0_of (i := 220) (by decide +kernel) rfl, List.forall_mem_cons.mpr ⟨xws0_of (i := 222) (by decide +kernel) rfl, List.forall_mem_cons.mpr ⟨xws0_of (i := 224) (by decide +kernel) rfl, List.forall_mem_cons.mpr ⟨xws0_of (i := 226) (by decide +kernel) rfl, List.forall_mem_cons.mpr ⟨xws0_of (i := 228) (by decide +kernel) rfl, List.forall_mem_cons.mpr ⟨xws0_of (i := 230) (by decide +kernel) rfl, fun _ h => absurd h List.not_mem_nil⟩⟩⟩⟩⟩⟩
theorem xw_inst_5 : Cond.instantiable (xcn 5) (xN 6) ∈ xws0 := xws0_of (i := 601) (by decide +kernel) rfl
theorem xw_ini_5 : Cond.initialized (xcn 5) ∈ xws0 := xws0_of (i := 50) (by decide +kernel) rfl
theorem xw_lay_5 : ∀ w ∈ u_ws (xcn 5) (xT 6) (xN 6), w ∈ xws0 := by
  show ∀ w ∈ [u_lay (xcn 5) (xT 6) 0, u_lay (xcn 5) (xT 6) 1, u_lay (xcn 5) (xT 6) 2, u_lay (xcn 5) (xT 6) 3, u_lay (xcn 5) (xT 6) 4, u_lay (xcn 5) (xT 6) 5, u_lay (xcn 5) (xT 6) 6, u_lay (xcn 5) (xT 6) 7, u_lay (xcn 5) (xT 6) 8, u_lay (xcn 5) (xT 6) 9, u_lay (xcn 5) (xT 6) 10, u_lay (xcn 5) (xT 6) 11, u_lay (xcn 5) (xT 6) 12, u_lay (xcn 5) (xT 6) 13, u_lay (xcn 5) (xT 6) 14, u_lay (xcn 5) (xT 6) 15], w ∈ xws0
  exact List.forall_mem_cons.mpr ⟨xws0_of (i := 622) (by decide +kernel) rfl, List.forall_mem_cons.mpr ⟨xws0_of (i := 624) (by decide +kernel) rfl, List.forall_mem_cons.mpr ⟨xws0_of (i := 626) (by decide +kernel) rfl, List.forall_mem_cons.mpr ⟨xws0_of (i := 628) (by decide +kernel) rfl, List.forall_mem_cons.mpr ⟨xws0_of (i := 630) (by decide +kernel) rfl, List.forall_mem_cons.mpr ⟨xws0_of (i := 632) (by decide +kernel) rfl, List.forall_mem_cons.mpr ⟨xws0_of (i := 634) (by decide +kernel) rfl, List.forall_mem_cons.mpr ⟨xws0_of (i := 636) (by decide +kernel) rfl, List.forall_mem_cons.mpr ⟨xws0_of (i := 638) (by decide +kernel) rfl, List.forall_mem_cons.mpr ⟨xws0_of (i := 640) (by decide +kernel) rfl, List.forall_mem_cons.mpr ⟨xws0_of (i := 642) (by decide +kernel) rfl, List.forall_mem_cons.mpr ⟨xws0_of (i := 644) (by decide +kernel) rfl, List.forall_mem_cons.mpr ⟨xws0_of (i := 646) (by decide +kernel) rfl, List.forall_mem_cons.mpr ⟨xws0_of (i := 648) (by decide +kernel) rfl, List.forall_mem_cons.mpr ⟨xws0_of (i := 650) (by decide +kernel) rfl, List.forall_mem_cons.mpr ⟨xws0_of (i := 652) (by decide +kernel) rfl, fun _ h => absurd h List.not_mem_nil⟩⟩⟩⟩⟩⟩⟩⟩⟩⟩⟩⟩⟩⟩⟩⟩
/-- a method whose code the words hold -/
def xMok (y : xM) : Prop := Cond.code y.1 y.2.1 y.2.2.1 y.2.2.2.1 ∈ xws0 ∧ Cond.initialized y.1.cls ∈ xws0 ∧ (y.1.cls ≠ "java/lang/invoke/MethodHandle" ∧ y.1.cls ≠ "java/lang/invoke/VarHandle") ∧ y.1.cls = xcn (xown y) ∧ y.2.2.1 ≤ 13 ∧ plainName y.1.cls = true
set_option maxRecDepth 100000 in
theorem xMok_mX0_addToSum : xMok mX0_addToSum := ⟨xws0_of (i := 477) rfl rfl, xws0_of (i := 47) (by decide +kernel) rfl, ⟨by decide +kernel, by decide +kernel⟩, rfl, by decide, by decide +kernel⟩
set_option maxRecDepth 100000 in
theorem xMok_mX0_append : xMok mX0_append := ⟨xws0_of (i := 266) rfl rfl, xws0_of (i := 47) (by decide +kernel) rfl, ⟨by decide +kernel, by decide +kernel⟩, rfl, by decide, by decide +kernel⟩
set_option maxRecDepth 100000 in
theorem xMok_mX0_receive : xMok mX0_receive := ⟨xws0_of (i := 404) rfl rfl, xws0_of (i := 47) (by decide +kernel) rfl, ⟨by decide +kernel, by decide +kernel⟩, rfl, by decide, by decide +kernel⟩
set_option maxRecDepth 100000 in
theorem xMok_mX2_account : xMok mX2_account := ⟨xws0_of (i := 463) rfl rfl, xws0_of (i := 46) (by decide +kernel) rfl, ⟨by decide +kernel, by decide +kernel⟩, rfl, by decide, by decide +kernel⟩
set_option maxRecDepth 100000 in
theorem xMok_mX2_freeIfHeldBy : xMok mX2_freeIfHeldBy := ⟨xws0_of (i := 487) rfl rfl, xws0_of (i := 46) (by decide +kernel) rfl, ⟨by decide +kernel, by decide +kernel⟩, rfl, by decide, by decide +kernel⟩
set_option maxRecDepth 100000 in
theorem xMok_mX2_sendersTo : xMok mX2_sendersTo := ⟨xws0_of (i := 455) rfl rfl, xws0_of (i := 46) (by decide +kernel) rfl, ⟨by decide +kernel, by decide +kernel⟩, rfl, by decide, by decide +kernel⟩
set_option maxRecDepth 100000 in
theorem xMok_mX2_stateOf : xMok mX2_stateOf := ⟨xws0_of (i := 440) rfl rfl, xws0_of (i := 46) (by decide +kernel) rfl, ⟨by decide +kernel, by decide +kernel⟩, rfl, by decide, by decide +kernel⟩
set_option maxRecDepth 100000 in
theorem xMok_mX3_append : xMok mX3_append := ⟨xws0_of (i := 572) rfl rfl, xws0_of (i := 49) (by decide +kernel) rfl, ⟨by decide +kernel, by decide +kernel⟩, rfl, by decide, by decide +kernel⟩
set_option maxRecDepth 100000 in
theorem xMok_mX3_characterAt : xMok mX3_characterAt := ⟨xws0_of (i := 282) rfl rfl, xws0_of (i := 49) (by decide +kernel) rfl, ⟨by decide +kernel, by decide +kernel⟩, rfl, by decide, by decide +kernel⟩
set_option maxRecDepth 100000 in
theorem xMok_mX3_charactersIn : xMok mX3_charactersIn := ⟨xws0_of (i := 567) rfl rfl, xws0_of (i := 49) (by decide +kernel) rfl, ⟨by decide +kernel, by decide +kernel⟩, rfl, by decide, by decide +kernel⟩
set_option maxRecDepth 100000 in
theorem xMok_mX4_has : xMok mX4_has := ⟨xws0_of (i := 443) rfl rfl, xws0_of (i := 45) (by decide +kernel) rfl, ⟨by decide +kernel, by decide +kernel⟩, rfl, by decide, by decide +kernel⟩
set_option maxRecDepth 100000 in
theorem xMok_mX4_isCommand : xMok mX4_isCommand := ⟨xws0_of (i := 242) rfl rfl, xws0_of (i := 45) (by decide +kernel) rfl, ⟨by decide +kernel, by decide +kernel⟩, rfl, by decide, by decide +kernel⟩
set_option maxRecDepth 100000 in
theorem xMok_mX4_isContext : xMok mX4_isContext := ⟨xws0_of (i := 239) rfl rfl, xws0_of (i := 45) (by decide +kernel) rfl, ⟨by decide +kernel, by decide +kernel⟩, rfl, by decide, by decide +kernel⟩
set_option maxRecDepth 100000 in
theorem xMok_mX4_isLock : xMok mX4_isLock := ⟨xws0_of (i := 411) rfl rfl, xws0_of (i := 45) (by decide +kernel) rfl, ⟨by decide +kernel, by decide +kernel⟩, rfl, by decide, by decide +kernel⟩
set_option maxRecDepth 100000 in
theorem xMok_mX4_isPriority : xMok mX4_isPriority := ⟨xws0_of (i := 396) rfl rfl, xws0_of (i := 45) (by decide +kernel) rfl, ⟨by decide +kernel, by decide +kernel⟩, rfl, by decide, by decide +kernel⟩
set_option maxRecDepth 100000 in
theorem xMok_mX4_isSave : xMok mX4_isSave := ⟨xws0_of (i := 595) rfl rfl, xws0_of (i := 45) (by decide +kernel) rfl, ⟨by decide +kernel, by decide +kernel⟩, rfl, by decide, by decide +kernel⟩
set_option maxRecDepth 100000 in
theorem xMok_mX4_isStep : xMok mX4_isStep := ⟨xws0_of (i := 418) rfl rfl, xws0_of (i := 45) (by decide +kernel) rfl, ⟨by decide +kernel, by decide +kernel⟩, rfl, by decide, by decide +kernel⟩
set_option maxRecDepth 100000 in
theorem xMok_mX4_wipe : xMok mX4_wipe := ⟨xws0_of (i := 576) rfl rfl, xws0_of (i := 45) (by decide +kernel) rfl, ⟨by decide +kernel, by decide +kernel⟩, rfl, by decide, by decide +kernel⟩
set_option maxRecDepth 100000 in
theorem xMok_mX5_commandBy : xMok mX5_commandBy := ⟨xws0_of (i := 864) rfl rfl, xws0_of (i := 50) (by decide +kernel) rfl, ⟨by decide +kernel, by decide +kernel⟩, rfl, by decide, by decide +kernel⟩
set_option maxRecDepth 100000 in
theorem xMok_mX5_count1 : xMok mX5_count1 := ⟨xws0_of (i := 796) rfl rfl, xws0_of (i := 50) (by decide +kernel) rfl, ⟨by decide +kernel, by decide +kernel⟩, rfl, by decide, by decide +kernel⟩
set_option maxRecDepth 100000 in
theorem xMok_mX5_get : xMok mX5_get := ⟨xws0_of (i := 671) rfl rfl, xws0_of (i := 50) (by decide +kernel) rfl, ⟨by decide +kernel, by decide +kernel⟩, rfl, by decide, by decide +kernel⟩
set_option maxRecDepth 100000 in
theorem xMok_mX5_in : xMok mX5_in := ⟨xws0_of (i := 664) rfl rfl, xws0_of (i := 50) (by decide +kernel) rfl, ⟨by decide +kernel, by decide +kernel⟩, rfl, by decide, by decide +kernel⟩
set_option maxRecDepth 100000 in
theorem xMok_mX5_lay : xMok mX5_lay := ⟨xws0_of (i := 683) rfl rfl, xws0_of (i := 50) (by decide +kernel) rfl, ⟨by decide +kernel, by decide +kernel⟩, rfl, by decide, by decide +kernel⟩
set_option maxRecDepth 100000 in
theorem xMok_mX5_putAside : xMok mX5_putAside := ⟨xws0_of (i := 812) rfl rfl, xws0_of (i := 50) (by decide +kernel) rfl, ⟨by decide +kernel, by decide +kernel⟩, rfl, by decide, by decide +kernel⟩
set_option maxRecDepth 100000 in
theorem xMok_mX5_records : xMok mX5_records := ⟨xws0_of (i := 675) rfl rfl, xws0_of (i := 50) (by decide +kernel) rfl, ⟨by decide +kernel, by decide +kernel⟩, rfl, by decide, by decide +kernel⟩
set_option maxRecDepth 100000 in
theorem xMok_mX5_sign : xMok mX5_sign := ⟨xws0_of (i := 857) rfl rfl, xws0_of (i := 50) (by decide +kernel) rfl, ⟨by decide +kernel, by decide +kernel⟩, rfl, by decide, by decide +kernel⟩
set_option maxRecDepth 100000 in
theorem xMok_mX5_takeBack : xMok mX5_takeBack := ⟨xws0_of (i := 816) rfl rfl, xws0_of (i := 50) (by decide +kernel) rfl, ⟨by decide +kernel, by decide +kernel⟩, rfl, by decide, by decide +kernel⟩
set_option maxRecDepth 100000 in
theorem xMok_mX5_undo : xMok mX5_undo := ⟨xws0_of (i := 880) rfl rfl, xws0_of (i := 50) (by decide +kernel) rfl, ⟨by decide +kernel, by decide +kernel⟩, rfl, by decide, by decide +kernel⟩
set_option maxRecDepth 100000 in
theorem xMok_mX5_wipe : xMok mX5_wipe := ⟨xws0_of (i := 841) rfl rfl, xws0_of (i := 50) (by decide +kernel) rfl, ⟨by decide +kernel, by decide +kernel⟩, rfl, by decide, by decide +kernel⟩
set_option maxRecDepth 100000 in
theorem xMok_mJ0_coder_7d493 : xMok mJ0_coder_7d493 := ⟨xws0_of (i := 313) rfl rfl, xws0_of (i := 52) (by decide +kernel) rfl, ⟨by decide +kernel, by decide +kernel⟩, rfl, by decide, by decide +kernel⟩
set_option maxRecDepth 100000 in
theorem xMok_mJ0_isLatin1_aae02 : xMok mJ0_isLatin1_aae02 := ⟨xws0_of (i := 303) rfl rfl, xws0_of (i := 52) (by decide +kernel) rfl, ⟨by decide +kernel, by decide +kernel⟩, rfl, by decide, by decide +kernel⟩
set_option maxRecDepth 100000 in
theorem xMok_mJ1_canEncode_9a6ad : xMok mJ1_canEncode_9a6ad := ⟨xws0_of (i := 319) rfl rfl, xws0_of (i := 53) (by decide +kernel) rfl, ⟨by decide +kernel, by decide +kernel⟩, rfl, by decide, by decide +kernel⟩
set_option maxRecDepth 100000 in
theorem xMok_mJ1_indexOfChar_4cfef : xMok mJ1_indexOfChar_4cfef := ⟨xws0_of (i := 328) rfl rfl, xws0_of (i := 53) (by decide +kernel) rfl, ⟨by decide +kernel, by decide +kernel⟩, rfl, by decide, by decide +kernel⟩
set_option maxRecDepth 100000 in
theorem xMok_mJ6_bitCount_0f7a4 : xMok mJ6_bitCount_0f7a4 := ⟨xws0_of (i := 537) rfl rfl, xws0_of (i := 58) (by decide +kernel) rfl, ⟨by decide +kernel, by decide +kernel⟩, rfl, by decide, by decide +kernel⟩
set_option maxRecDepth 100000 in
theorem xMok_mX0_init : xMok mX0_init := ⟨xws0_of (i := 78) rfl rfl, xws0_of (i := 47) (by decide +kernel) rfl, ⟨by decide +kernel, by decide +kernel⟩, rfl, by decide, by decide +kernel⟩
set_option maxRecDepth 100000 in
theorem xMok_mX0_copyFrom : xMok mX0_copyFrom := ⟨xws0_of (i := 258) rfl rfl, xws0_of (i := 47) (by decide +kernel) rfl, ⟨by decide +kernel, by decide +kernel⟩, rfl, by decide, by decide +kernel⟩
set_option maxRecDepth 100000 in
theorem xMok_mX0_goBack : xMok mX0_goBack := ⟨xws0_of (i := 471) rfl rfl, xws0_of (i := 47) (by decide +kernel) rfl, ⟨by decide +kernel, by decide +kernel⟩, rfl, by decide, by decide +kernel⟩
set_option maxRecDepth 100000 in
theorem xMok_mX0_load : xMok mX0_load := ⟨xws0_of (i := 387) rfl rfl, xws0_of (i := 47) (by decide +kernel) rfl, ⟨by decide +kernel, by decide +kernel⟩, rfl, by decide, by decide +kernel⟩
set_option maxRecDepth 100000 in
theorem xMok_mX0_takeMessage : xMok mX0_takeMessage := ⟨xws0_of (i := 482) rfl rfl, xws0_of (i := 47) (by decide +kernel) rfl, ⟨by decide +kernel, by decide +kernel⟩, rfl, by decide, by decide +kernel⟩
set_option maxRecDepth 100000 in
theorem xMok_mX2_areDone : xMok mX2_areDone := ⟨xws0_of (i := 500) rfl rfl, xws0_of (i := 46) (by decide +kernel) rfl, ⟨by decide +kernel, by decide +kernel⟩, rfl, by decide, by decide +kernel⟩
set_option maxRecDepth 100000 in
theorem xMok_mX2_isStuck : xMok mX2_isStuck := ⟨xws0_of (i := 504) rfl rfl, xws0_of (i := 46) (by decide +kernel) rfl, ⟨by decide +kernel, by decide +kernel⟩, rfl, by decide, by decide +kernel⟩
set_option maxRecDepth 100000 in
theorem xMok_mX2_lentPriority : xMok mX2_lentPriority := ⟨xws0_of (i := 459) rfl rfl, xws0_of (i := 46) (by decide +kernel) rfl, ⟨by decide +kernel, by decide +kernel⟩, rfl, by decide, by decide +kernel⟩
set_option maxRecDepth 100000 in
theorem xMok_mX2_setIn : xMok mX2_setIn := ⟨xws0_of (i := 436) rfl rfl, xws0_of (i := 46) (by decide +kernel) rfl, ⟨by decide +kernel, by decide +kernel⟩, rfl, by decide, by decide +kernel⟩
set_option maxRecDepth 100000 in
theorem xMok_mX2_waitsOf : xMok mX2_waitsOf := ⟨xws0_of (i := 451) rfl rfl, xws0_of (i := 46) (by decide +kernel) rfl, ⟨by decide +kernel, by decide +kernel⟩, rfl, by decide, by decide +kernel⟩
set_option maxRecDepth 100000 in
theorem xMok_mX3_init : xMok mX3_init := ⟨xws0_of (i := 183) rfl rfl, xws0_of (i := 49) (by decide +kernel) rfl, ⟨by decide +kernel, by decide +kernel⟩, rfl, by decide, by decide +kernel⟩
set_option maxRecDepth 100000 in
theorem xMok_mX3_digitHere : xMok mX3_digitHere := ⟨xws0_of (i := 278) rfl rfl, xws0_of (i := 49) (by decide +kernel) rfl, ⟨by decide +kernel, by decide +kernel⟩, rfl, by decide, by decide +kernel⟩
set_option maxRecDepth 100000 in
theorem xMok_mX3_takeCharacter : xMok mX3_takeCharacter := ⟨xws0_of (i := 286) rfl rfl, xws0_of (i := 49) (by decide +kernel) rfl, ⟨by decide +kernel, by decide +kernel⟩, rfl, by decide, by decide +kernel⟩
set_option maxRecDepth 100000 in
theorem xMok_mX4_command : xMok mX4_command := ⟨xws0_of (i := 521) rfl rfl, xws0_of (i := 45) (by decide +kernel) rfl, ⟨by decide +kernel, by decide +kernel⟩, rfl, by decide, by decide +kernel⟩
set_option maxRecDepth 100000 in
theorem xMok_mX4_holder : xMok mX4_holder := ⟨xws0_of (i := 529) rfl rfl, xws0_of (i := 45) (by decide +kernel) rfl, ⟨by decide +kernel, by decide +kernel⟩, rfl, by decide, by decide +kernel⟩
set_option maxRecDepth 100000 in
theorem xMok_mX4_inbox : xMok mX4_inbox := ⟨xws0_of (i := 525) rfl rfl, xws0_of (i := 45) (by decide +kernel) rfl, ⟨by decide +kernel, by decide +kernel⟩, rfl, by decide, by decide +kernel⟩
set_option maxRecDepth 100000 in
theorem xMok_mX4_put : xMok mX4_put := ⟨xws0_of (i := 564) rfl rfl, xws0_of (i := 45) (by decide +kernel) rfl, ⟨by decide +kernel, by decide +kernel⟩, rfl, by decide, by decide +kernel⟩
set_option maxRecDepth 100000 in
theorem xMok_mX5_init : xMok mX5_init := ⟨xws0_of (i := 604) rfl rfl, xws0_of (i := 50) (by decide +kernel) rfl, ⟨by decide +kernel, by decide +kernel⟩, rfl, by decide, by decide +kernel⟩
set_option maxRecDepth 100000 in
theorem xMok_mX5_adds : xMok mX5_adds := ⟨xws0_of (i := 679) rfl rfl, xws0_of (i := 50) (by decide +kernel) rfl, ⟨by decide +kernel, by decide +kernel⟩, rfl, by decide, by decide +kernel⟩
set_option maxRecDepth 100000 in
theorem xMok_mX5_argumentOf : xMok mX5_argumentOf := ⟨xws0_of (i := 732) rfl rfl, xws0_of (i := 50) (by decide +kernel) rfl, ⟨by decide +kernel, by decide +kernel⟩, rfl, by decide, by decide +kernel⟩
set_option maxRecDepth 100000 in
theorem xMok_mX5_commandOf : xMok mX5_commandOf := ⟨xws0_of (i := 728) rfl rfl, xws0_of (i := 50) (by decide +kernel) rfl, ⟨by decide +kernel, by decide +kernel⟩, rfl, by decide, by decide +kernel⟩
set_option maxRecDepth 100000 in
theorem xMok_mX5_goesBack : xMok mX5_goesBack := ⟨xws0_of (i := 756) rfl rfl, xws0_of (i := 50) (by decide +kernel) rfl, ⟨by decide +kernel, by decide +kernel⟩, rfl, by decide, by decide +kernel⟩
set_option maxRecDepth 100000 in
theorem xMok_mX5_holder : xMok mX5_holder := ⟨xws0_of (i := 789) rfl rfl, xws0_of (i := 50) (by decide +kernel) rfl, ⟨by decide +kernel, by decide +kernel⟩, rfl, by decide, by decide +kernel⟩
set_option maxRecDepth 100000 in
theorem xMok_mX5_isContext : xMok mX5_isContext := ⟨xws0_of (i := 661) rfl rfl, xws0_of (i := 50) (by decide +kernel) rfl, ⟨by decide +kernel, by decide +kernel⟩, rfl, by decide, by decide +kernel⟩
set_option maxRecDepth 100000 in
theorem xMok_mX5_isDone : xMok mX5_isDone := ⟨xws0_of (i := 724) rfl rfl, xws0_of (i := 50) (by decide +kernel) rfl, ⟨by decide +kernel, by decide +kernel⟩, rfl, by decide, by decide +kernel⟩
set_option maxRecDepth 100000 in
theorem xMok_mX5_lent : xMok mX5_lent := ⟨xws0_of (i := 748) rfl rfl, xws0_of (i := 50) (by decide +kernel) rfl, ⟨by decide +kernel, by decide +kernel⟩, rfl, by decide, by decide +kernel⟩
set_option maxRecDepth 100000 in
theorem xMok_mX5_put : xMok mX5_put := ⟨xws0_of (i := 836) rfl rfl, xws0_of (i := 50) (by decide +kernel) rfl, ⟨by decide +kernel, by decide +kernel⟩, rfl, by decide, by decide +kernel⟩
set_option maxRecDepth 100000 in
theorem xMok_mX5_receives : xMok mX5_receives := ⟨xws0_of (i := 695) rfl rfl, xws0_of (i := 50) (by decide +kernel) rfl, ⟨by decide +kernel, by decide +kernel⟩, rfl, by decide, by decide +kernel⟩
set_option maxRecDepth 100000 in
theorem xMok_mX5_release : xMok mX5_release := ⟨xws0_of (i := 699) rfl rfl, xws0_of (i := 50) (by decide +kernel) rfl, ⟨by decide +kernel, by decide +kernel⟩, rfl, by decide, by decide +kernel⟩
set_option maxRecDepth 100000 in
theorem xMok_mX5_restore : xMok mX5_restore := ⟨xws0_of (i := 888) rfl rfl, xws0_of (i := 50) (by decide +kernel) rfl, ⟨by decide +kernel, by decide +kernel⟩, rfl, by decide, by decide +kernel⟩
set_option maxRecDepth 100000 in
theorem xMok_mX5_save : xMok mX5_save := ⟨xws0_of (i := 884) rfl rfl, xws0_of (i := 50) (by decide +kernel) rfl, ⟨by decide +kernel, by decide +kernel⟩, rfl, by decide, by decide +kernel⟩
set_option maxRecDepth 100000 in
theorem xMok_mX5_sumOver : xMok mX5_sumOver := ⟨xws0_of (i := 804) rfl rfl, xws0_of (i := 50) (by decide +kernel) rfl, ⟨by decide +kernel, by decide +kernel⟩, rfl, by decide, by decide +kernel⟩
set_option maxRecDepth 100000 in
theorem xMok_mX5_takes : xMok mX5_takes := ⟨xws0_of (i := 760) rfl rfl, xws0_of (i := 50) (by decide +kernel) rfl, ⟨by decide +kernel, by decide +kernel⟩, rfl, by decide, by decide +kernel⟩
set_option maxRecDepth 100000 in
theorem xMok_mX5_takesSign : xMok mX5_takesSign := ⟨xws0_of (i := 853) rfl rfl, xws0_of (i := 50) (by decide +kernel) rfl, ⟨by decide +kernel, by decide +kernel⟩, rfl, by decide, by decide +kernel⟩
set_option maxRecDepth 100000 in
theorem xMok_mX5_wakes : xMok mX5_wakes := ⟨xws0_of (i := 712) rfl rfl, xws0_of (i := 50) (by decide +kernel) rfl, ⟨by decide +kernel, by decide +kernel⟩, rfl, by decide, by decide +kernel⟩
set_option maxRecDepth 100000 in
theorem xMok_mJ0_length_8abf5 : xMok mJ0_length_8abf5 := ⟨xws0_of (i := 309) rfl rfl, xws0_of (i := 52) (by decide +kernel) rfl, ⟨by decide +kernel, by decide +kernel⟩, rfl, by decide, by decide +kernel⟩
set_option maxRecDepth 100000 in
theorem xMok_mJ1_indexOf_4cfef : xMok mJ1_indexOf_4cfef := ⟨xws0_of (i := 316) rfl rfl, xws0_of (i := 53) (by decide +kernel) rfl, ⟨by decide +kernel, by decide +kernel⟩, rfl, by decide, by decide +kernel⟩
set_option maxRecDepth 100000 in
theorem xMok_mX2_init : xMok mX2_init := ⟨xws0_of (i := 71) rfl rfl, xws0_of (i := 46) (by decide +kernel) rfl, ⟨by decide +kernel, by decide +kernel⟩, rfl, by decide, by decide +kernel⟩
set_option maxRecDepth 100000 in
theorem xMok_mX2_copyFrom : xMok mX2_copyFrom := ⟨xws0_of (i := 254) rfl rfl, xws0_of (i := 46) (by decide +kernel) rfl, ⟨by decide +kernel, by decide +kernel⟩, rfl, by decide, by decide +kernel⟩
set_option maxRecDepth 100000 in
theorem xMok_mX2_findAllWaits : xMok mX2_findAllWaits := ⟨xws0_of (i := 447) rfl rfl, xws0_of (i := 46) (by decide +kernel) rfl, ⟨by decide +kernel, by decide +kernel⟩, rfl, by decide, by decide +kernel⟩
set_option maxRecDepth 100000 in
theorem xMok_mX2_runNextOf : xMok mX2_runNextOf := ⟨xws0_of (i := 467) rfl rfl, xws0_of (i := 46) (by decide +kernel) rfl, ⟨by decide +kernel, by decide +kernel⟩, rfl, by decide, by decide +kernel⟩
set_option maxRecDepth 100000 in
theorem xMok_mX3_takeNumber : xMok mX3_takeNumber := ⟨xws0_of (i := 383) rfl rfl, xws0_of (i := 49) (by decide +kernel) rfl, ⟨by decide +kernel, by decide +kernel⟩, rfl, by decide, by decide +kernel⟩
set_option maxRecDepth 100000 in
theorem xMok_mX5_command : xMok mX5_command := ⟨xws0_of (i := 781) rfl rfl, xws0_of (i := 50) (by decide +kernel) rfl, ⟨by decide +kernel, by decide +kernel⟩, rfl, by decide, by decide +kernel⟩
set_option maxRecDepth 100000 in
theorem xMok_mX5_inbox : xMok mX5_inbox := ⟨xws0_of (i := 785) rfl rfl, xws0_of (i := 50) (by decide +kernel) rfl, ⟨by decide +kernel, by decide +kernel⟩, rfl, by decide, by decide +kernel⟩
set_option maxRecDepth 100000 in
theorem xMok_mX5_isArgument : xMok mX5_isArgument := ⟨xws0_of (i := 667) rfl rfl, xws0_of (i := 50) (by decide +kernel) rfl, ⟨by decide +kernel, by decide +kernel⟩, rfl, by decide, by decide +kernel⟩
set_option maxRecDepth 100000 in
theorem xMok_mX5_number : xMok mX5_number := ⟨xws0_of (i := 868) rfl rfl, xws0_of (i := 50) (by decide +kernel) rfl, ⟨by decide +kernel, by decide +kernel⟩, rfl, by decide, by decide +kernel⟩
set_option maxRecDepth 100000 in
theorem xMok_mX5_numberOfBack : xMok mX5_numberOfBack := ⟨xws0_of (i := 872) rfl rfl, xws0_of (i := 50) (by decide +kernel) rfl, ⟨by decide +kernel, by decide +kernel⟩, rfl, by decide, by decide +kernel⟩
set_option maxRecDepth 100000 in
theorem xMok_mX5_post : xMok mX5_post := ⟨xws0_of (i := 691) rfl rfl, xws0_of (i := 50) (by decide +kernel) rfl, ⟨by decide +kernel, by decide +kernel⟩, rfl, by decide, by decide +kernel⟩
set_option maxRecDepth 100000 in
theorem xMok_mX5_prefer : xMok mX5_prefer := ⟨xws0_of (i := 687) rfl rfl, xws0_of (i := 50) (by decide +kernel) rfl, ⟨by decide +kernel, by decide +kernel⟩, rfl, by decide, by decide +kernel⟩
set_option maxRecDepth 100000 in
theorem xMok_mX5_runs : xMok mX5_runs := ⟨xws0_of (i := 752) rfl rfl, xws0_of (i := 50) (by decide +kernel) rfl, ⟨by decide +kernel, by decide +kernel⟩, rfl, by decide, by decide +kernel⟩
set_option maxRecDepth 100000 in
theorem xMok_mX5_sendsTo : xMok mX5_sendsTo := ⟨xws0_of (i := 744) rfl rfl, xws0_of (i := 50) (by decide +kernel) rfl, ⟨by decide +kernel, by decide +kernel⟩, rfl, by decide, by decide +kernel⟩
set_option maxRecDepth 100000 in
theorem xMok_mX5_stateOf : xMok mX5_stateOf := ⟨xws0_of (i := 720) rfl rfl, xws0_of (i := 50) (by decide +kernel) rfl, ⟨by decide +kernel, by decide +kernel⟩, rfl, by decide, by decide +kernel⟩
set_option maxRecDepth 100000 in
theorem xMok_mJ0_indexOf_7cf53 : xMok mJ0_indexOf_7cf53 := ⟨xws0_of (i := 299) rfl rfl, xws0_of (i := 52) (by decide +kernel) rfl, ⟨by decide +kernel, by decide +kernel⟩, rfl, by decide, by decide +kernel⟩
set_option maxRecDepth 100000 in
theorem xMok_mX1_init : xMok mX1_init := ⟨xws0_of (i := 163) rfl rfl, xws0_of (i := 48) (by decide +kernel) rfl, ⟨by decide +kernel, by decide +kernel⟩, rfl, by decide, by decide +kernel⟩
set_option maxRecDepth 100000 in
theorem xMok_mX1_record : xMok mX1_record := ⟨xws0_of (i := 250) rfl rfl, xws0_of (i := 48) (by decide +kernel) rfl, ⟨by decide +kernel, by decide +kernel⟩, rfl, by decide, by decide +kernel⟩
set_option maxRecDepth 100000 in
theorem xMok_mX1_takeBack : xMok mX1_takeBack := ⟨xws0_of (i := 588) rfl rfl, xws0_of (i := 48) (by decide +kernel) rfl, ⟨by decide +kernel, by decide +kernel⟩, rfl, by decide, by decide +kernel⟩
set_option maxRecDepth 100000 in
theorem xMok_mX2_ringSet : xMok mX2_ringSet := ⟨xws0_of (i := 516) rfl rfl, xws0_of (i := 46) (by decide +kernel) rfl, ⟨by decide +kernel, by decide +kernel⟩, rfl, by decide, by decide +kernel⟩
set_option maxRecDepth 100000 in
theorem xMok_mX2_runnerInSlotOf : xMok mX2_runnerInSlotOf := ⟨xws0_of (i := 432) rfl rfl, xws0_of (i := 46) (by decide +kernel) rfl, ⟨by decide +kernel, by decide +kernel⟩, rfl, by decide, by decide +kernel⟩
set_option maxRecDepth 100000 in
theorem xMok_mX4_save : xMok mX4_save := ⟨xws0_of (i := 592) rfl rfl, xws0_of (i := 45) (by decide +kernel) rfl, ⟨by decide +kernel, by decide +kernel⟩, rfl, by decide, by decide +kernel⟩
set_option maxRecDepth 100000 in
theorem xMok_mX4_tryNow : xMok mX4_tryNow := ⟨xws0_of (i := 545) rfl rfl, xws0_of (i := 45) (by decide +kernel) rfl, ⟨by decide +kernel, by decide +kernel⟩, rfl, by decide, by decide +kernel⟩
set_option maxRecDepth 100000 in
theorem xMok_mX5_add : xMok mX5_add := ⟨xws0_of (i := 658) rfl rfl, xws0_of (i := 50) (by decide +kernel) rfl, ⟨by decide +kernel, by decide +kernel⟩, rfl, by decide, by decide +kernel⟩
set_option maxRecDepth 100000 in
theorem xMok_mX5_inState : xMok mX5_inState := ⟨xws0_of (i := 769) rfl rfl, xws0_of (i := 50) (by decide +kernel) rfl, ⟨by decide +kernel, by decide +kernel⟩, rfl, by decide, by decide +kernel⟩
set_option maxRecDepth 100000 in
theorem xMok_mX5_readsCommand : xMok mX5_readsCommand := ⟨xws0_of (i := 861) rfl rfl, xws0_of (i := 50) (by decide +kernel) rfl, ⟨by decide +kernel, by decide +kernel⟩, rfl, by decide, by decide +kernel⟩
set_option maxRecDepth 100000 in
theorem xMok_mX5_waitsFor : xMok mX5_waitsFor := ⟨xws0_of (i := 740) rfl rfl, xws0_of (i := 50) (by decide +kernel) rfl, ⟨by decide +kernel, by decide +kernel⟩, rfl, by decide, by decide +kernel⟩
set_option maxRecDepth 100000 in
theorem xMok_mJ0_indexOf_0f7a4 : xMok mJ0_indexOf_0f7a4 := ⟨xws0_of (i := 295) rfl rfl, xws0_of (i := 52) (by decide +kernel) rfl, ⟨by decide +kernel, by decide +kernel⟩, rfl, by decide, by decide +kernel⟩
set_option maxRecDepth 100000 in
theorem xMok_mX2_passSlot : xMok mX2_passSlot := ⟨xws0_of (i := 427) rfl rfl, xws0_of (i := 46) (by decide +kernel) rfl, ⟨by decide +kernel, by decide +kernel⟩, rfl, by decide, by decide +kernel⟩
set_option maxRecDepth 100000 in
theorem xMok_mX3_takeCommand : xMok mX3_takeCommand := ⟨xws0_of (i := 290) rfl rfl, xws0_of (i := 49) (by decide +kernel) rfl, ⟨by decide +kernel, by decide +kernel⟩, rfl, by decide, by decide +kernel⟩
set_option maxRecDepth 100000 in
theorem xMok_mX4_init : xMok mX4_init := ⟨xws0_of (i := 63) rfl rfl, xws0_of (i := 45) (by decide +kernel) rfl, ⟨by decide +kernel, by decide +kernel⟩, rfl, by decide, by decide +kernel⟩
set_option maxRecDepth 100000 in
theorem xMok_mX4_add : xMok mX4_add := ⟨xws0_of (i := 236) rfl rfl, xws0_of (i := 45) (by decide +kernel) rfl, ⟨by decide +kernel, by decide +kernel⟩, rfl, by decide, by decide +kernel⟩
set_option maxRecDepth 100000 in
theorem xMok_mX4_of : xMok mX4_of := ⟨xws0_of (i := 508) rfl rfl, xws0_of (i := 45) (by decide +kernel) rfl, ⟨by decide +kernel, by decide +kernel⟩, rfl, by decide, by decide +kernel⟩
set_option maxRecDepth 100000 in
theorem xMok_mX4_post : xMok mX4_post := ⟨xws0_of (i := 400) rfl rfl, xws0_of (i := 45) (by decide +kernel) rfl, ⟨by decide +kernel, by decide +kernel⟩, rfl, by decide, by decide +kernel⟩
set_option maxRecDepth 100000 in
theorem xMok_mX4_prefer : xMok mX4_prefer := ⟨xws0_of (i := 393) rfl rfl, xws0_of (i := 45) (by decide +kernel) rfl, ⟨by decide +kernel, by decide +kernel⟩, rfl, by decide, by decide +kernel⟩
set_option maxRecDepth 100000 in
theorem xMok_mX4_release : xMok mX4_release := ⟨xws0_of (i := 408) rfl rfl, xws0_of (i := 45) (by decide +kernel) rfl, ⟨by decide +kernel, by decide +kernel⟩, rfl, by decide, by decide +kernel⟩
set_option maxRecDepth 100000 in
theorem xMok_mX4_restore : xMok mX4_restore := ⟨xws0_of (i := 599) rfl rfl, xws0_of (i := 45) (by decide +kernel) rfl, ⟨by decide +kernel, by decide +kernel⟩, rfl, by decide, by decide +kernel⟩
set_option maxRecDepth 100000 in
theorem xMok_mX4_undo : xMok mX4_undo := ⟨xws0_of (i := 584) rfl rfl, xws0_of (i := 45) (by decide +kernel) rfl, ⟨by decide +kernel, by decide +kernel⟩, rfl, by decide, by decide +kernel⟩
set_option maxRecDepth 100000 in
theorem xMok_mX5_isStuck : xMok mX5_isStuck := ⟨xws0_of (i := 773) rfl rfl, xws0_of (i := 50) (by decide +kernel) rfl, ⟨by decide +kernel, by decide +kernel⟩, rfl, by decide, by decide +kernel⟩
set_option maxRecDepth 100000 in
theorem xMok_mX5_laysWaits : xMok mX5_laysWaits := ⟨xws0_of (i := 736) rfl rfl, xws0_of (i := 50) (by decide +kernel) rfl, ⟨by decide +kernel, by decide +kernel⟩, rfl, by decide, by decide +kernel⟩
set_option maxRecDepth 100000 in
theorem xMok_mX5_reads : xMok mX5_reads := ⟨xws0_of (i := 849) rfl rfl, xws0_of (i := 50) (by decide +kernel) rfl, ⟨by decide +kernel, by decide +kernel⟩, rfl, by decide, by decide +kernel⟩
set_option maxRecDepth 100000 in
theorem xMok_mX2_passSlots : xMok mX2_passSlots := ⟨xws0_of (i := 423) rfl rfl, xws0_of (i := 46) (by decide +kernel) rfl, ⟨by decide +kernel, by decide +kernel⟩, rfl, by decide, by decide +kernel⟩
set_option maxRecDepth 100000 in
theorem xMok_mX2_passUntilDone : xMok mX2_passUntilDone := ⟨xws0_of (i := 496) rfl rfl, xws0_of (i := 46) (by decide +kernel) rfl, ⟨by decide +kernel, by decide +kernel⟩, rfl, by decide, by decide +kernel⟩
set_option maxRecDepth 100000 in
theorem xMok_mX3_findFault : xMok mX3_findFault := ⟨xws0_of (i := 274) rfl rfl, xws0_of (i := 49) (by decide +kernel) rfl, ⟨by decide +kernel, by decide +kernel⟩, rfl, by decide, by decide +kernel⟩
set_option maxRecDepth 100000 in
theorem xMok_mX4_count : xMok mX4_count := ⟨xws0_of (i := 533) rfl rfl, xws0_of (i := 45) (by decide +kernel) rfl, ⟨by decide +kernel, by decide +kernel⟩, rfl, by decide, by decide +kernel⟩
set_option maxRecDepth 100000 in
theorem xMok_mX5_fault : xMok mX5_fault := ⟨xws0_of (i := 845) rfl rfl, xws0_of (i := 50) (by decide +kernel) rfl, ⟨by decide +kernel, by decide +kernel⟩, rfl, by decide, by decide +kernel⟩
set_option maxRecDepth 100000 in
theorem xMok_mX5_of : xMok mX5_of := ⟨xws0_of (i := 777) rfl rfl, xws0_of (i := 50) (by decide +kernel) rfl, ⟨by decide +kernel, by decide +kernel⟩, rfl, by decide, by decide +kernel⟩
set_option maxRecDepth 100000 in
theorem xMok_mX5_read : xMok mX5_read := ⟨xws0_of (i := 876) rfl rfl, xws0_of (i := 50) (by decide +kernel) rfl, ⟨by decide +kernel, by decide +kernel⟩, rfl, by decide, by decide +kernel⟩
set_option maxRecDepth 100000 in
theorem xMok_mX5_rings : xMok mX5_rings := ⟨xws0_of (i := 800) rfl rfl, xws0_of (i := 50) (by decide +kernel) rfl, ⟨by decide +kernel, by decide +kernel⟩, rfl, by decide, by decide +kernel⟩
set_option maxRecDepth 100000 in
theorem xMok_mX5_runner : xMok mX5_runner := ⟨xws0_of (i := 716) rfl rfl, xws0_of (i := 50) (by decide +kernel) rfl, ⟨by decide +kernel, by decide +kernel⟩, rfl, by decide, by decide +kernel⟩
set_option maxRecDepth 100000 in
theorem xMok_mX4_fault : xMok mX4_fault := ⟨xws0_of (i := 580) rfl rfl, xws0_of (i := 45) (by decide +kernel) rfl, ⟨by decide +kernel, by decide +kernel⟩, rfl, by decide, by decide +kernel⟩
set_option maxRecDepth 100000 in
theorem xMok_mX4_leftIf : xMok mX4_leftIf := ⟨xws0_of (i := 556) rfl rfl, xws0_of (i := 45) (by decide +kernel) rfl, ⟨by decide +kernel, by decide +kernel⟩, rfl, by decide, by decide +kernel⟩
set_option maxRecDepth 100000 in
theorem xMok_mX4_read : xMok mX4_read := ⟨xws0_of (i := 270) rfl rfl, xws0_of (i := 45) (by decide +kernel) rfl, ⟨by decide +kernel, by decide +kernel⟩, rfl, by decide, by decide +kernel⟩
set_option maxRecDepth 100000 in
theorem xMok_mX4_run : xMok mX4_run := ⟨xws0_of (i := 491) rfl rfl, xws0_of (i := 45) (by decide +kernel) rfl, ⟨by decide +kernel, by decide +kernel⟩, rfl, by decide, by decide +kernel⟩
set_option maxRecDepth 100000 in
theorem xMok_mX4_slotsLeft : xMok mX4_slotsLeft := ⟨xws0_of (i := 551) rfl rfl, xws0_of (i := 45) (by decide +kernel) rfl, ⟨by decide +kernel, by decide +kernel⟩, rfl, by decide, by decide +kernel⟩
set_option maxRecDepth 100000 in
theorem xMok_mX4_step : xMok mX4_step := ⟨xws0_of (i := 415) rfl rfl, xws0_of (i := 45) (by decide +kernel) rfl, ⟨by decide +kernel, by decide +kernel⟩, rfl, by decide, by decide +kernel⟩
set_option maxRecDepth 100000 in
theorem xMok_mX4_sumBehind : xMok mX4_sumBehind := ⟨xws0_of (i := 560) rfl rfl, xws0_of (i := 45) (by decide +kernel) rfl, ⟨by decide +kernel, by decide +kernel⟩, rfl, by decide, by decide +kernel⟩
set_option maxRecDepth 100000 in
theorem xMok_mX5_next : xMok mX5_next := ⟨xws0_of (i := 808) rfl rfl, xws0_of (i := 50) (by decide +kernel) rfl, ⟨by decide +kernel, by decide +kernel⟩, rfl, by decide, by decide +kernel⟩
set_option maxRecDepth 100000 in
theorem xMok_mX5_slot : xMok mX5_slot := ⟨xws0_of (i := 708) rfl rfl, xws0_of (i := 50) (by decide +kernel) rfl, ⟨by decide +kernel, by decide +kernel⟩, rfl, by decide, by decide +kernel⟩
set_option maxRecDepth 100000 in
theorem xMok_mX5_count : xMok mX5_count := ⟨xws0_of (i := 793) rfl rfl, xws0_of (i := 50) (by decide +kernel) rfl, ⟨by decide +kernel, by decide +kernel⟩, rfl, by decide, by decide +kernel⟩
set_option maxRecDepth 100000 in
theorem xMok_mX5_run : xMok mX5_run := ⟨xws0_of (i := 764) rfl rfl, xws0_of (i := 50) (by decide +kernel) rfl, ⟨by decide +kernel, by decide +kernel⟩, rfl, by decide, by decide +kernel⟩
set_option maxRecDepth 100000 in
theorem xMok_mX5_step : xMok mX5_step := ⟨xws0_of (i := 703) rfl rfl, xws0_of (i := 50) (by decide +kernel) rfl, ⟨by decide +kernel, by decide +kernel⟩, rfl, by decide, by decide +kernel⟩
set_option maxRecDepth 100000 in
theorem xMok_mX5_sumBehind : xMok mX5_sumBehind := ⟨xws0_of (i := 832) rfl rfl, xws0_of (i := 50) (by decide +kernel) rfl, ⟨by decide +kernel, by decide +kernel⟩, rfl, by decide, by decide +kernel⟩
set_option maxRecDepth 100000 in
theorem xMok_mX5_until : xMok mX5_until := ⟨xws0_of (i := 824) rfl rfl, xws0_of (i := 50) (by decide +kernel) rfl, ⟨by decide +kernel, by decide +kernel⟩, rfl, by decide, by decide +kernel⟩
set_option maxRecDepth 100000 in
theorem xMok_mX5_leftIf : xMok mX5_leftIf := ⟨xws0_of (i := 828) rfl rfl, xws0_of (i := 50) (by decide +kernel) rfl, ⟨by decide +kernel, by decide +kernel⟩, rfl, by decide, by decide +kernel⟩
set_option maxRecDepth 100000 in
theorem xMok_mX5_slotsLeft : xMok mX5_slotsLeft := ⟨xws0_of (i := 820) rfl rfl, xws0_of (i := 50) (by decide +kernel) rfl, ⟨by decide +kernel, by decide +kernel⟩, rfl, by decide, by decide +kernel⟩
def xCok (e : (Nat × Nat) × (xM × Nat × Nat)) : Prop := xMok e.2.1 ∧ (parseMethodDescriptor e.2.1.1.desc).map (fun d => d.parameters.length) = some e.2.2.1 ∧
  (e.2.2.2 = 0 → Cond.methodLink (xcn e.1.1) e.1.2 e.2.1.1 ∈ xws0 ∧ Cond.instanceMethod e.2.1.1 ∈ xws0 ∧ Cond.selects e.2.1.1.cls e.2.1.1 e.2.1.1 ∈ xws0 ∧ (xown e.2.1 ≤ 5 ∨ xown e.2.1 = 7)) ∧
  (e.2.2.2 = 1 → Cond.methodLink (xcn e.1.1) e.1.2 e.2.1.1 ∈ xws0 ∧ Cond.static e.2.1.1 ∈ xws0) ∧
  (e.2.2.2 = 2 → Cond.methodLink (xcn e.1.1) e.1.2 e.2.1.1 ∈ xws0 ∧ Cond.instanceMethod e.2.1.1 ∈ xws0 ∧ e.2.1.1.name = "<init>" ∧ e.2.1.2.2.2.1 = none) ∧
  (e.2.2.2 = 3 → Cond.methodLinkNest (xcn e.1.1) e.1.2 e.2.1.1 "TurnSlots" ∈ xNw ∧ Cond.static e.2.1.1 ∈ xws0) ∧
  (e.2.2.2 = 4 → Cond.methodLinkNest (xcn e.1.1) e.1.2 e.2.1.1 "TurnSlots" ∈ xNw ∧ Cond.instanceMethod e.2.1.1 ∈ xws0 ∧ e.2.1.1.name = "<init>" ∧ e.2.1.2.2.2.1 = none)
theorem xCt_ok_0 : xCok (((0, 57), (mX0_append, 2, 0))) := ⟨xMok_mX0_append, by decide +kernel, fun _ => ⟨xws0_of (i := 388) (by decide +kernel) rfl, xws0_of (i := 264) (by decide +kernel) rfl, xws0_of (i := 265) (by decide +kernel) rfl, by decide⟩, fun h => absurd h (by decide), fun h => absurd h (by decide), fun h => absurd h (by decide), fun h => absurd h (by decide)⟩
theorem xCt_ok_1 : xCok (((0, 61), (mX0_addToSum, 1, 0))) := ⟨xMok_mX0_addToSum, by decide +kernel, fun _ => ⟨xws0_of (i := 483) (by decide +kernel) rfl, xws0_of (i := 475) (by decide +kernel) rfl, xws0_of (i := 476) (by decide +kernel) rfl, by decide⟩, fun h => absurd h (by decide), fun h => absurd h (by decide), fun h => absurd h (by decide), fun h => absurd h (by decide)⟩
theorem xCt_ok_2 : xCok (((0, 65), (mX4_has, 2, 3))) := ⟨xMok_mX4_has, by decide +kernel, fun h => absurd h (by decide), fun h => absurd h (by decide), fun h => absurd h (by decide), fun _ => ⟨List.mem_of_getElem? (i := 5) (by decide +kernel), xws0_of (i := 442) (by decide +kernel) rfl⟩, fun h => absurd h (by decide)⟩
theorem xCt_ok_3 : xCok (((1, 17), (mX2_init, 0, 2))) := ⟨xMok_mX2_init, by decide +kernel, fun h => absurd h (by decide), fun h => absurd h (by decide), fun _ => ⟨xws0_of (i := 167) (by decide +kernel) rfl, xws0_of (i := 70) (by decide +kernel) rfl, rfl, rfl⟩, fun h => absurd h (by decide), fun h => absurd h (by decide)⟩
theorem xCt_ok_4 : xCok (((1, 25), (mX2_copyFrom, 1, 0))) := ⟨xMok_mX2_copyFrom, by decide +kernel, fun _ => ⟨xws0_of (i := 251) (by decide +kernel) rfl, xws0_of (i := 252) (by decide +kernel) rfl, xws0_of (i := 253) (by decide +kernel) rfl, by decide⟩, fun h => absurd h (by decide), fun h => absurd h (by decide), fun h => absurd h (by decide), fun h => absurd h (by decide)⟩
theorem xCt_ok_5 : xCok (((2, 24), (mX0_init, 0, 4))) := ⟨xMok_mX0_init, by decide +kernel, fun h => absurd h (by decide), fun h => absurd h (by decide), fun h => absurd h (by decide), fun h => absurd h (by decide), fun _ => ⟨List.mem_of_getElem? (i := 0) (by decide +kernel), xws0_of (i := 77) (by decide +kernel) rfl, rfl, rfl⟩⟩
theorem xCt_ok_6 : xCok (((2, 25), (mX0_copyFrom, 1, 0))) := ⟨xMok_mX0_copyFrom, by decide +kernel, fun _ => ⟨xws0_of (i := 255) (by decide +kernel) rfl, xws0_of (i := 256) (by decide +kernel) rfl, xws0_of (i := 257) (by decide +kernel) rfl, by decide⟩, fun h => absurd h (by decide), fun h => absurd h (by decide), fun h => absurd h (by decide), fun h => absurd h (by decide)⟩
theorem xCt_ok_7 : xCok (((2, 63), (mX2_stateOf, 1, 0))) := ⟨xMok_mX2_stateOf, by decide +kernel, fun _ => ⟨xws0_of (i := 437) (by decide +kernel) rfl, xws0_of (i := 438) (by decide +kernel) rfl, xws0_of (i := 439) (by decide +kernel) rfl, by decide⟩, fun h => absurd h (by decide), fun h => absurd h (by decide), fun h => absurd h (by decide), fun h => absurd h (by decide)⟩
theorem xCt_ok_8 : xCok (((2, 67), (mX4_has, 2, 3))) := ⟨xMok_mX4_has, by decide +kernel, fun h => absurd h (by decide), fun h => absurd h (by decide), fun h => absurd h (by decide), fun _ => ⟨List.mem_of_getElem? (i := 4) (by decide +kernel), xws0_of (i := 442) (by decide +kernel) rfl⟩, fun h => absurd h (by decide)⟩
theorem xCt_ok_9 : xCok (((2, 71), (mX2_sendersTo, 1, 0))) := ⟨xMok_mX2_sendersTo, by decide +kernel, fun _ => ⟨xws0_of (i := 452) (by decide +kernel) rfl, xws0_of (i := 454) (by decide +kernel) rfl, xws0_of (i := 6) (by decide +kernel) rfl, by decide⟩, fun h => absurd h (by decide), fun h => absurd h (by decide), fun h => absurd h (by decide), fun h => absurd h (by decide)⟩
theorem xCt_ok_10 : xCok (((2, 74), (mX2_waitsOf, 1, 0))) := ⟨xMok_mX2_waitsOf, by decide +kernel, fun _ => ⟨xws0_of (i := 448) (by decide +kernel) rfl, xws0_of (i := 449) (by decide +kernel) rfl, xws0_of (i := 450) (by decide +kernel) rfl, by decide⟩, fun h => absurd h (by decide), fun h => absurd h (by decide), fun h => absurd h (by decide), fun h => absurd h (by decide)⟩
theorem xCt_ok_11 : xCok (((2, 86), (mX2_findAllWaits, 0, 0))) := ⟨xMok_mX2_findAllWaits, by decide +kernel, fun _ => ⟨xws0_of (i := 444) (by decide +kernel) rfl, xws0_of (i := 445) (by decide +kernel) rfl, xws0_of (i := 446) (by decide +kernel) rfl, by decide⟩, fun h => absurd h (by decide), fun h => absurd h (by decide), fun h => absurd h (by decide), fun h => absurd h (by decide)⟩
theorem xCt_ok_12 : xCok (((2, 90), (mX2_passSlot, 0, 0))) := ⟨xMok_mX2_passSlot, by decide +kernel, fun _ => ⟨xws0_of (i := 424) (by decide +kernel) rfl, xws0_of (i := 425) (by decide +kernel) rfl, xws0_of (i := 426) (by decide +kernel) rfl, by decide⟩, fun h => absurd h (by decide), fun h => absurd h (by decide), fun h => absurd h (by decide), fun h => absurd h (by decide)⟩
theorem xCt_ok_13 : xCok (((2, 94), (mX2_areDone, 1, 0))) := ⟨xMok_mX2_areDone, by decide +kernel, fun _ => ⟨xws0_of (i := 497) (by decide +kernel) rfl, xws0_of (i := 498) (by decide +kernel) rfl, xws0_of (i := 499) (by decide +kernel) rfl, by decide⟩, fun h => absurd h (by decide), fun h => absurd h (by decide), fun h => absurd h (by decide), fun h => absurd h (by decide)⟩
theorem xCt_ok_14 : xCok (((2, 98), (mX2_isStuck, 0, 0))) := ⟨xMok_mX2_isStuck, by decide +kernel, fun _ => ⟨xws0_of (i := 501) (by decide +kernel) rfl, xws0_of (i := 502) (by decide +kernel) rfl, xws0_of (i := 503) (by decide +kernel) rfl, by decide⟩, fun h => absurd h (by decide), fun h => absurd h (by decide), fun h => absurd h (by decide), fun h => absurd h (by decide)⟩
theorem xCt_ok_15 : xCok (((2, 102), (mX2_runnerInSlotOf, 1, 0))) := ⟨xMok_mX2_runnerInSlotOf, by decide +kernel, fun _ => ⟨xws0_of (i := 429) (by decide +kernel) rfl, xws0_of (i := 431) (by decide +kernel) rfl, xws0_of (i := 5) (by decide +kernel) rfl, by decide⟩, fun h => absurd h (by decide), fun h => absurd h (by decide), fun h => absurd h (by decide), fun h => absurd h (by decide)⟩
theorem xCt_ok_16 : xCok (((2, 105), (mX2_account, 2, 0))) := ⟨xMok_mX2_account, by decide +kernel, fun _ => ⟨xws0_of (i := 460) (by decide +kernel) rfl, xws0_of (i := 462) (by decide +kernel) rfl, xws0_of (i := 7) (by decide +kernel) rfl, by decide⟩, fun h => absurd h (by decide), fun h => absurd h (by decide), fun h => absurd h (by decide), fun h => absurd h (by decide)⟩
theorem xCt_ok_17 : xCok (((2, 109), (mX2_runNextOf, 1, 0))) := ⟨xMok_mX2_runNextOf, by decide +kernel, fun _ => ⟨xws0_of (i := 464) (by decide +kernel) rfl, xws0_of (i := 466) (by decide +kernel) rfl, xws0_of (i := 8) (by decide +kernel) rfl, by decide⟩, fun h => absurd h (by decide), fun h => absurd h (by decide), fun h => absurd h (by decide), fun h => absurd h (by decide)⟩
theorem xCt_ok_18 : xCok (((2, 113), (mX2_setIn, 1, 0))) := ⟨xMok_mX2_setIn, by decide +kernel, fun _ => ⟨xws0_of (i := 433) (by decide +kernel) rfl, xws0_of (i := 434) (by decide +kernel) rfl, xws0_of (i := 435) (by decide +kernel) rfl, by decide⟩, fun h => absurd h (by decide), fun h => absurd h (by decide), fun h => absurd h (by decide), fun h => absurd h (by decide)⟩
theorem xCt_ok_19 : xCok (((2, 116), (mX2_lentPriority, 2, 0))) := ⟨xMok_mX2_lentPriority, by decide +kernel, fun _ => ⟨xws0_of (i := 456) (by decide +kernel) rfl, xws0_of (i := 457) (by decide +kernel) rfl, xws0_of (i := 458) (by decide +kernel) rfl, by decide⟩, fun h => absurd h (by decide), fun h => absurd h (by decide), fun h => absurd h (by decide), fun h => absurd h (by decide)⟩
theorem xCt_ok_20 : xCok (((2, 123), (mX0_goBack, 1, 0))) := ⟨xMok_mX0_goBack, by decide +kernel, fun _ => ⟨xws0_of (i := 468) (by decide +kernel) rfl, xws0_of (i := 469) (by decide +kernel) rfl, xws0_of (i := 470) (by decide +kernel) rfl, by decide⟩, fun h => absurd h (by decide), fun h => absurd h (by decide), fun h => absurd h (by decide), fun h => absurd h (by decide)⟩
theorem xCt_ok_21 : xCok (((2, 126), (mX0_addToSum, 1, 0))) := ⟨xMok_mX0_addToSum, by decide +kernel, fun _ => ⟨xws0_of (i := 474) (by decide +kernel) rfl, xws0_of (i := 475) (by decide +kernel) rfl, xws0_of (i := 476) (by decide +kernel) rfl, by decide⟩, fun h => absurd h (by decide), fun h => absurd h (by decide), fun h => absurd h (by decide), fun h => absurd h (by decide)⟩
theorem xCt_ok_22 : xCok (((2, 132), (mX0_receive, 1, 0))) := ⟨xMok_mX0_receive, by decide +kernel, fun _ => ⟨xws0_of (i := 478) (by decide +kernel) rfl, xws0_of (i := 402) (by decide +kernel) rfl, xws0_of (i := 403) (by decide +kernel) rfl, by decide⟩, fun h => absurd h (by decide), fun h => absurd h (by decide), fun h => absurd h (by decide), fun h => absurd h (by decide)⟩
theorem xCt_ok_23 : xCok (((2, 135), (mX0_takeMessage, 0, 0))) := ⟨xMok_mX0_takeMessage, by decide +kernel, fun _ => ⟨xws0_of (i := 479) (by decide +kernel) rfl, xws0_of (i := 480) (by decide +kernel) rfl, xws0_of (i := 481) (by decide +kernel) rfl, by decide⟩, fun h => absurd h (by decide), fun h => absurd h (by decide), fun h => absurd h (by decide), fun h => absurd h (by decide)⟩
theorem xCt_ok_24 : xCok (((2, 138), (mX2_freeIfHeldBy, 2, 0))) := ⟨xMok_mX2_freeIfHeldBy, by decide +kernel, fun _ => ⟨xws0_of (i := 484) (by decide +kernel) rfl, xws0_of (i := 486) (by decide +kernel) rfl, xws0_of (i := 9) (by decide +kernel) rfl, by decide⟩, fun h => absurd h (by decide), fun h => absurd h (by decide), fun h => absurd h (by decide), fun h => absurd h (by decide)⟩
theorem xCt_ok_25 : xCok (((3, 34), (mX3_digitHere, 0, 0))) := ⟨xMok_mX3_digitHere, by decide +kernel, fun _ => ⟨xws0_of (i := 275) (by decide +kernel) rfl, xws0_of (i := 277) (by decide +kernel) rfl, xws0_of (i := 0) (by decide +kernel) rfl, by decide⟩, fun h => absurd h (by decide), fun h => absurd h (by decide), fun h => absurd h (by decide), fun h => absurd h (by decide)⟩
theorem xCt_ok_26 : xCok (((3, 41), (mX3_takeCharacter, 1, 0))) := ⟨xMok_mX3_takeCharacter, by decide +kernel, fun _ => ⟨xws0_of (i := 283) (by decide +kernel) rfl, xws0_of (i := 285) (by decide +kernel) rfl, xws0_of (i := 2) (by decide +kernel) rfl, by decide⟩, fun h => absurd h (by decide), fun h => absurd h (by decide), fun h => absurd h (by decide), fun h => absurd h (by decide)⟩
theorem xCt_ok_27 : xCok (((3, 45), (mX3_takeCommand, 0, 0))) := ⟨xMok_mX3_takeCommand, by decide +kernel, fun _ => ⟨xws0_of (i := 287) (by decide +kernel) rfl, xws0_of (i := 289) (by decide +kernel) rfl, xws0_of (i := 3) (by decide +kernel) rfl, by decide⟩, fun h => absurd h (by decide), fun h => absurd h (by decide), fun h => absurd h (by decide), fun h => absurd h (by decide)⟩
theorem xCt_ok_28 : xCok (((3, 49), (mX3_characterAt, 1, 0))) := ⟨xMok_mX3_characterAt, by decide +kernel, fun _ => ⟨xws0_of (i := 279) (by decide +kernel) rfl, xws0_of (i := 281) (by decide +kernel) rfl, xws0_of (i := 1) (by decide +kernel) rfl, by decide⟩, fun h => absurd h (by decide), fun h => absurd h (by decide), fun h => absurd h (by decide), fun h => absurd h (by decide)⟩
theorem xCt_ok_29 : xCok (((3, 55), (mJ0_indexOf_0f7a4, 1, 0))) := ⟨xMok_mJ0_indexOf_0f7a4, by decide +kernel, fun _ => ⟨xws0_of (i := 292) (by decide +kernel) rfl, xws0_of (i := 293) (by decide +kernel) rfl, xws0_of (i := 294) (by decide +kernel) rfl, by decide⟩, fun h => absurd h (by decide), fun h => absurd h (by decide), fun h => absurd h (by decide), fun h => absurd h (by decide)⟩
theorem xCt_ok_30 : xCok (((3, 67), (mX3_takeNumber, 2, 0))) := ⟨xMok_mX3_takeNumber, by decide +kernel, fun _ => ⟨xws0_of (i := 380) (by decide +kernel) rfl, xws0_of (i := 382) (by decide +kernel) rfl, xws0_of (i := 4) (by decide +kernel) rfl, by decide⟩, fun h => absurd h (by decide), fun h => absurd h (by decide), fun h => absurd h (by decide), fun h => absurd h (by decide)⟩
theorem xCt_ok_31 : xCok (((4, 9), (mX2_init, 0, 2))) := ⟨xMok_mX2_init, by decide +kernel, fun h => absurd h (by decide), fun h => absurd h (by decide), fun _ => ⟨xws0_of (i := 69) (by decide +kernel) rfl, xws0_of (i := 70) (by decide +kernel) rfl, rfl, rfl⟩, fun h => absurd h (by decide), fun h => absurd h (by decide)⟩
theorem xCt_ok_32 : xCok (((4, 21), (mX1_init, 0, 2))) := ⟨xMok_mX1_init, by decide +kernel, fun h => absurd h (by decide), fun h => absurd h (by decide), fun _ => ⟨xws0_of (i := 161) (by decide +kernel) rfl, xws0_of (i := 162) (by decide +kernel) rfl, rfl, rfl⟩, fun h => absurd h (by decide), fun h => absurd h (by decide)⟩
theorem xCt_ok_33 : xCok (((4, 36), (mX3_init, 0, 4))) := ⟨xMok_mX3_init, by decide +kernel, fun h => absurd h (by decide), fun h => absurd h (by decide), fun h => absurd h (by decide), fun h => absurd h (by decide), fun _ => ⟨List.mem_of_getElem? (i := 1) (by decide +kernel), xws0_of (i := 182) (by decide +kernel) rfl, rfl, rfl⟩⟩
theorem xCt_ok_34 : xCok (((4, 41), (mX4_isContext, 1, 1))) := ⟨xMok_mX4_isContext, by decide +kernel, fun h => absurd h (by decide), fun _ => ⟨xws0_of (i := 237) (by decide +kernel) rfl, xws0_of (i := 238) (by decide +kernel) rfl⟩, fun h => absurd h (by decide), fun h => absurd h (by decide), fun h => absurd h (by decide)⟩
theorem xCt_ok_35 : xCok (((4, 45), (mX4_isCommand, 2, 1))) := ⟨xMok_mX4_isCommand, by decide +kernel, fun h => absurd h (by decide), fun _ => ⟨xws0_of (i := 240) (by decide +kernel) rfl, xws0_of (i := 241) (by decide +kernel) rfl⟩, fun h => absurd h (by decide), fun h => absurd h (by decide), fun h => absurd h (by decide)⟩
theorem xCt_ok_36 : xCok (((4, 59), (mX1_record, 1, 0))) := ⟨xMok_mX1_record, by decide +kernel, fun _ => ⟨xws0_of (i := 247) (by decide +kernel) rfl, xws0_of (i := 248) (by decide +kernel) rfl, xws0_of (i := 249) (by decide +kernel) rfl, by decide⟩, fun h => absurd h (by decide), fun h => absurd h (by decide), fun h => absurd h (by decide), fun h => absurd h (by decide)⟩
theorem xCt_ok_37 : xCok (((4, 63), (mX0_append, 2, 0))) := ⟨xMok_mX0_append, by decide +kernel, fun _ => ⟨xws0_of (i := 263) (by decide +kernel) rfl, xws0_of (i := 264) (by decide +kernel) rfl, xws0_of (i := 265) (by decide +kernel) rfl, by decide⟩, fun h => absurd h (by decide), fun h => absurd h (by decide), fun h => absurd h (by decide), fun h => absurd h (by decide)⟩
theorem xCt_ok_38 : xCok (((4, 67), (mX3_findFault, 0, 0))) := ⟨xMok_mX3_findFault, by decide +kernel, fun _ => ⟨xws0_of (i := 271) (by decide +kernel) rfl, xws0_of (i := 272) (by decide +kernel) rfl, xws0_of (i := 273) (by decide +kernel) rfl, by decide⟩, fun h => absurd h (by decide), fun h => absurd h (by decide), fun h => absurd h (by decide), fun h => absurd h (by decide)⟩
theorem xCt_ok_39 : xCok (((4, 74), (mX0_load, 1, 0))) := ⟨xMok_mX0_load, by decide +kernel, fun _ => ⟨xws0_of (i := 384) (by decide +kernel) rfl, xws0_of (i := 385) (by decide +kernel) rfl, xws0_of (i := 386) (by decide +kernel) rfl, by decide⟩, fun h => absurd h (by decide), fun h => absurd h (by decide), fun h => absurd h (by decide), fun h => absurd h (by decide)⟩
theorem xCt_ok_40 : xCok (((4, 81), (mX4_isPriority, 1, 1))) := ⟨xMok_mX4_isPriority, by decide +kernel, fun h => absurd h (by decide), fun _ => ⟨xws0_of (i := 394) (by decide +kernel) rfl, xws0_of (i := 395) (by decide +kernel) rfl⟩, fun h => absurd h (by decide), fun h => absurd h (by decide), fun h => absurd h (by decide)⟩
theorem xCt_ok_41 : xCok (((4, 90), (mX0_receive, 1, 0))) := ⟨xMok_mX0_receive, by decide +kernel, fun _ => ⟨xws0_of (i := 401) (by decide +kernel) rfl, xws0_of (i := 402) (by decide +kernel) rfl, xws0_of (i := 403) (by decide +kernel) rfl, by decide⟩, fun h => absurd h (by decide), fun h => absurd h (by decide), fun h => absurd h (by decide), fun h => absurd h (by decide)⟩
theorem xCt_ok_42 : xCok (((4, 94), (mX4_isLock, 1, 1))) := ⟨xMok_mX4_isLock, by decide +kernel, fun h => absurd h (by decide), fun _ => ⟨xws0_of (i := 409) (by decide +kernel) rfl, xws0_of (i := 410) (by decide +kernel) rfl⟩, fun h => absurd h (by decide), fun h => absurd h (by decide), fun h => absurd h (by decide)⟩
theorem xCt_ok_43 : xCok (((4, 101), (mX4_isStep, 1, 1))) := ⟨xMok_mX4_isStep, by decide +kernel, fun h => absurd h (by decide), fun _ => ⟨xws0_of (i := 416) (by decide +kernel) rfl, xws0_of (i := 417) (by decide +kernel) rfl⟩, fun h => absurd h (by decide), fun h => absurd h (by decide), fun h => absurd h (by decide)⟩
theorem xCt_ok_44 : xCok (((4, 108), (mX2_passSlots, 1, 0))) := ⟨xMok_mX2_passSlots, by decide +kernel, fun _ => ⟨xws0_of (i := 420) (by decide +kernel) rfl, xws0_of (i := 421) (by decide +kernel) rfl, xws0_of (i := 422) (by decide +kernel) rfl, by decide⟩, fun h => absurd h (by decide), fun h => absurd h (by decide), fun h => absurd h (by decide), fun h => absurd h (by decide)⟩
theorem xCt_ok_45 : xCok (((4, 113), (mX2_passUntilDone, 1, 0))) := ⟨xMok_mX2_passUntilDone, by decide +kernel, fun _ => ⟨xws0_of (i := 493) (by decide +kernel) rfl, xws0_of (i := 494) (by decide +kernel) rfl, xws0_of (i := 495) (by decide +kernel) rfl, by decide⟩, fun h => absurd h (by decide), fun h => absurd h (by decide), fun h => absurd h (by decide), fun h => absurd h (by decide)⟩
theorem xCt_ok_46 : xCok (((4, 122), (mX2_findAllWaits, 0, 0))) := ⟨xMok_mX2_findAllWaits, by decide +kernel, fun _ => ⟨xws0_of (i := 509) (by decide +kernel) rfl, xws0_of (i := 445) (by decide +kernel) rfl, xws0_of (i := 446) (by decide +kernel) rfl, by decide⟩, fun h => absurd h (by decide), fun h => absurd h (by decide), fun h => absurd h (by decide), fun h => absurd h (by decide)⟩
theorem xCt_ok_47 : xCok (((4, 126), (mX2_lentPriority, 2, 0))) := ⟨xMok_mX2_lentPriority, by decide +kernel, fun _ => ⟨xws0_of (i := 510) (by decide +kernel) rfl, xws0_of (i := 457) (by decide +kernel) rfl, xws0_of (i := 458) (by decide +kernel) rfl, by decide⟩, fun h => absurd h (by decide), fun h => absurd h (by decide), fun h => absurd h (by decide), fun h => absurd h (by decide)⟩
theorem xCt_ok_48 : xCok (((4, 133), (mX2_stateOf, 1, 0))) := ⟨xMok_mX2_stateOf, by decide +kernel, fun _ => ⟨xws0_of (i := 511) (by decide +kernel) rfl, xws0_of (i := 438) (by decide +kernel) rfl, xws0_of (i := 439) (by decide +kernel) rfl, by decide⟩, fun h => absurd h (by decide), fun h => absurd h (by decide), fun h => absurd h (by decide), fun h => absurd h (by decide)⟩
theorem xCt_ok_49 : xCok (((4, 136), (mX2_waitsOf, 1, 0))) := ⟨xMok_mX2_waitsOf, by decide +kernel, fun _ => ⟨xws0_of (i := 512) (by decide +kernel) rfl, xws0_of (i := 449) (by decide +kernel) rfl, xws0_of (i := 450) (by decide +kernel) rfl, by decide⟩, fun h => absurd h (by decide), fun h => absurd h (by decide), fun h => absurd h (by decide), fun h => absurd h (by decide)⟩
theorem xCt_ok_50 : xCok (((4, 139), (mX2_ringSet, 0, 0))) := ⟨xMok_mX2_ringSet, by decide +kernel, fun _ => ⟨xws0_of (i := 513) (by decide +kernel) rfl, xws0_of (i := 514) (by decide +kernel) rfl, xws0_of (i := 515) (by decide +kernel) rfl, by decide⟩, fun h => absurd h (by decide), fun h => absurd h (by decide), fun h => absurd h (by decide), fun h => absurd h (by decide)⟩
theorem xCt_ok_51 : xCok (((4, 142), (mX4_has, 2, 1))) := ⟨xMok_mX4_has, by decide +kernel, fun h => absurd h (by decide), fun _ => ⟨xws0_of (i := 517) (by decide +kernel) rfl, xws0_of (i := 442) (by decide +kernel) rfl⟩, fun h => absurd h (by decide), fun h => absurd h (by decide), fun h => absurd h (by decide)⟩
theorem xCt_ok_52 : xCok (((4, 160), (mX2_setIn, 1, 0))) := ⟨xMok_mX2_setIn, by decide +kernel, fun _ => ⟨xws0_of (i := 534) (by decide +kernel) rfl, xws0_of (i := 434) (by decide +kernel) rfl, xws0_of (i := 435) (by decide +kernel) rfl, by decide⟩, fun h => absurd h (by decide), fun h => absurd h (by decide), fun h => absurd h (by decide), fun h => absurd h (by decide)⟩
theorem xCt_ok_53 : xCok (((4, 163), (mJ6_bitCount_0f7a4, 1, 1))) := ⟨xMok_mJ6_bitCount_0f7a4, by decide +kernel, fun h => absurd h (by decide), fun _ => ⟨xws0_of (i := 535) (by decide +kernel) rfl, xws0_of (i := 536) (by decide +kernel) rfl⟩, fun h => absurd h (by decide), fun h => absurd h (by decide), fun h => absurd h (by decide)⟩
theorem xCt_ok_54 : xCok (((4, 168), (mX2_isStuck, 0, 0))) := ⟨xMok_mX2_isStuck, by decide +kernel, fun _ => ⟨xws0_of (i := 541) (by decide +kernel) rfl, xws0_of (i := 502) (by decide +kernel) rfl, xws0_of (i := 503) (by decide +kernel) rfl, by decide⟩, fun h => absurd h (by decide), fun h => absurd h (by decide), fun h => absurd h (by decide), fun h => absurd h (by decide)⟩
theorem xCt_ok_55 : xCok (((4, 178), (mX4_tryNow, 0, 0))) := ⟨xMok_mX4_tryNow, by decide +kernel, fun _ => ⟨xws0_of (i := 542) (by decide +kernel) rfl, xws0_of (i := 544) (by decide +kernel) rfl, xws0_of (i := 10) (by decide +kernel) rfl, by decide⟩, fun h => absurd h (by decide), fun h => absurd h (by decide), fun h => absurd h (by decide), fun h => absurd h (by decide)⟩
theorem xCt_ok_56 : xCok (((4, 182), (mX2_passSlot, 0, 0))) := ⟨xMok_mX2_passSlot, by decide +kernel, fun _ => ⟨xws0_of (i := 547) (by decide +kernel) rfl, xws0_of (i := 425) (by decide +kernel) rfl, xws0_of (i := 426) (by decide +kernel) rfl, by decide⟩, fun h => absurd h (by decide), fun h => absurd h (by decide), fun h => absurd h (by decide), fun h => absurd h (by decide)⟩
theorem xCt_ok_57 : xCok (((4, 188), (mX2_areDone, 1, 0))) := ⟨xMok_mX2_areDone, by decide +kernel, fun _ => ⟨xws0_of (i := 552) (by decide +kernel) rfl, xws0_of (i := 498) (by decide +kernel) rfl, xws0_of (i := 499) (by decide +kernel) rfl, by decide⟩, fun h => absurd h (by decide), fun h => absurd h (by decide), fun h => absurd h (by decide), fun h => absurd h (by decide)⟩
theorem xCt_ok_58 : xCok (((4, 191), (mX3_charactersIn, 1, 1))) := ⟨xMok_mX3_charactersIn, by decide +kernel, fun h => absurd h (by decide), fun _ => ⟨xws0_of (i := 565) (by decide +kernel) rfl, xws0_of (i := 566) (by decide +kernel) rfl⟩, fun h => absurd h (by decide), fun h => absurd h (by decide), fun h => absurd h (by decide)⟩
theorem xCt_ok_59 : xCok (((4, 195), (mX3_append, 2, 0))) := ⟨xMok_mX3_append, by decide +kernel, fun _ => ⟨xws0_of (i := 569) (by decide +kernel) rfl, xws0_of (i := 570) (by decide +kernel) rfl, xws0_of (i := 571) (by decide +kernel) rfl, by decide⟩, fun h => absurd h (by decide), fun h => absurd h (by decide), fun h => absurd h (by decide), fun h => absurd h (by decide)⟩
theorem xCt_ok_60 : xCok (((4, 198), (mX1_takeBack, 1, 0))) := ⟨xMok_mX1_takeBack, by decide +kernel, fun _ => ⟨xws0_of (i := 585) (by decide +kernel) rfl, xws0_of (i := 586) (by decide +kernel) rfl, xws0_of (i := 587) (by decide +kernel) rfl, by decide⟩, fun h => absurd h (by decide), fun h => absurd h (by decide), fun h => absurd h (by decide), fun h => absurd h (by decide)⟩
theorem xCt_ok_61 : xCok (((4, 201), (mX4_isSave, 1, 1))) := ⟨xMok_mX4_isSave, by decide +kernel, fun h => absurd h (by decide), fun _ => ⟨xws0_of (i := 593) (by decide +kernel) rfl, xws0_of (i := 594) (by decide +kernel) rfl⟩, fun h => absurd h (by decide), fun h => absurd h (by decide), fun h => absurd h (by decide)⟩
theorem xCt_ok_62 : xCok (((4, 204), (mX2_copyFrom, 1, 0))) := ⟨xMok_mX2_copyFrom, by decide +kernel, fun _ => ⟨xws0_of (i := 546) (by decide +kernel) rfl, xws0_of (i := 252) (by decide +kernel) rfl, xws0_of (i := 253) (by decide +kernel) rfl, by decide⟩, fun h => absurd h (by decide), fun h => absurd h (by decide), fun h => absurd h (by decide), fun h => absurd h (by decide)⟩
theorem xCt_ok_63 : xCok (((5, 42), (mX5_in, 3, 1))) := ⟨xMok_mX5_in, by decide +kernel, fun h => absurd h (by decide), fun _ => ⟨xws0_of (i := 662) (by decide +kernel) rfl, xws0_of (i := 663) (by decide +kernel) rfl⟩, fun h => absurd h (by decide), fun h => absurd h (by decide), fun h => absurd h (by decide)⟩
theorem xCt_ok_64 : xCok (((5, 49), (mX5_get, 2, 0))) := ⟨xMok_mX5_get, by decide +kernel, fun _ => ⟨xws0_of (i := 668) (by decide +kernel) rfl, xws0_of (i := 670) (by decide +kernel) rfl, xws0_of (i := 11) (by decide +kernel) rfl, by decide⟩, fun h => absurd h (by decide), fun h => absurd h (by decide), fun h => absurd h (by decide), fun h => absurd h (by decide)⟩
theorem xCt_ok_65 : xCok (((5, 53), (mX5_isDone, 1, 0))) := ⟨xMok_mX5_isDone, by decide +kernel, fun _ => ⟨xws0_of (i := 721) (by decide +kernel) rfl, xws0_of (i := 723) (by decide +kernel) rfl, xws0_of (i := 20) (by decide +kernel) rfl, by decide⟩, fun h => absurd h (by decide), fun h => absurd h (by decide), fun h => absurd h (by decide), fun h => absurd h (by decide)⟩
theorem xCt_ok_66 : xCok (((5, 57), (mX5_commandOf, 2, 0))) := ⟨xMok_mX5_commandOf, by decide +kernel, fun _ => ⟨xws0_of (i := 725) (by decide +kernel) rfl, xws0_of (i := 727) (by decide +kernel) rfl, xws0_of (i := 21) (by decide +kernel) rfl, by decide⟩, fun h => absurd h (by decide), fun h => absurd h (by decide), fun h => absurd h (by decide), fun h => absurd h (by decide)⟩
theorem xCt_ok_67 : xCok (((5, 60), (mX5_argumentOf, 2, 0))) := ⟨xMok_mX5_argumentOf, by decide +kernel, fun _ => ⟨xws0_of (i := 729) (by decide +kernel) rfl, xws0_of (i := 731) (by decide +kernel) rfl, xws0_of (i := 22) (by decide +kernel) rfl, by decide⟩, fun h => absurd h (by decide), fun h => absurd h (by decide), fun h => absurd h (by decide), fun h => absurd h (by decide)⟩
theorem xCt_ok_68 : xCok (((5, 63), (mX5_stateOf, 1, 0))) := ⟨xMok_mX5_stateOf, by decide +kernel, fun _ => ⟨xws0_of (i := 717) (by decide +kernel) rfl, xws0_of (i := 719) (by decide +kernel) rfl, xws0_of (i := 19) (by decide +kernel) rfl, by decide⟩, fun h => absurd h (by decide), fun h => absurd h (by decide), fun h => absurd h (by decide), fun h => absurd h (by decide)⟩
theorem xCt_ok_69 : xCok (((5, 67), (mX5_sendsTo, 2, 0))) := ⟨xMok_mX5_sendsTo, by decide +kernel, fun _ => ⟨xws0_of (i := 741) (by decide +kernel) rfl, xws0_of (i := 743) (by decide +kernel) rfl, xws0_of (i := 25) (by decide +kernel) rfl, by decide⟩, fun h => absurd h (by decide), fun h => absurd h (by decide), fun h => absurd h (by decide), fun h => absurd h (by decide)⟩
theorem xCt_ok_70 : xCok (((5, 71), (mX5_waitsFor, 1, 0))) := ⟨xMok_mX5_waitsFor, by decide +kernel, fun _ => ⟨xws0_of (i := 737) (by decide +kernel) rfl, xws0_of (i := 739) (by decide +kernel) rfl, xws0_of (i := 24) (by decide +kernel) rfl, by decide⟩, fun h => absurd h (by decide), fun h => absurd h (by decide), fun h => absurd h (by decide), fun h => absurd h (by decide)⟩
theorem xCt_ok_71 : xCok (((5, 74), (mX5_laysWaits, 0, 0))) := ⟨xMok_mX5_laysWaits, by decide +kernel, fun _ => ⟨xws0_of (i := 733) (by decide +kernel) rfl, xws0_of (i := 735) (by decide +kernel) rfl, xws0_of (i := 23) (by decide +kernel) rfl, by decide⟩, fun h => absurd h (by decide), fun h => absurd h (by decide), fun h => absurd h (by decide), fun h => absurd h (by decide)⟩
theorem xCt_ok_72 : xCok (((5, 77), (mX5_inState, 1, 0))) := ⟨xMok_mX5_inState, by decide +kernel, fun _ => ⟨xws0_of (i := 766) (by decide +kernel) rfl, xws0_of (i := 768) (by decide +kernel) rfl, xws0_of (i := 30) (by decide +kernel) rfl, by decide⟩, fun h => absurd h (by decide), fun h => absurd h (by decide), fun h => absurd h (by decide), fun h => absurd h (by decide)⟩
theorem xCt_ok_73 : xCok (((5, 80), (mX5_lay, 3, 0))) := ⟨xMok_mX5_lay, by decide +kernel, fun _ => ⟨xws0_of (i := 680) (by decide +kernel) rfl, xws0_of (i := 682) (by decide +kernel) rfl, xws0_of (i := 14) (by decide +kernel) rfl, by decide⟩, fun h => absurd h (by decide), fun h => absurd h (by decide), fun h => absurd h (by decide), fun h => absurd h (by decide)⟩
theorem xCt_ok_74 : xCok (((5, 84), (mX5_goesBack, 2, 0))) := ⟨xMok_mX5_goesBack, by decide +kernel, fun _ => ⟨xws0_of (i := 753) (by decide +kernel) rfl, xws0_of (i := 755) (by decide +kernel) rfl, xws0_of (i := 28) (by decide +kernel) rfl, by decide⟩, fun h => absurd h (by decide), fun h => absurd h (by decide), fun h => absurd h (by decide), fun h => absurd h (by decide)⟩
theorem xCt_ok_75 : xCok (((5, 88), (mX5_receives, 2, 0))) := ⟨xMok_mX5_receives, by decide +kernel, fun _ => ⟨xws0_of (i := 692) (by decide +kernel) rfl, xws0_of (i := 694) (by decide +kernel) rfl, xws0_of (i := 15) (by decide +kernel) rfl, by decide⟩, fun h => absurd h (by decide), fun h => absurd h (by decide), fun h => absurd h (by decide), fun h => absurd h (by decide)⟩
theorem xCt_ok_76 : xCok (((5, 91), (mX5_takes, 1, 0))) := ⟨xMok_mX5_takes, by decide +kernel, fun _ => ⟨xws0_of (i := 757) (by decide +kernel) rfl, xws0_of (i := 759) (by decide +kernel) rfl, xws0_of (i := 29) (by decide +kernel) rfl, by decide⟩, fun h => absurd h (by decide), fun h => absurd h (by decide), fun h => absurd h (by decide), fun h => absurd h (by decide)⟩
theorem xCt_ok_77 : xCok (((5, 95), (mX5_lent, 1, 0))) := ⟨xMok_mX5_lent, by decide +kernel, fun _ => ⟨xws0_of (i := 745) (by decide +kernel) rfl, xws0_of (i := 747) (by decide +kernel) rfl, xws0_of (i := 26) (by decide +kernel) rfl, by decide⟩, fun h => absurd h (by decide), fun h => absurd h (by decide), fun h => absurd h (by decide), fun h => absurd h (by decide)⟩
theorem xCt_ok_78 : xCok (((5, 98), (mX5_wakes, 0, 0))) := ⟨xMok_mX5_wakes, by decide +kernel, fun _ => ⟨xws0_of (i := 709) (by decide +kernel) rfl, xws0_of (i := 711) (by decide +kernel) rfl, xws0_of (i := 17) (by decide +kernel) rfl, by decide⟩, fun h => absurd h (by decide), fun h => absurd h (by decide), fun h => absurd h (by decide), fun h => absurd h (by decide)⟩
theorem xCt_ok_79 : xCok (((5, 101), (mX5_runner, 1, 0))) := ⟨xMok_mX5_runner, by decide +kernel, fun _ => ⟨xws0_of (i := 713) (by decide +kernel) rfl, xws0_of (i := 715) (by decide +kernel) rfl, xws0_of (i := 18) (by decide +kernel) rfl, by decide⟩, fun h => absurd h (by decide), fun h => absurd h (by decide), fun h => absurd h (by decide), fun h => absurd h (by decide)⟩
theorem xCt_ok_80 : xCok (((5, 104), (mX5_runs, 1, 0))) := ⟨xMok_mX5_runs, by decide +kernel, fun _ => ⟨xws0_of (i := 749) (by decide +kernel) rfl, xws0_of (i := 751) (by decide +kernel) rfl, xws0_of (i := 27) (by decide +kernel) rfl, by decide⟩, fun h => absurd h (by decide), fun h => absurd h (by decide), fun h => absurd h (by decide), fun h => absurd h (by decide)⟩
theorem xCt_ok_81 : xCok (((5, 107), (mX5_isContext, 1, 1))) := ⟨xMok_mX5_isContext, by decide +kernel, fun h => absurd h (by decide), fun _ => ⟨xws0_of (i := 659) (by decide +kernel) rfl, xws0_of (i := 660) (by decide +kernel) rfl⟩, fun h => absurd h (by decide), fun h => absurd h (by decide), fun h => absurd h (by decide)⟩
theorem xCt_ok_82 : xCok (((5, 110), (mX5_isArgument, 2, 1))) := ⟨xMok_mX5_isArgument, by decide +kernel, fun h => absurd h (by decide), fun _ => ⟨xws0_of (i := 665) (by decide +kernel) rfl, xws0_of (i := 666) (by decide +kernel) rfl⟩, fun h => absurd h (by decide), fun h => absurd h (by decide), fun h => absurd h (by decide)⟩
theorem xCt_ok_83 : xCok (((5, 113), (mX5_records, 0, 0))) := ⟨xMok_mX5_records, by decide +kernel, fun _ => ⟨xws0_of (i := 672) (by decide +kernel) rfl, xws0_of (i := 674) (by decide +kernel) rfl, xws0_of (i := 12) (by decide +kernel) rfl, by decide⟩, fun h => absurd h (by decide), fun h => absurd h (by decide), fun h => absurd h (by decide), fun h => absurd h (by decide)⟩
theorem xCt_ok_84 : xCok (((5, 116), (mX5_adds, 3, 0))) := ⟨xMok_mX5_adds, by decide +kernel, fun _ => ⟨xws0_of (i := 676) (by decide +kernel) rfl, xws0_of (i := 678) (by decide +kernel) rfl, xws0_of (i := 13) (by decide +kernel) rfl, by decide⟩, fun h => absurd h (by decide), fun h => absurd h (by decide), fun h => absurd h (by decide), fun h => absurd h (by decide)⟩
theorem xCt_ok_85 : xCok (((5, 120), (mX5_slot, 0, 0))) := ⟨xMok_mX5_slot, by decide +kernel, fun _ => ⟨xws0_of (i := 705) (by decide +kernel) rfl, xws0_of (i := 707) (by decide +kernel) rfl, xws0_of (i := 16) (by decide +kernel) rfl, by decide⟩, fun h => absurd h (by decide), fun h => absurd h (by decide), fun h => absurd h (by decide), fun h => absurd h (by decide)⟩
theorem xCt_ok_86 : xCok (((5, 125), (mX5_isStuck, 0, 0))) := ⟨xMok_mX5_isStuck, by decide +kernel, fun _ => ⟨xws0_of (i := 770) (by decide +kernel) rfl, xws0_of (i := 772) (by decide +kernel) rfl, xws0_of (i := 31) (by decide +kernel) rfl, by decide⟩, fun h => absurd h (by decide), fun h => absurd h (by decide), fun h => absurd h (by decide), fun h => absurd h (by decide)⟩
theorem xCt_ok_87 : xCok (((5, 129), (mX5_putAside, 0, 0))) := ⟨xMok_mX5_putAside, by decide +kernel, fun _ => ⟨xws0_of (i := 809) (by decide +kernel) rfl, xws0_of (i := 811) (by decide +kernel) rfl, xws0_of (i := 35) (by decide +kernel) rfl, by decide⟩, fun h => absurd h (by decide), fun h => absurd h (by decide), fun h => absurd h (by decide), fun h => absurd h (by decide)⟩
theorem xCt_ok_88 : xCok (((5, 132), (mX5_takeBack, 0, 0))) := ⟨xMok_mX5_takeBack, by decide +kernel, fun _ => ⟨xws0_of (i := 813) (by decide +kernel) rfl, xws0_of (i := 815) (by decide +kernel) rfl, xws0_of (i := 36) (by decide +kernel) rfl, by decide⟩, fun h => absurd h (by decide), fun h => absurd h (by decide), fun h => absurd h (by decide), fun h => absurd h (by decide)⟩
theorem xCt_ok_89 : xCok (((5, 135), (mX5_count1, 1, 1))) := ⟨xMok_mX5_count1, by decide +kernel, fun h => absurd h (by decide), fun _ => ⟨xws0_of (i := 794) (by decide +kernel) rfl, xws0_of (i := 795) (by decide +kernel) rfl⟩, fun h => absurd h (by decide), fun h => absurd h (by decide), fun h => absurd h (by decide)⟩
theorem xCt_ok_90 : xCok (((5, 138), (mX5_rings, 0, 0))) := ⟨xMok_mX5_rings, by decide +kernel, fun _ => ⟨xws0_of (i := 797) (by decide +kernel) rfl, xws0_of (i := 799) (by decide +kernel) rfl, xws0_of (i := 32) (by decide +kernel) rfl, by decide⟩, fun h => absurd h (by decide), fun h => absurd h (by decide), fun h => absurd h (by decide), fun h => absurd h (by decide)⟩
theorem xCt_ok_91 : xCok (((5, 141), (mX5_sumOver, 1, 0))) := ⟨xMok_mX5_sumOver, by decide +kernel, fun _ => ⟨xws0_of (i := 801) (by decide +kernel) rfl, xws0_of (i := 803) (by decide +kernel) rfl, xws0_of (i := 33) (by decide +kernel) rfl, by decide⟩, fun h => absurd h (by decide), fun h => absurd h (by decide), fun h => absurd h (by decide), fun h => absurd h (by decide)⟩
theorem xCt_ok_92 : xCok (((5, 144), (mX5_next, 0, 0))) := ⟨xMok_mX5_next, by decide +kernel, fun _ => ⟨xws0_of (i := 805) (by decide +kernel) rfl, xws0_of (i := 807) (by decide +kernel) rfl, xws0_of (i := 34) (by decide +kernel) rfl, by decide⟩, fun h => absurd h (by decide), fun h => absurd h (by decide), fun h => absurd h (by decide), fun h => absurd h (by decide)⟩
theorem xCt_ok_93 : xCok (((5, 150), (mX5_until, 1, 0))) := ⟨xMok_mX5_until, by decide +kernel, fun _ => ⟨xws0_of (i := 821) (by decide +kernel) rfl, xws0_of (i := 823) (by decide +kernel) rfl, xws0_of (i := 37) (by decide +kernel) rfl, by decide⟩, fun h => absurd h (by decide), fun h => absurd h (by decide), fun h => absurd h (by decide), fun h => absurd h (by decide)⟩
theorem xCt_ok_94 : xCok (((5, 162), (mX5_sign, 0, 0))) := ⟨xMok_mX5_sign, by decide +kernel, fun _ => ⟨xws0_of (i := 854) (by decide +kernel) rfl, xws0_of (i := 856) (by decide +kernel) rfl, xws0_of (i := 40) (by decide +kernel) rfl, by decide⟩, fun h => absurd h (by decide), fun h => absurd h (by decide), fun h => absurd h (by decide), fun h => absurd h (by decide)⟩
theorem xCt_ok_95 : xCok (((5, 165), (mX5_takesSign, 2, 0))) := ⟨xMok_mX5_takesSign, by decide +kernel, fun _ => ⟨xws0_of (i := 850) (by decide +kernel) rfl, xws0_of (i := 852) (by decide +kernel) rfl, xws0_of (i := 39) (by decide +kernel) rfl, by decide⟩, fun h => absurd h (by decide), fun h => absurd h (by decide), fun h => absurd h (by decide), fun h => absurd h (by decide)⟩
theorem xCt_ok_96 : xCok (((5, 168), (mX5_commandBy, 1, 1))) := ⟨xMok_mX5_commandBy, by decide +kernel, fun h => absurd h (by decide), fun _ => ⟨xws0_of (i := 862) (by decide +kernel) rfl, xws0_of (i := 863) (by decide +kernel) rfl⟩, fun h => absurd h (by decide), fun h => absurd h (by decide), fun h => absurd h (by decide)⟩
theorem xCt_ok_97 : xCok (((5, 171), (mX5_number, 0, 0))) := ⟨xMok_mX5_number, by decide +kernel, fun _ => ⟨xws0_of (i := 865) (by decide +kernel) rfl, xws0_of (i := 867) (by decide +kernel) rfl, xws0_of (i := 42) (by decide +kernel) rfl, by decide⟩, fun h => absurd h (by decide), fun h => absurd h (by decide), fun h => absurd h (by decide), fun h => absurd h (by decide)⟩
theorem xCt_ok_98 : xCok (((5, 174), (mX5_numberOfBack, 0, 0))) := ⟨xMok_mX5_numberOfBack, by decide +kernel, fun _ => ⟨xws0_of (i := 869) (by decide +kernel) rfl, xws0_of (i := 871) (by decide +kernel) rfl, xws0_of (i := 43) (by decide +kernel) rfl, by decide⟩, fun h => absurd h (by decide), fun h => absurd h (by decide), fun h => absurd h (by decide), fun h => absurd h (by decide)⟩
theorem xCt_ok_99 : xCok (((5, 183), (mX5_readsCommand, 0, 0))) := ⟨xMok_mX5_readsCommand, by decide +kernel, fun _ => ⟨xws0_of (i := 858) (by decide +kernel) rfl, xws0_of (i := 860) (by decide +kernel) rfl, xws0_of (i := 41) (by decide +kernel) rfl, by decide⟩, fun h => absurd h (by decide), fun h => absurd h (by decide), fun h => absurd h (by decide), fun h => absurd h (by decide)⟩
theorem xCt_ok_100 : xCok (((5, 186), (mX5_reads, 0, 0))) := ⟨xMok_mX5_reads, by decide +kernel, fun _ => ⟨xws0_of (i := 846) (by decide +kernel) rfl, xws0_of (i := 848) (by decide +kernel) rfl, xws0_of (i := 38) (by decide +kernel) rfl, by decide⟩, fun h => absurd h (by decide), fun h => absurd h (by decide), fun h => absurd h (by decide), fun h => absurd h (by decide)⟩
theorem xCt_ok_101 : xCok (((6, 9), (mX4_init, 0, 2))) := ⟨xMok_mX4_init, by decide +kernel, fun h => absurd h (by decide), fun h => absurd h (by decide), fun _ => ⟨xws0_of (i := 61) (by decide +kernel) rfl, xws0_of (i := 62) (by decide +kernel) rfl, rfl, rfl⟩, fun h => absurd h (by decide), fun h => absurd h (by decide)⟩
theorem xCt_ok_102 : xCok (((6, 12), (mX5_init, 0, 2))) := ⟨xMok_mX5_init, by decide +kernel, fun h => absurd h (by decide), fun h => absurd h (by decide), fun _ => ⟨xws0_of (i := 602) (by decide +kernel) rfl, xws0_of (i := 603) (by decide +kernel) rfl, rfl, rfl⟩, fun h => absurd h (by decide), fun h => absurd h (by decide)⟩
theorem xCt_ok_103 : xCok (((6, 13), (mX4_add, 3, 0))) := ⟨xMok_mX4_add, by decide +kernel, fun _ => ⟨xws0_of (i := 233) (by decide +kernel) rfl, xws0_of (i := 234) (by decide +kernel) rfl, xws0_of (i := 235) (by decide +kernel) rfl, by decide⟩, fun h => absurd h (by decide), fun h => absurd h (by decide), fun h => absurd h (by decide), fun h => absurd h (by decide)⟩
theorem xCt_ok_104 : xCok (((6, 17), (mX5_add, 3, 0))) := ⟨xMok_mX5_add, by decide +kernel, fun _ => ⟨xws0_of (i := 655) (by decide +kernel) rfl, xws0_of (i := 656) (by decide +kernel) rfl, xws0_of (i := 657) (by decide +kernel) rfl, by decide⟩, fun h => absurd h (by decide), fun h => absurd h (by decide), fun h => absurd h (by decide), fun h => absurd h (by decide)⟩
theorem xCt_ok_105 : xCok (((6, 18), (mX4_read, 0, 0))) := ⟨xMok_mX4_read, by decide +kernel, fun _ => ⟨xws0_of (i := 267) (by decide +kernel) rfl, xws0_of (i := 268) (by decide +kernel) rfl, xws0_of (i := 269) (by decide +kernel) rfl, by decide⟩, fun h => absurd h (by decide), fun h => absurd h (by decide), fun h => absurd h (by decide), fun h => absurd h (by decide)⟩
theorem xCt_ok_106 : xCok (((6, 22), (mX5_read, 0, 0))) := ⟨xMok_mX5_read, by decide +kernel, fun _ => ⟨xws0_of (i := 873) (by decide +kernel) rfl, xws0_of (i := 874) (by decide +kernel) rfl, xws0_of (i := 875) (by decide +kernel) rfl, by decide⟩, fun h => absurd h (by decide), fun h => absurd h (by decide), fun h => absurd h (by decide), fun h => absurd h (by decide)⟩
theorem xCt_ok_107 : xCok (((6, 23), (mX4_prefer, 2, 0))) := ⟨xMok_mX4_prefer, by decide +kernel, fun _ => ⟨xws0_of (i := 390) (by decide +kernel) rfl, xws0_of (i := 391) (by decide +kernel) rfl, xws0_of (i := 392) (by decide +kernel) rfl, by decide⟩, fun h => absurd h (by decide), fun h => absurd h (by decide), fun h => absurd h (by decide), fun h => absurd h (by decide)⟩
theorem xCt_ok_108 : xCok (((6, 27), (mX5_prefer, 2, 0))) := ⟨xMok_mX5_prefer, by decide +kernel, fun _ => ⟨xws0_of (i := 684) (by decide +kernel) rfl, xws0_of (i := 685) (by decide +kernel) rfl, xws0_of (i := 686) (by decide +kernel) rfl, by decide⟩, fun h => absurd h (by decide), fun h => absurd h (by decide), fun h => absurd h (by decide), fun h => absurd h (by decide)⟩
theorem xCt_ok_109 : xCok (((6, 28), (mX4_post, 2, 0))) := ⟨xMok_mX4_post, by decide +kernel, fun _ => ⟨xws0_of (i := 397) (by decide +kernel) rfl, xws0_of (i := 398) (by decide +kernel) rfl, xws0_of (i := 399) (by decide +kernel) rfl, by decide⟩, fun h => absurd h (by decide), fun h => absurd h (by decide), fun h => absurd h (by decide), fun h => absurd h (by decide)⟩
theorem xCt_ok_110 : xCok (((6, 31), (mX5_post, 2, 0))) := ⟨xMok_mX5_post, by decide +kernel, fun _ => ⟨xws0_of (i := 688) (by decide +kernel) rfl, xws0_of (i := 689) (by decide +kernel) rfl, xws0_of (i := 690) (by decide +kernel) rfl, by decide⟩, fun h => absurd h (by decide), fun h => absurd h (by decide), fun h => absurd h (by decide), fun h => absurd h (by decide)⟩
theorem xCt_ok_111 : xCok (((6, 32), (mX4_release, 1, 0))) := ⟨xMok_mX4_release, by decide +kernel, fun _ => ⟨xws0_of (i := 405) (by decide +kernel) rfl, xws0_of (i := 406) (by decide +kernel) rfl, xws0_of (i := 407) (by decide +kernel) rfl, by decide⟩, fun h => absurd h (by decide), fun h => absurd h (by decide), fun h => absurd h (by decide), fun h => absurd h (by decide)⟩
theorem xCt_ok_112 : xCok (((6, 36), (mX5_release, 1, 0))) := ⟨xMok_mX5_release, by decide +kernel, fun _ => ⟨xws0_of (i := 696) (by decide +kernel) rfl, xws0_of (i := 697) (by decide +kernel) rfl, xws0_of (i := 698) (by decide +kernel) rfl, by decide⟩, fun h => absurd h (by decide), fun h => absurd h (by decide), fun h => absurd h (by decide), fun h => absurd h (by decide)⟩
theorem xCt_ok_113 : xCok (((6, 37), (mX4_step, 1, 0))) := ⟨xMok_mX4_step, by decide +kernel, fun _ => ⟨xws0_of (i := 412) (by decide +kernel) rfl, xws0_of (i := 413) (by decide +kernel) rfl, xws0_of (i := 414) (by decide +kernel) rfl, by decide⟩, fun h => absurd h (by decide), fun h => absurd h (by decide), fun h => absurd h (by decide), fun h => absurd h (by decide)⟩
theorem xCt_ok_114 : xCok (((6, 40), (mX5_step, 1, 0))) := ⟨xMok_mX5_step, by decide +kernel, fun _ => ⟨xws0_of (i := 700) (by decide +kernel) rfl, xws0_of (i := 701) (by decide +kernel) rfl, xws0_of (i := 702) (by decide +kernel) rfl, by decide⟩, fun h => absurd h (by decide), fun h => absurd h (by decide), fun h => absurd h (by decide), fun h => absurd h (by decide)⟩
theorem xCt_ok_115 : xCok (((6, 41), (mX4_run, 0, 0))) := ⟨xMok_mX4_run, by decide +kernel, fun _ => ⟨xws0_of (i := 488) (by decide +kernel) rfl, xws0_of (i := 489) (by decide +kernel) rfl, xws0_of (i := 490) (by decide +kernel) rfl, by decide⟩, fun h => absurd h (by decide), fun h => absurd h (by decide), fun h => absurd h (by decide), fun h => absurd h (by decide)⟩
theorem xCt_ok_116 : xCok (((6, 44), (mX5_run, 0, 0))) := ⟨xMok_mX5_run, by decide +kernel, fun _ => ⟨xws0_of (i := 761) (by decide +kernel) rfl, xws0_of (i := 762) (by decide +kernel) rfl, xws0_of (i := 763) (by decide +kernel) rfl, by decide⟩, fun h => absurd h (by decide), fun h => absurd h (by decide), fun h => absurd h (by decide), fun h => absurd h (by decide)⟩
theorem xCt_ok_117 : xCok (((6, 45), (mX4_of, 2, 0))) := ⟨xMok_mX4_of, by decide +kernel, fun _ => ⟨xws0_of (i := 505) (by decide +kernel) rfl, xws0_of (i := 506) (by decide +kernel) rfl, xws0_of (i := 507) (by decide +kernel) rfl, by decide⟩, fun h => absurd h (by decide), fun h => absurd h (by decide), fun h => absurd h (by decide), fun h => absurd h (by decide)⟩
theorem xCt_ok_118 : xCok (((6, 48), (mX5_of, 2, 0))) := ⟨xMok_mX5_of, by decide +kernel, fun _ => ⟨xws0_of (i := 774) (by decide +kernel) rfl, xws0_of (i := 775) (by decide +kernel) rfl, xws0_of (i := 776) (by decide +kernel) rfl, by decide⟩, fun h => absurd h (by decide), fun h => absurd h (by decide), fun h => absurd h (by decide), fun h => absurd h (by decide)⟩
theorem xCt_ok_119 : xCok (((6, 49), (mX4_command, 3, 0))) := ⟨xMok_mX4_command, by decide +kernel, fun _ => ⟨xws0_of (i := 518) (by decide +kernel) rfl, xws0_of (i := 519) (by decide +kernel) rfl, xws0_of (i := 520) (by decide +kernel) rfl, by decide⟩, fun h => absurd h (by decide), fun h => absurd h (by decide), fun h => absurd h (by decide), fun h => absurd h (by decide)⟩
theorem xCt_ok_120 : xCok (((6, 52), (mX5_command, 3, 0))) := ⟨xMok_mX5_command, by decide +kernel, fun _ => ⟨xws0_of (i := 778) (by decide +kernel) rfl, xws0_of (i := 779) (by decide +kernel) rfl, xws0_of (i := 780) (by decide +kernel) rfl, by decide⟩, fun h => absurd h (by decide), fun h => absurd h (by decide), fun h => absurd h (by decide), fun h => absurd h (by decide)⟩
theorem xCt_ok_121 : xCok (((6, 53), (mX4_inbox, 2, 0))) := ⟨xMok_mX4_inbox, by decide +kernel, fun _ => ⟨xws0_of (i := 522) (by decide +kernel) rfl, xws0_of (i := 523) (by decide +kernel) rfl, xws0_of (i := 524) (by decide +kernel) rfl, by decide⟩, fun h => absurd h (by decide), fun h => absurd h (by decide), fun h => absurd h (by decide), fun h => absurd h (by decide)⟩
theorem xCt_ok_122 : xCok (((6, 56), (mX5_inbox, 2, 0))) := ⟨xMok_mX5_inbox, by decide +kernel, fun _ => ⟨xws0_of (i := 782) (by decide +kernel) rfl, xws0_of (i := 783) (by decide +kernel) rfl, xws0_of (i := 784) (by decide +kernel) rfl, by decide⟩, fun h => absurd h (by decide), fun h => absurd h (by decide), fun h => absurd h (by decide), fun h => absurd h (by decide)⟩
theorem xCt_ok_123 : xCok (((6, 57), (mX4_holder, 1, 0))) := ⟨xMok_mX4_holder, by decide +kernel, fun _ => ⟨xws0_of (i := 526) (by decide +kernel) rfl, xws0_of (i := 527) (by decide +kernel) rfl, xws0_of (i := 528) (by decide +kernel) rfl, by decide⟩, fun h => absurd h (by decide), fun h => absurd h (by decide), fun h => absurd h (by decide), fun h => absurd h (by decide)⟩
theorem xCt_ok_124 : xCok (((6, 60), (mX5_holder, 1, 0))) := ⟨xMok_mX5_holder, by decide +kernel, fun _ => ⟨xws0_of (i := 786) (by decide +kernel) rfl, xws0_of (i := 787) (by decide +kernel) rfl, xws0_of (i := 788) (by decide +kernel) rfl, by decide⟩, fun h => absurd h (by decide), fun h => absurd h (by decide), fun h => absurd h (by decide), fun h => absurd h (by decide)⟩
theorem xCt_ok_125 : xCok (((6, 61), (mX4_count, 1, 0))) := ⟨xMok_mX4_count, by decide +kernel, fun _ => ⟨xws0_of (i := 530) (by decide +kernel) rfl, xws0_of (i := 531) (by decide +kernel) rfl, xws0_of (i := 532) (by decide +kernel) rfl, by decide⟩, fun h => absurd h (by decide), fun h => absurd h (by decide), fun h => absurd h (by decide), fun h => absurd h (by decide)⟩
theorem xCt_ok_126 : xCok (((6, 64), (mX5_count, 1, 0))) := ⟨xMok_mX5_count, by decide +kernel, fun _ => ⟨xws0_of (i := 790) (by decide +kernel) rfl, xws0_of (i := 791) (by decide +kernel) rfl, xws0_of (i := 792) (by decide +kernel) rfl, by decide⟩, fun h => absurd h (by decide), fun h => absurd h (by decide), fun h => absurd h (by decide), fun h => absurd h (by decide)⟩
theorem xCt_ok_127 : xCok (((6, 65), (mX4_slotsLeft, 0, 0))) := ⟨xMok_mX4_slotsLeft, by decide +kernel, fun _ => ⟨xws0_of (i := 548) (by decide +kernel) rfl, xws0_of (i := 549) (by decide +kernel) rfl, xws0_of (i := 550) (by decide +kernel) rfl, by decide⟩, fun h => absurd h (by decide), fun h => absurd h (by decide), fun h => absurd h (by decide), fun h => absurd h (by decide)⟩
theorem xCt_ok_128 : xCok (((6, 68), (mX5_slotsLeft, 0, 0))) := ⟨xMok_mX5_slotsLeft, by decide +kernel, fun _ => ⟨xws0_of (i := 817) (by decide +kernel) rfl, xws0_of (i := 818) (by decide +kernel) rfl, xws0_of (i := 819) (by decide +kernel) rfl, by decide⟩, fun h => absurd h (by decide), fun h => absurd h (by decide), fun h => absurd h (by decide), fun h => absurd h (by decide)⟩
theorem xCt_ok_129 : xCok (((6, 69), (mX4_leftIf, 3, 0))) := ⟨xMok_mX4_leftIf, by decide +kernel, fun _ => ⟨xws0_of (i := 553) (by decide +kernel) rfl, xws0_of (i := 554) (by decide +kernel) rfl, xws0_of (i := 555) (by decide +kernel) rfl, by decide⟩, fun h => absurd h (by decide), fun h => absurd h (by decide), fun h => absurd h (by decide), fun h => absurd h (by decide)⟩
theorem xCt_ok_130 : xCok (((6, 72), (mX5_leftIf, 3, 0))) := ⟨xMok_mX5_leftIf, by decide +kernel, fun _ => ⟨xws0_of (i := 825) (by decide +kernel) rfl, xws0_of (i := 826) (by decide +kernel) rfl, xws0_of (i := 827) (by decide +kernel) rfl, by decide⟩, fun h => absurd h (by decide), fun h => absurd h (by decide), fun h => absurd h (by decide), fun h => absurd h (by decide)⟩
theorem xCt_ok_131 : xCok (((6, 73), (mX4_sumBehind, 2, 0))) := ⟨xMok_mX4_sumBehind, by decide +kernel, fun _ => ⟨xws0_of (i := 557) (by decide +kernel) rfl, xws0_of (i := 558) (by decide +kernel) rfl, xws0_of (i := 559) (by decide +kernel) rfl, by decide⟩, fun h => absurd h (by decide), fun h => absurd h (by decide), fun h => absurd h (by decide), fun h => absurd h (by decide)⟩
theorem xCt_ok_132 : xCok (((6, 76), (mX5_sumBehind, 2, 0))) := ⟨xMok_mX5_sumBehind, by decide +kernel, fun _ => ⟨xws0_of (i := 829) (by decide +kernel) rfl, xws0_of (i := 830) (by decide +kernel) rfl, xws0_of (i := 831) (by decide +kernel) rfl, by decide⟩, fun h => absurd h (by decide), fun h => absurd h (by decide), fun h => absurd h (by decide), fun h => absurd h (by decide)⟩
theorem xCt_ok_133 : xCok (((6, 79), (mX4_put, 1, 0))) := ⟨xMok_mX4_put, by decide +kernel, fun _ => ⟨xws0_of (i := 561) (by decide +kernel) rfl, xws0_of (i := 562) (by decide +kernel) rfl, xws0_of (i := 563) (by decide +kernel) rfl, by decide⟩, fun h => absurd h (by decide), fun h => absurd h (by decide), fun h => absurd h (by decide), fun h => absurd h (by decide)⟩
theorem xCt_ok_134 : xCok (((6, 83), (mX5_put, 1, 0))) := ⟨xMok_mX5_put, by decide +kernel, fun _ => ⟨xws0_of (i := 833) (by decide +kernel) rfl, xws0_of (i := 834) (by decide +kernel) rfl, xws0_of (i := 835) (by decide +kernel) rfl, by decide⟩, fun h => absurd h (by decide), fun h => absurd h (by decide), fun h => absurd h (by decide), fun h => absurd h (by decide)⟩
theorem xCt_ok_135 : xCok (((6, 84), (mX4_wipe, 0, 0))) := ⟨xMok_mX4_wipe, by decide +kernel, fun _ => ⟨xws0_of (i := 573) (by decide +kernel) rfl, xws0_of (i := 574) (by decide +kernel) rfl, xws0_of (i := 575) (by decide +kernel) rfl, by decide⟩, fun h => absurd h (by decide), fun h => absurd h (by decide), fun h => absurd h (by decide), fun h => absurd h (by decide)⟩
theorem xCt_ok_136 : xCok (((6, 87), (mX5_wipe, 0, 0))) := ⟨xMok_mX5_wipe, by decide +kernel, fun _ => ⟨xws0_of (i := 838) (by decide +kernel) rfl, xws0_of (i := 839) (by decide +kernel) rfl, xws0_of (i := 840) (by decide +kernel) rfl, by decide⟩, fun h => absurd h (by decide), fun h => absurd h (by decide), fun h => absurd h (by decide), fun h => absurd h (by decide)⟩
theorem xCt_ok_137 : xCok (((6, 88), (mX4_fault, 0, 0))) := ⟨xMok_mX4_fault, by decide +kernel, fun _ => ⟨xws0_of (i := 577) (by decide +kernel) rfl, xws0_of (i := 578) (by decide +kernel) rfl, xws0_of (i := 579) (by decide +kernel) rfl, by decide⟩, fun h => absurd h (by decide), fun h => absurd h (by decide), fun h => absurd h (by decide), fun h => absurd h (by decide)⟩
theorem xCt_ok_138 : xCok (((6, 91), (mX5_fault, 0, 0))) := ⟨xMok_mX5_fault, by decide +kernel, fun _ => ⟨xws0_of (i := 842) (by decide +kernel) rfl, xws0_of (i := 843) (by decide +kernel) rfl, xws0_of (i := 844) (by decide +kernel) rfl, by decide⟩, fun h => absurd h (by decide), fun h => absurd h (by decide), fun h => absurd h (by decide), fun h => absurd h (by decide)⟩
theorem xCt_ok_139 : xCok (((6, 92), (mX4_undo, 0, 0))) := ⟨xMok_mX4_undo, by decide +kernel, fun _ => ⟨xws0_of (i := 581) (by decide +kernel) rfl, xws0_of (i := 582) (by decide +kernel) rfl, xws0_of (i := 583) (by decide +kernel) rfl, by decide⟩, fun h => absurd h (by decide), fun h => absurd h (by decide), fun h => absurd h (by decide), fun h => absurd h (by decide)⟩
theorem xCt_ok_140 : xCok (((6, 95), (mX5_undo, 0, 0))) := ⟨xMok_mX5_undo, by decide +kernel, fun _ => ⟨xws0_of (i := 877) (by decide +kernel) rfl, xws0_of (i := 878) (by decide +kernel) rfl, xws0_of (i := 879) (by decide +kernel) rfl, by decide⟩, fun h => absurd h (by decide), fun h => absurd h (by decide), fun h => absurd h (by decide), fun h => absurd h (by decide)⟩
theorem xCt_ok_141 : xCok (((6, 96), (mX4_save, 1, 0))) := ⟨xMok_mX4_save, by decide +kernel, fun _ => ⟨xws0_of (i := 589) (by decide +kernel) rfl, xws0_of (i := 590) (by decide +kernel) rfl, xws0_of (i := 591) (by decide +kernel) rfl, by decide⟩, fun h => absurd h (by decide), fun h => absurd h (by decide), fun h => absurd h (by decide), fun h => absurd h (by decide)⟩
theorem xCt_ok_142 : xCok (((6, 99), (mX5_save, 1, 0))) := ⟨xMok_mX5_save, by decide +kernel, fun _ => ⟨xws0_of (i := 881) (by decide +kernel) rfl, xws0_of (i := 882) (by decide +kernel) rfl, xws0_of (i := 883) (by decide +kernel) rfl, by decide⟩, fun h => absurd h (by decide), fun h => absurd h (by decide), fun h => absurd h (by decide), fun h => absurd h (by decide)⟩
theorem xCt_ok_143 : xCok (((6, 100), (mX4_restore, 1, 0))) := ⟨xMok_mX4_restore, by decide +kernel, fun _ => ⟨xws0_of (i := 596) (by decide +kernel) rfl, xws0_of (i := 597) (by decide +kernel) rfl, xws0_of (i := 598) (by decide +kernel) rfl, by decide⟩, fun h => absurd h (by decide), fun h => absurd h (by decide), fun h => absurd h (by decide), fun h => absurd h (by decide)⟩
theorem xCt_ok_144 : xCok (((6, 103), (mX5_restore, 1, 0))) := ⟨xMok_mX5_restore, by decide +kernel, fun _ => ⟨xws0_of (i := 885) (by decide +kernel) rfl, xws0_of (i := 886) (by decide +kernel) rfl, xws0_of (i := 887) (by decide +kernel) rfl, by decide⟩, fun h => absurd h (by decide), fun h => absurd h (by decide), fun h => absurd h (by decide), fun h => absurd h (by decide)⟩
theorem xCt_ok_145 : xCok (((7, 335), (mJ0_coder_7d493, 0, 0))) := ⟨xMok_mJ0_coder_7d493, by decide +kernel, fun _ => ⟨xws0_of (i := 310) (by decide +kernel) rfl, xws0_of (i := 311) (by decide +kernel) rfl, xws0_of (i := 312) (by decide +kernel) rfl, by decide⟩, fun h => absurd h (by decide), fun h => absurd h (by decide), fun h => absurd h (by decide), fun h => absurd h (by decide)⟩
theorem xCt_ok_146 : xCok (((7, 492), (mJ0_isLatin1_aae02, 0, 0))) := ⟨xMok_mJ0_isLatin1_aae02, by decide +kernel, fun _ => ⟨xws0_of (i := 300) (by decide +kernel) rfl, xws0_of (i := 301) (by decide +kernel) rfl, xws0_of (i := 302) (by decide +kernel) rfl, by decide⟩, fun h => absurd h (by decide), fun h => absurd h (by decide), fun h => absurd h (by decide), fun h => absurd h (by decide)⟩
theorem xCt_ok_147 : xCok (((7, 505), (mJ0_length_8abf5, 0, 0))) := ⟨xMok_mJ0_length_8abf5, by decide +kernel, fun _ => ⟨xws0_of (i := 306) (by decide +kernel) rfl, xws0_of (i := 307) (by decide +kernel) rfl, xws0_of (i := 308) (by decide +kernel) rfl, by decide⟩, fun h => absurd h (by decide), fun h => absurd h (by decide), fun h => absurd h (by decide), fun h => absurd h (by decide)⟩
theorem xCt_ok_148 : xCok (((7, 633), (mJ0_indexOf_7cf53, 2, 0))) := ⟨xMok_mJ0_indexOf_7cf53, by decide +kernel, fun _ => ⟨xws0_of (i := 296) (by decide +kernel) rfl, xws0_of (i := 297) (by decide +kernel) rfl, xws0_of (i := 298) (by decide +kernel) rfl, by decide⟩, fun h => absurd h (by decide), fun h => absurd h (by decide), fun h => absurd h (by decide), fun h => absurd h (by decide)⟩
theorem xCt_ok_149 : xCok (((7, 637), (mJ1_indexOf_4cfef, 4, 1))) := ⟨xMok_mJ1_indexOf_4cfef, by decide +kernel, fun h => absurd h (by decide), fun _ => ⟨xws0_of (i := 314) (by decide +kernel) rfl, xws0_of (i := 315) (by decide +kernel) rfl⟩, fun h => absurd h (by decide), fun h => absurd h (by decide), fun h => absurd h (by decide)⟩
theorem xCt_ok_150 : xCok (((8, 88), (mJ1_canEncode_9a6ad, 1, 1))) := ⟨xMok_mJ1_canEncode_9a6ad, by decide +kernel, fun h => absurd h (by decide), fun _ => ⟨xws0_of (i := 317) (by decide +kernel) rfl, xws0_of (i := 318) (by decide +kernel) rfl⟩, fun h => absurd h (by decide), fun h => absurd h (by decide), fun h => absurd h (by decide)⟩
theorem xCt_ok_151 : xCok (((8, 95), (mJ1_indexOfChar_4cfef, 4, 1))) := ⟨xMok_mJ1_indexOfChar_4cfef, by decide +kernel, fun h => absurd h (by decide), fun _ => ⟨xws0_of (i := 326) (by decide +kernel) rfl, xws0_of (i := 327) (by decide +kernel) rfl⟩, fun h => absurd h (by decide), fun h => absurd h (by decide), fun h => absurd h (by decide)⟩
set_option maxRecDepth 4000 in
theorem xCt_ok : ∀ e ∈ xCt, xCok e := List.forall_mem_cons.mpr ⟨xCt_ok_0, List.forall_mem_cons.mpr ⟨xCt_ok_1, List.forall_mem_cons.mpr ⟨xCt_ok_2, List.forall_mem_cons.mpr ⟨xCt_ok_3, List.forall_mem_cons.mpr ⟨xCt_ok_4, List.forall_mem_cons.mpr ⟨xCt_ok_5, List.forall_mem_cons.mpr ⟨xCt_ok_6, List.forall_mem_cons.mpr ⟨xCt_ok_7, List.forall_mem_cons.mpr ⟨xCt_ok_8, List.forall_mem_cons.mpr ⟨xCt_ok_9, List.forall_mem_cons.mpr ⟨xCt_ok_10, List.forall_mem_cons.mpr ⟨xCt_ok_11, List.forall_mem_cons.mpr ⟨xCt_ok_12, List.forall_mem_cons.mpr ⟨xCt_ok_13, List.forall_mem_cons.mpr ⟨xCt_ok_14, List.forall_mem_cons.mpr ⟨xCt_ok_15, List.forall_mem_cons.mpr ⟨xCt_ok_16, List.forall_mem_cons.mpr ⟨xCt_ok_17, List.forall_mem_cons.mpr ⟨xCt_ok_18, List.forall_mem_cons.mpr ⟨xCt_ok_19, List.forall_mem_cons.mpr ⟨xCt_ok_20, List.forall_mem_cons.mpr ⟨xCt_ok_21, List.forall_mem_cons.mpr ⟨xCt_ok_22, List.forall_mem_cons.mpr ⟨xCt_ok_23, List.forall_mem_cons.mpr ⟨xCt_ok_24, List.forall_mem_cons.mpr ⟨xCt_ok_25, List.forall_mem_cons.mpr ⟨xCt_ok_26, List.forall_mem_cons.mpr ⟨xCt_ok_27, List.forall_mem_cons.mpr ⟨xCt_ok_28, List.forall_mem_cons.mpr ⟨xCt_ok_29, List.forall_mem_cons.mpr ⟨xCt_ok_30, List.forall_mem_cons.mpr ⟨xCt_ok_31, List.forall_mem_cons.mpr ⟨xCt_ok_32, List.forall_mem_cons.mpr ⟨xCt_ok_33, List.forall_mem_cons.mpr ⟨xCt_ok_34, List.forall_mem_cons.mpr ⟨xCt_ok_35, List.forall_mem_cons.mpr ⟨xCt_ok_36, List.forall_mem_cons.mpr ⟨xCt_ok_37, List.forall_mem_cons.mpr ⟨xCt_ok_38, List.forall_mem_cons.mpr ⟨xCt_ok_39, List.forall_mem_cons.mpr ⟨xCt_ok_40, List.forall_mem_cons.mpr ⟨xCt_ok_41, List.forall_mem_cons.mpr ⟨xCt_ok_42, List.forall_mem_cons.mpr ⟨xCt_ok_43, List.forall_mem_cons.mpr ⟨xCt_ok_44, List.forall_mem_cons.mpr ⟨xCt_ok_45, List.forall_mem_cons.mpr ⟨xCt_ok_46, List.forall_mem_cons.mpr ⟨xCt_ok_47, List.forall_mem_cons.mpr ⟨xCt_ok_48, List.forall_mem_cons.mpr ⟨xCt_ok_49, List.forall_mem_cons.mpr ⟨xCt_ok_50, List.forall_mem_cons.mpr ⟨xCt_ok_51, List.forall_mem_cons.mpr ⟨xCt_ok_52, List.forall_mem_cons.mpr ⟨xCt_ok_53, List.forall_mem_cons.mpr ⟨xCt_ok_54, List.forall_mem_cons.mpr ⟨xCt_ok_55, List.forall_mem_cons.mpr ⟨xCt_ok_56, List.forall_mem_cons.mpr ⟨xCt_ok_57, List.forall_mem_cons.mpr ⟨xCt_ok_58, List.forall_mem_cons.mpr ⟨xCt_ok_59, List.forall_mem_cons.mpr ⟨xCt_ok_60, List.forall_mem_cons.mpr ⟨xCt_ok_61, List.forall_mem_cons.mpr ⟨xCt_ok_62, List.forall_mem_cons.mpr ⟨xCt_ok_63, List.forall_mem_cons.mpr ⟨xCt_ok_64, List.forall_mem_cons.mpr ⟨xCt_ok_65, List.forall_mem_cons.mpr ⟨xCt_ok_66, List.forall_mem_cons.mpr ⟨xCt_ok_67, List.forall_mem_cons.mpr ⟨xCt_ok_68, List.forall_mem_cons.mpr ⟨xCt_ok_69, List.forall_mem_cons.mpr ⟨xCt_ok_70, List.forall_mem_cons.mpr ⟨xCt_ok_71, List.forall_mem_cons.mpr ⟨xCt_ok_72, List.forall_mem_cons.mpr ⟨xCt_ok_73, List.forall_mem_cons.mpr ⟨xCt_ok_74, List.forall_mem_cons.mpr ⟨xCt_ok_75, List.forall_mem_cons.mpr ⟨xCt_ok_76, List.forall_mem_cons.mpr ⟨xCt_ok_77, List.forall_mem_cons.mpr ⟨xCt_ok_78, List.forall_mem_cons.mpr ⟨xCt_ok_79, List.forall_mem_cons.mpr ⟨xCt_ok_80, List.forall_mem_cons.mpr ⟨xCt_ok_81, List.forall_mem_cons.mpr ⟨xCt_ok_82, List.forall_mem_cons.mpr ⟨xCt_ok_83, List.forall_mem_cons.mpr ⟨xCt_ok_84, List.forall_mem_cons.mpr ⟨xCt_ok_85, List.forall_mem_cons.mpr ⟨xCt_ok_86, List.forall_mem_cons.mpr ⟨xCt_ok_87, List.forall_mem_cons.mpr ⟨xCt_ok_88, List.forall_mem_cons.mpr ⟨xCt_ok_89, List.forall_mem_cons.mpr ⟨xCt_ok_90, List.forall_mem_cons.mpr ⟨xCt_ok_91, List.forall_mem_cons.mpr ⟨xCt_ok_92, List.forall_mem_cons.mpr ⟨xCt_ok_93, List.forall_mem_cons.mpr ⟨xCt_ok_94, List.forall_mem_cons.mpr ⟨xCt_ok_95, List.forall_mem_cons.mpr ⟨xCt_ok_96, List.forall_mem_cons.mpr ⟨xCt_ok_97, List.forall_mem_cons.mpr ⟨xCt_ok_98, List.forall_mem_cons.mpr ⟨xCt_ok_99, List.forall_mem_cons.mpr ⟨xCt_ok_100, List.forall_mem_cons.mpr ⟨xCt_ok_101, List.forall_mem_cons.mpr ⟨xCt_ok_102, List.forall_mem_cons.mpr ⟨xCt_ok_103, List.forall_mem_cons.mpr ⟨xCt_ok_104, List.forall_mem_cons.mpr ⟨xCt_ok_105, List.forall_mem_cons.mpr ⟨xCt_ok_106, List.forall_mem_cons.mpr ⟨xCt_ok_107, List.forall_mem_cons.mpr ⟨xCt_ok_108, List.forall_mem_cons.mpr ⟨xCt_ok_109, List.forall_mem_cons.mpr ⟨xCt_ok_110, List.forall_mem_cons.mpr ⟨xCt_ok_111, List.forall_mem_cons.mpr ⟨xCt_ok_112, List.forall_mem_cons.mpr ⟨xCt_ok_113, List.forall_mem_cons.mpr ⟨xCt_ok_114, List.forall_mem_cons.mpr ⟨xCt_ok_115, List.forall_mem_cons.mpr ⟨xCt_ok_116, List.forall_mem_cons.mpr ⟨xCt_ok_117, List.forall_mem_cons.mpr ⟨xCt_ok_118, List.forall_mem_cons.mpr ⟨xCt_ok_119, List.forall_mem_cons.mpr ⟨xCt_ok_120, List.forall_mem_cons.mpr ⟨xCt_ok_121, List.forall_mem_cons.mpr ⟨xCt_ok_122, List.forall_mem_cons.mpr ⟨xCt_ok_123, List.forall_mem_cons.mpr ⟨xCt_ok_124, List.forall_mem_cons.mpr ⟨xCt_ok_125, List.forall_mem_cons.mpr ⟨xCt_ok_126, List.forall_mem_cons.mpr ⟨xCt_ok_127, List.forall_mem_cons.mpr ⟨xCt_ok_128, List.forall_mem_cons.mpr ⟨xCt_ok_129, List.forall_mem_cons.mpr ⟨xCt_ok_130, List.forall_mem_cons.mpr ⟨xCt_ok_131, List.forall_mem_cons.mpr ⟨xCt_ok_132, List.forall_mem_cons.mpr ⟨xCt_ok_133, List.forall_mem_cons.mpr ⟨xCt_ok_134, List.forall_mem_cons.mpr ⟨xCt_ok_135, List.forall_mem_cons.mpr ⟨xCt_ok_136, List.forall_mem_cons.mpr ⟨xCt_ok_137, List.forall_mem_cons.mpr ⟨xCt_ok_138, List.forall_mem_cons.mpr ⟨xCt_ok_139, List.forall_mem_cons.mpr ⟨xCt_ok_140, List.forall_mem_cons.mpr ⟨xCt_ok_141, List.forall_mem_cons.mpr ⟨xCt_ok_142, List.forall_mem_cons.mpr ⟨xCt_ok_143, List.forall_mem_cons.mpr ⟨xCt_ok_144, List.forall_mem_cons.mpr ⟨xCt_ok_145, List.forall_mem_cons.mpr ⟨xCt_ok_146, List.forall_mem_cons.mpr ⟨xCt_ok_147, List.forall_mem_cons.mpr ⟨xCt_ok_148, List.forall_mem_cons.mpr ⟨xCt_ok_149, List.forall_mem_cons.mpr ⟨xCt_ok_150, List.forall_mem_cons.mpr ⟨xCt_ok_151, fun _ h => absurd h List.not_mem_nil⟩⟩⟩⟩⟩⟩⟩⟩⟩⟩⟩⟩⟩⟩⟩⟩⟩⟩⟩⟩⟩⟩⟩⟩⟩⟩⟩⟩⟩⟩⟩⟩⟩⟩⟩⟩⟩⟩⟩⟩⟩⟩⟩⟩⟩⟩⟩⟩⟩⟩⟩⟩⟩⟩⟩⟩⟩⟩⟩⟩⟩⟩⟩⟩⟩⟩⟩⟩⟩⟩⟩⟩⟩⟩⟩⟩⟩⟩⟩⟩⟩⟩⟩⟩⟩⟩⟩⟩⟩⟩⟩⟩⟩⟩⟩⟩⟩⟩⟩⟩⟩⟩⟩⟩⟩⟩⟩⟩⟩⟩⟩⟩⟩⟩⟩⟩⟩⟩⟩⟩⟩⟩⟩⟩⟩⟩⟩⟩⟩⟩⟩⟩⟩⟩⟩⟩⟩⟩⟩⟩⟩⟩⟩⟩⟩⟩⟩⟩⟩⟩⟩⟩
