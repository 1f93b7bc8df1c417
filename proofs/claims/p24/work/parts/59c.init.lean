/-! ===== the class constructed, in three steps ===== -/
section INK
variable {E : Nat × Nat × Nat} {S : xSh} {V V' W : xV} {Q : Option Value → xSh → xV → Prop} {t b x : Nat}
theorem kd_o {S' : xSh} {a : Nat} (h : S'.1 a = S.1 a) : xkd S' a = xkd S a ∧ xln S' a = xln S a ∧ ∀ j, xrf S' a j = xrf S a j := by
  unfold xkd xln xrf; rw [h]; exact ⟨rfl, rfl, fun _ => rfl⟩
theorem i_X4a (hk : xkd S x = 5) (hT : S.2.1 = x + 1) : ∃ S' V', (kShape S' (x + 1) ∧ kShape S' (x + 45) ∧ (xkd S' (x + 89) = 2 ∧ xrf S' (x + 89) 0 = some (x + 90) ∧ xkd S' (x + 90) = 11 ∧ xln S' (x + 90) = 6) ∧ (∀ i, i < 6 → xrf S' (x + 90) i = some (x + (91 + 44 * i)) ∧ kShape S' (x + (91 + 44 * i)))) ∧ (xkd S' x = 5 ∧ xrf S' x 0 = some (x + 1) ∧ xrf S' x 1 = some (x + 45) ∧ xrf S' x 2 = some (x + 89)) ∧ S'.2.1 = x + 355 ∧ S'.2.2 = S.2.2 + 3481 ∧ (∀ a, a < x ∨ x + 355 ≤ a → S'.1 a = S.1 a ∧ V' a = V a) ∧ (∀ a, x + 1 ≤ a → a < x + 45 → ¬ a = x + 3 → V' a = fun _ => 0) ∧ (∀ k, k < 4 → V' (x + 3) k = -6) ∧ V' (x + 89) = (fun _ => 0) ∧ ∀ Q : Option Value → xSh → xV → Prop, xC E mX4_init [.ref x] S V Q ↔ xX E mX4_init 37 [some (.ref x), none] [] S' V' Q := by
  obtain ⟨SA, VA, A1, A2, A3, A4, A5, A6, A7⟩ := i_new2 (E := E) (V := V) hT
  have kA : xkd SA x = 5 := by rw [(kd_o (A4 x (by omega)).1).1]; exact hk
  obtain ⟨Sa, hSa⟩ : ∃ Sa, Sa = xsetr SA x 0 (some (x + 1)) := ⟨_, rfl⟩
  have sa : ∀ a, ¬ a = x → Sa.1 a = SA.1 a := fun a h => by rw [hSa]; exact xsetr_1 h
  have ka : xkd Sa x = 5 := by rw [hSa, xsetr_kd]; exact kA
  have ra0 : xrf Sa x 0 = some (x + 1) := by rw [hSa, xsetr_rf, if_pos ⟨rfl, rfl⟩]
  have Ta : Sa.2.1 = x + 45 := by rw [hSa, xsetr_T, A2]
  have Za : Sa.2.2 = S.2.2 + 434 := by rw [hSa, xsetr_Z, A3]
  obtain ⟨SB, VB, B1, B2, B3, B4, B5, B6, B7⟩ := i_new2 (E := E) (V := VA) Ta
  have kB : xkd SB x = 5 := by rw [(kd_o (B4 x (by omega)).1).1]; exact ka
  obtain ⟨Sb, hSb⟩ : ∃ Sb, Sb = xsetr SB x 1 (some (x + 45)) := ⟨_, rfl⟩
  have sb : ∀ a, ¬ a = x → Sb.1 a = SB.1 a := fun a h => by rw [hSb]; exact xsetr_1 h
  have kb : xkd Sb x = 5 := by rw [hSb, xsetr_kd]; exact kB
  have rb0 : xrf Sb x 0 = some (x + 1) := by rw [hSb, xsetr_rf, if_neg (by omega), (kd_o (B4 x (by omega)).1).2.2]; exact ra0
  have rb1 : xrf Sb x 1 = some (x + 45) := by rw [hSb, xsetr_rf, if_pos ⟨rfl, rfl⟩]
  have Tb : Sb.2.1 = x + 89 := by rw [hSb, xsetr_T, B2]
  have Zb : Sb.2.2 = S.2.2 + 868 := by rw [hSb, xsetr_Z, B3, Za]
  have n1 : xkd (xnew Sb 2 0 3) (x + 89) = 2 := by rw [xnew_kd, Tb, if_pos rfl]
  have n2 : (xnew Sb 2 0 3).2.1 = x + 89 + 1 := by rw [xnew_T, Tb]
  obtain ⟨SC, VC, C1, C2, C3, C4, C5, C6, C7⟩ := i_X1 (E := E) (S := xnew Sb 2 0 3) (V := xrow VB (x + 89) (fun _ => 0)) n1 n2 xrow_eq
  have oC : ∀ a, a < x + 89 ∨ x + 355 ≤ a → SC.1 a = Sb.1 a ∧ VC a = VB a := fun a ha => by
    obtain ⟨q1, q2⟩ := C5 a (by omega)
    exact ⟨q1.trans (xnew_1 (by omega)), q2.trans (xrow_ne (by omega))⟩
  have kC : xkd SC x = 5 := by rw [(kd_o (oC x (by omega)).1).1]; exact kb
  obtain ⟨Sc, hSc⟩ : ∃ Sc, Sc = xsetr SC x 2 (some (x + 89)) := ⟨_, rfl⟩
  have sc : ∀ a, ¬ a = x → Sc.1 a = SC.1 a := fun a h => by rw [hSc]; exact xsetr_1 h
  have kc : xkd Sc x = 5 := by rw [hSc, xsetr_kd]; exact kC
  have rc : ∀ j, ¬ j = 2 → xrf Sc x j = xrf Sb x j := fun j hj => by rw [hSc, xsetr_rf, if_neg (by omega), (kd_o (oC x (by omega)).1).2.2]
  have rc2 : xrf Sc x 2 = some (x + 89) := by rw [hSc, xsetr_rf, if_pos ⟨rfl, rfl⟩]
  have Tc : Sc.2.1 = x + 355 := by rw [hSc, xsetr_T, C3]
  have Zc : Sc.2.2 = S.2.2 + 3481 := by rw [hSc, xsetr_Z, C4, xnew_Z, Zb]
  refine ⟨Sc, VC, ⟨?_, ?_, ?_, ?_⟩, ⟨kc, by rw [rc 0 (by decide)]; exact rb0, by rw [rc 1 (by decide)]; exact rb1, rc2⟩, Tc, Zc, fun a ha => ?_, fun a h1 h2 h3 => ?_, fun k hk2 => ?_, C6, fun Q => ?_⟩
  · exact kShape_o A1 (fun a h1 h2 => by rw [sc a (by omega), (oC a (by omega)).1, sb a (by omega), (B4 a (by omega)).1, sa a (by omega)])
  · exact kShape_o B1 (fun a h1 h2 => by rw [sc a (by omega), (oC a (by omega)).1, sb a (by omega)])
  · have e1 := kd_o (sc (x + 89) (by omega))
    have e2 := kd_o (sc (x + 90) (by omega))
    exact ⟨by rw [e1.1]; exact C1.1, by rw [e1.2.2]; exact C1.2.1, by rw [e2.1]; exact C1.2.2.1, by rw [e2.2.1]; exact C1.2.2.2⟩
  · intro i hi
    obtain ⟨q1, q2⟩ := C2 i hi
    have e : x + 89 + (2 + 44 * i) = x + (91 + 44 * i) := by omega
    rw [e] at q1 q2
    have e2 := kd_o (sc (x + 90) (by omega))
    exact ⟨by rw [e2.2.2]; exact q1, kShape_o q2 (fun a h1 h2 => sc a (by omega))⟩
  · refine ⟨?_, ?_⟩
    · rw [sc a (by omega), (oC a (by omega)).1, sb a (by omega), (B4 a (by omega)).1, sa a (by omega), (A4 a (by omega)).1]
    · rw [(oC a (by omega)).2, (B4 a (by omega)).2, (A4 a (by omega)).2]
  · rw [(oC a (by omega)).2, (B4 a (by omega)).2]; exact A5 a h1 h2 h3
  · rw [(oC (x + 3) (by omega)).2, (B4 (x + 3) (by omega)).2]; exact A6 k hk2
  · show xX E mX4_init 0 [some (.ref x), none] [] S V Q ↔ _
    clear C1 C2 A1 B1 A5 B5 A6 B6 oC sa sb sc rc A4 B4 C5
    simp (disch := (first | assumption | exact xnl_i _ | exact xnl_r _ | exact xnl_n | exact Bool.toNat_lt _ | exact hb _ | exact hb2 _ | omega | exact Nat.le_of_ble_eq_true rfl | rfl | decide)) only [pX4_init_0, pX4_init_1, pX4_init_4, pX4_init_5, pX4_init_8, pX4_init_8i, pX4_init_9, nI_add, pk_mul, xn_sub, xn_and, xn_or, xn_xor, xn_shl, xn_shr, xn_lt, xn_le, xn_eq, xrf_some, xup_eq, xup_ne, xrow_eq, xrow_ne, Option.toList_some, Option.toList_none, List.singleton_append, List.nil_append, List.cons_append, xnl_n, xnl_i, xnl_r, Nat.zero_add, Nat.add_zero, ↓reduceIte, Nat.reduceEqDiff, Nat.reduceLeDiff, Nat.reduceAdd, Nat.reduceMul, Nat.reduceLT, Nat.one_ne_zero, eq_self, not_true_eq_false, not_false_eq_true, and_self, hT, A7]
    simp (disch := (first | assumption | exact xnl_i _ | exact xnl_r _ | exact xnl_n | exact Bool.toNat_lt _ | exact hb _ | exact hb2 _ | omega | exact Nat.le_of_ble_eq_true rfl | rfl | decide)) only [pX4_init_12, nI_add, pk_mul, xn_sub, xn_and, xn_or, xn_xor, xn_shl, xn_shr, xn_lt, xn_le, xn_eq, xrf_some, xup_eq, xup_ne, xrow_eq, xrow_ne, Option.toList_some, Option.toList_none, List.singleton_append, List.nil_append, List.cons_append, xnl_n, xnl_i, xnl_r, Nat.zero_add, Nat.add_zero, ↓reduceIte, Nat.reduceEqDiff, Nat.reduceLeDiff, Nat.reduceAdd, Nat.reduceMul, Nat.reduceLT, Nat.one_ne_zero, eq_self, not_true_eq_false, not_false_eq_true, and_self]
    rw [← hSa]
    simp (disch := (first | assumption | exact xnl_i _ | exact xnl_r _ | exact xnl_n | exact Bool.toNat_lt _ | exact hb _ | exact hb2 _ | omega | exact Nat.le_of_ble_eq_true rfl | rfl | decide)) only [pX4_init_15, pX4_init_16, pX4_init_19, pX4_init_19i, pX4_init_20, nI_add, pk_mul, xn_sub, xn_and, xn_or, xn_xor, xn_shl, xn_shr, xn_lt, xn_le, xn_eq, xrf_some, xup_eq, xup_ne, xrow_eq, xrow_ne, Option.toList_some, Option.toList_none, List.singleton_append, List.nil_append, List.cons_append, xnl_n, xnl_i, xnl_r, Nat.zero_add, Nat.add_zero, ↓reduceIte, Nat.reduceEqDiff, Nat.reduceLeDiff, Nat.reduceAdd, Nat.reduceMul, Nat.reduceLT, Nat.one_ne_zero, eq_self, not_true_eq_false, not_false_eq_true, and_self, Ta, B7]
    simp (disch := (first | assumption | exact xnl_i _ | exact xnl_r _ | exact xnl_n | exact Bool.toNat_lt _ | exact hb _ | exact hb2 _ | omega | exact Nat.le_of_ble_eq_true rfl | rfl | decide)) only [pX4_init_23, nI_add, pk_mul, xn_sub, xn_and, xn_or, xn_xor, xn_shl, xn_shr, xn_lt, xn_le, xn_eq, xrf_some, xup_eq, xup_ne, xrow_eq, xrow_ne, Option.toList_some, Option.toList_none, List.singleton_append, List.nil_append, List.cons_append, xnl_n, xnl_i, xnl_r, Nat.zero_add, Nat.add_zero, ↓reduceIte, Nat.reduceEqDiff, Nat.reduceLeDiff, Nat.reduceAdd, Nat.reduceMul, Nat.reduceLT, Nat.one_ne_zero, eq_self, not_true_eq_false, not_false_eq_true, and_self]
    rw [← hSb]
    simp (disch := (first | assumption | exact xnl_i _ | exact xnl_r _ | exact xnl_n | exact Bool.toNat_lt _ | exact hb _ | exact hb2 _ | omega | exact Nat.le_of_ble_eq_true rfl | rfl | decide)) only [pX4_init_26, pX4_init_27, pX4_init_30, pX4_init_30i, pX4_init_31, nI_add, pk_mul, xn_sub, xn_and, xn_or, xn_xor, xn_shl, xn_shr, xn_lt, xn_le, xn_eq, xrf_some, xup_eq, xup_ne, xrow_eq, xrow_ne, Option.toList_some, Option.toList_none, List.singleton_append, List.nil_append, List.cons_append, xnl_n, xnl_i, xnl_r, Nat.zero_add, Nat.add_zero, ↓reduceIte, Nat.reduceEqDiff, Nat.reduceLeDiff, Nat.reduceAdd, Nat.reduceMul, Nat.reduceLT, Nat.one_ne_zero, eq_self, not_true_eq_false, not_false_eq_true, and_self, Tb, C7]
    simp (disch := (first | assumption | exact xnl_i _ | exact xnl_r _ | exact xnl_n | exact Bool.toNat_lt _ | exact hb _ | exact hb2 _ | omega | exact Nat.le_of_ble_eq_true rfl | rfl | decide)) only [pX4_init_34, nI_add, pk_mul, xn_sub, xn_and, xn_or, xn_xor, xn_shl, xn_shr, xn_lt, xn_le, xn_eq, xrf_some, xup_eq, xup_ne, xrow_eq, xrow_ne, Option.toList_some, Option.toList_none, List.singleton_append, List.nil_append, List.cons_append, xnl_n, xnl_i, xnl_r, Nat.zero_add, Nat.add_zero, ↓reduceIte, Nat.reduceEqDiff, Nat.reduceLeDiff, Nat.reduceAdd, Nat.reduceMul, Nat.reduceLT, Nat.one_ne_zero, eq_self, not_true_eq_false, not_false_eq_true, and_self]
    rw [← hSc]
theorem i_X4b (hk : xkd S x = 5) (hT : S.2.1 = x + 355) : ∃ S' V', (xkd S' (x + 355) = 11 ∧ xln S' (x + 355) = 2 ∧ xkd S' (x + 356) = 9 ∧ xln S' (x + 356) = 2 ∧ (xkd S' (x + 357) = 4 ∧ xrf S' (x + 357) 0 = some (x + 358) ∧ xrf S' (x + 357) 2 = some (x + 359) ∧ xrf S' (x + 357) 3 = some (x + 360) ∧ xkd S' (x + 358) = 8 ∧ xln S' (x + 358) = 72 ∧ xkd S' (x + 359) = 7 ∧ xln S' (x + 359) = 16 ∧ xkd S' (x + 360) = 7 ∧ xln S' (x + 360) = 16)) ∧ (xkd S' x = 5 ∧ (∀ j, j < 3 → xrf S' x j = xrf S x j) ∧ xrf S' x 3 = some (x + 355) ∧ xrf S' x 4 = some (x + 356) ∧ xrf S' x 5 = some (x + 357)) ∧ S'.2.1 = x + 361 ∧ S'.2.2 = S.2.2 + 115 ∧ (∀ a, (a < x + 355 ∨ x + 361 ≤ a) → (¬ a = x → S'.1 a = S.1 a) ∧ V' a = V a) ∧ V' (x + 356) = (fun _ => 0) ∧ V' (x + 357) = (fun _ => 0) ∧ ∀ Q : Option Value → xSh → xV → Prop, xX E mX4_init 37 [some (.ref x), none] [] S V Q ↔ xX E mX4_init 63 [some (.ref x), none] [] S' V' Q := by
  obtain ⟨Sd, hSd⟩ : ∃ Sd, Sd = xsetr (xnew S 11 2 2) x 3 (some (x + 355)) := ⟨_, rfl⟩
  obtain ⟨Se, hSe⟩ : ∃ Se, Se = xsetr (xnew Sd 9 2 2) x 4 (some (x + 356)) := ⟨_, rfl⟩
  obtain ⟨VE, hVE⟩ : ∃ VE, VE = xrow (xrow V (x + 355) (fun _ => 0)) (x + 356) (fun _ => 0) := ⟨_, rfl⟩
  have kd1 : xkd (xnew S 11 2 2) x = 5 := by rw [xnew_kd, hT, if_neg (by omega)]; exact hk
  have Td : Sd.2.1 = x + 356 := by rw [hSd, xsetr_T, xnew_T, hT]
  have kdd : xkd Sd x = 5 := by rw [hSd, xsetr_kd]; exact kd1
  have kd2 : xkd (xnew Sd 9 2 2) x = 5 := by rw [xnew_kd, Td, if_neg (by omega)]; exact kdd
  have Te : Se.2.1 = x + 357 := by rw [hSe, xsetr_T, xnew_T, Td]
  have Ze : Se.2.2 = S.2.2 + 4 := by rw [hSe, xsetr_Z, xnew_Z, hSd, xsetr_Z, xnew_Z]
  have ke : xkd Se x = 5 := by rw [hSe, xsetr_kd]; exact kd2
  have se : ∀ a, ¬ a = x → ¬ a = x + 355 → ¬ a = x + 356 → Se.1 a = S.1 a := fun a h1 h2 h3 => by
    rw [hSe, xsetr_1 h1, xnew_1 (by rw [Td]; exact h3), hSd, xsetr_1 h1, xnew_1 (by rw [hT]; exact h2)]
  have re : ∀ j, j < 3 → xrf Se x j = xrf S x j := fun j h3 => by
    rw [hSe, xsetr_rf, if_neg (by omega), xnew_rf, Td, if_neg (by omega), hSd, xsetr_rf, if_neg (by omega), xnew_rf, hT, if_neg (by omega)]
  have re3 : xrf Se x 3 = some (x + 355) := by
    rw [hSe, xsetr_rf, if_neg (by omega), xnew_rf, Td, if_neg (by omega), hSd, xsetr_rf, if_pos ⟨rfl, rfl⟩]
  have re4 : xrf Se x 4 = some (x + 356) := by rw [hSe, xsetr_rf, if_pos ⟨rfl, rfl⟩]
  have e355 : xkd Se (x + 355) = 11 ∧ xln Se (x + 355) = 2 := by
    rw [hSe, xsetr_kd, xsetr_ln, xnew_kd, xnew_ln, Td, if_neg (by omega), if_neg (by omega), hSd, xsetr_kd, xsetr_ln, xnew_kd, xnew_ln, hT, if_pos rfl, if_pos rfl]; exact ⟨rfl, rfl⟩
  have e356 : xkd Se (x + 356) = 9 ∧ xln Se (x + 356) = 2 := by
    rw [hSe, xsetr_kd, xsetr_ln, xnew_kd, xnew_ln, Td, if_pos rfl, if_pos rfl]; exact ⟨rfl, rfl⟩
  have p1 : xkd (xnew Se 4 0 7) (x + 357) = 4 := by rw [xnew_kd, Te, if_pos rfl]
  have p2 : (xnew Se 4 0 7).2.1 = x + 357 + 1 := by rw [xnew_T, Te]
  obtain ⟨SF, VF, F1, F2, F3, F4, F5, F6⟩ := i_X3 (E := E) (S := xnew Se 4 0 7) (V := xrow VE (x + 357) (fun _ => 0)) p1 p2 xrow_eq
  have oF : ∀ a, a < x + 357 ∨ x + 361 ≤ a → SF.1 a = Se.1 a ∧ VF a = VE a := fun a ha => by
    obtain ⟨q1, q2⟩ := F4 a (by omega)
    exact ⟨q1.trans (xnew_1 (by omega)), q2.trans (xrow_ne (by omega))⟩
  have kF : xkd SF x = 5 := by rw [(kd_o (oF x (by omega)).1).1]; exact ke
  obtain ⟨Sf, hSf⟩ : ∃ Sf, Sf = xsetr SF x 5 (some (x + 357)) := ⟨_, rfl⟩
  have sf : ∀ a, ¬ a = x → Sf.1 a = SF.1 a := fun a h => by rw [hSf]; exact xsetr_1 h
  have kf : xkd Sf x = 5 := by rw [hSf, xsetr_kd]; exact kF
  have rf : ∀ j, ¬ j = 5 → xrf Sf x j = xrf Se x j := fun j hj => by rw [hSf, xsetr_rf, if_neg (by omega), (kd_o (oF x (by omega)).1).2.2]
  have rf5 : xrf Sf x 5 = some (x + 357) := by rw [hSf, xsetr_rf, if_pos ⟨rfl, rfl⟩]
  refine ⟨Sf, VF, ⟨?_, ?_, ?_, ?_, ?_⟩, ⟨kf, fun j hj => by rw [rf j (by omega)]; exact re j hj, by rw [rf 3 (by decide)]; exact re3, by rw [rf 4 (by decide)]; exact re4, rf5⟩, by rw [hSf, xsetr_T, F2], by rw [hSf, xsetr_Z, F3, xnew_Z, Ze], fun a ha => ⟨fun hax => ?_, ?_⟩, ?_, F5 _ (by omega) (by omega), fun Q => ?_⟩
  · rw [(kd_o (sf (x + 355) (by omega))).1, (kd_o (oF (x + 355) (by omega)).1).1]; exact e355.1
  · rw [(kd_o (sf (x + 355) (by omega))).2.1, (kd_o (oF (x + 355) (by omega)).1).2.1]; exact e355.2
  · rw [(kd_o (sf (x + 356) (by omega))).1, (kd_o (oF (x + 356) (by omega)).1).1]; exact e356.1
  · rw [(kd_o (sf (x + 356) (by omega))).2.1, (kd_o (oF (x + 356) (by omega)).1).2.1]; exact e356.2
  · have q0 := kd_o (sf (x + 357) (by omega))
    have q1 := kd_o (sf (x + 358) (by omega))
    have q2 := kd_o (sf (x + 359) (by omega))
    have q3 := kd_o (sf (x + 360) (by omega))
    obtain ⟨f1, f2, f3, f4, f5, f6, f7, f8, f9, f10⟩ := F1
    exact ⟨by rw [q0.1]; exact f1, by rw [q0.2.2]; exact f2, by rw [q0.2.2]; exact f3, by rw [q0.2.2]; exact f4, by rw [q1.1]; exact f5, by rw [q1.2.1]; exact f6, by rw [q2.1]; exact f7, by rw [q2.2.1]; exact f8, by rw [q3.1]; exact f9, by rw [q3.2.1]; exact f10⟩
  · rw [sf a hax, (oF a (by omega)).1, se a hax (by omega) (by omega)]
  · rw [(oF a (by omega)).2, hVE, xrow_ne (by omega), xrow_ne (by omega)]
  · rw [(oF (x + 356) (by omega)).2, hVE, xrow_eq]
  · clear F1 F4 F5 oF sf rf re se e355 e356
    simp (disch := (first | assumption | exact xnl_i _ | exact xnl_r _ | exact xnl_n | exact Bool.toNat_lt _ | exact hb _ | exact hb2 _ | omega | exact Nat.le_of_ble_eq_true rfl | rfl | decide)) only [pX4_init_37, pX4_init_38, pX4_init_39, pX4_init_42, nI_add, pk_mul, xn_sub, xn_and, xn_or, xn_xor, xn_shl, xn_shr, xn_lt, xn_le, xn_eq, xrf_some, xup_eq, xup_ne, xrow_eq, xrow_ne, Option.toList_some, Option.toList_none, List.singleton_append, List.nil_append, List.cons_append, xnl_n, xnl_i, xnl_r, Nat.zero_add, Nat.add_zero, ↓reduceIte, Nat.reduceEqDiff, Nat.reduceLeDiff, Nat.reduceAdd, Nat.reduceMul, Nat.reduceLT, Nat.one_ne_zero, eq_self, not_true_eq_false, not_false_eq_true, and_self, hT]
    rw [← hSd]
    simp (disch := (first | assumption | exact xnl_i _ | exact xnl_r _ | exact xnl_n | exact Bool.toNat_lt _ | exact hb _ | exact hb2 _ | omega | exact Nat.le_of_ble_eq_true rfl | rfl | decide)) only [pX4_init_45, pX4_init_46, pX4_init_47, pX4_init_49, nI_add, pk_mul, xn_sub, xn_and, xn_or, xn_xor, xn_shl, xn_shr, xn_lt, xn_le, xn_eq, xrf_some, xup_eq, xup_ne, xrow_eq, xrow_ne, Option.toList_some, Option.toList_none, List.singleton_append, List.nil_append, List.cons_append, xnl_n, xnl_i, xnl_r, Nat.zero_add, Nat.add_zero, ↓reduceIte, Nat.reduceEqDiff, Nat.reduceLeDiff, Nat.reduceAdd, Nat.reduceMul, Nat.reduceLT, Nat.one_ne_zero, eq_self, not_true_eq_false, not_false_eq_true, and_self, Td]
    rw [← hSe, ← hVE]
    simp (disch := (first | assumption | exact xnl_i _ | exact xnl_r _ | exact xnl_n | exact Bool.toNat_lt _ | exact hb _ | exact hb2 _ | omega | exact Nat.le_of_ble_eq_true rfl | rfl | decide)) only [pX4_init_52, pX4_init_53, pX4_init_56, pX4_init_56i, pX4_init_57, nI_add, pk_mul, xn_sub, xn_and, xn_or, xn_xor, xn_shl, xn_shr, xn_lt, xn_le, xn_eq, xrf_some, xup_eq, xup_ne, xrow_eq, xrow_ne, Option.toList_some, Option.toList_none, List.singleton_append, List.nil_append, List.cons_append, xnl_n, xnl_i, xnl_r, Nat.zero_add, Nat.add_zero, ↓reduceIte, Nat.reduceEqDiff, Nat.reduceLeDiff, Nat.reduceAdd, Nat.reduceMul, Nat.reduceLT, Nat.one_ne_zero, eq_self, not_true_eq_false, not_false_eq_true, and_self, Te, F6]
    simp (disch := (first | assumption | exact xnl_i _ | exact xnl_r _ | exact xnl_n | exact Bool.toNat_lt _ | exact hb _ | exact hb2 _ | omega | exact Nat.le_of_ble_eq_true rfl | rfl | decide)) only [pX4_init_60, nI_add, pk_mul, xn_sub, xn_and, xn_or, xn_xor, xn_shl, xn_shr, xn_lt, xn_le, xn_eq, xrf_some, xup_eq, xup_ne, xrow_eq, xrow_ne, Option.toList_some, Option.toList_none, List.singleton_append, List.nil_append, List.cons_append, xnl_n, xnl_i, xnl_r, Nat.zero_add, Nat.add_zero, ↓reduceIte, Nat.reduceEqDiff, Nat.reduceLeDiff, Nat.reduceAdd, Nat.reduceMul, Nat.reduceLT, Nat.one_ne_zero, eq_self, not_true_eq_false, not_false_eq_true, and_self]
    rw [← hSf]
theorem i_X4c (hk : xkd S x = 5) (h3 : xrf S x 3 = some (x + 355)) (h5 : xkd S (x + 355) = 11) (h6 : xln S (x + 355) = 2) (hT : S.2.1 = x + 361) : ∃ S' V', (∀ i, i < 2 → xrf S' (x + 355) i = some (x + (361 + 44 * i)) ∧ kShape S' (x + (361 + 44 * i))) ∧ xkd S' (x + 355) = 11 ∧ xln S' (x + 355) = 2 ∧ S'.2.1 = x + 449 ∧ S'.2.2 = S.2.2 + 868 ∧ (∀ a, (a < x + 361 ∨ x + 449 ≤ a) → (¬ a = x + 355 → S'.1 a = S.1 a) ∧ V' a = V a) ∧ ∀ Q : Option Value → xSh → xV → Prop, xX E mX4_init 63 [some (.ref x), none] [] S V Q ↔ Q none S' V' := by
  obtain ⟨SG, VG, G1, G2, G3, G4, _, _, G7⟩ := i_new2 (E := E) (V := V) hT
  have g5 : xkd SG (x + 355) = 11 := by rw [(kd_o (G4 (x + 355) (by omega)).1).1]; exact h5
  have g6 : xln SG (x + 355) = 2 := by rw [(kd_o (G4 (x + 355) (by omega)).1).2.1]; exact h6
  have G10 : xkd SG (x + 361) = 3 := G1.1
  obtain ⟨Sg, hSg⟩ : ∃ Sg, Sg = xsetr SG (x + 355) 0 (some (x + 361)) := ⟨_, rfl⟩
  have sg : ∀ a, ¬ a = x + 355 → Sg.1 a = SG.1 a := fun a h => by rw [hSg]; exact xsetr_1 h
  have Tg : Sg.2.1 = x + 405 := by rw [hSg, xsetr_T, G2]
  have Zg : Sg.2.2 = S.2.2 + 434 := by rw [hSg, xsetr_Z, G3]
  have kg : xkd Sg x = 5 := by rw [(kd_o (sg x (by omega))).1, (kd_o (G4 x (by omega)).1).1]; exact hk
  have rg3 : xrf Sg x 3 = some (x + 355) := by rw [(kd_o (sg x (by omega))).2.2, (kd_o (G4 x (by omega)).1).2.2]; exact h3
  have g5' : xkd Sg (x + 355) = 11 := by rw [hSg, xsetr_kd]; exact g5
  have g6' : xln Sg (x + 355) = 2 := by rw [hSg, xsetr_ln]; exact g6
  obtain ⟨SH, VH, H1, H2, H3, H4, _, _, H7⟩ := i_new2 (E := E) (V := VG) Tg
  have h5' : xkd SH (x + 355) = 11 := by rw [(kd_o (H4 (x + 355) (by omega)).1).1]; exact g5'
  have h6' : xln SH (x + 355) = 2 := by rw [(kd_o (H4 (x + 355) (by omega)).1).2.1]; exact g6'
  have H10 : xkd SH (x + 405) = 3 := H1.1
  obtain ⟨Sh, hSh⟩ : ∃ Sh, Sh = xsetr SH (x + 355) 1 (some (x + 405)) := ⟨_, rfl⟩
  have sh : ∀ a, ¬ a = x + 355 → Sh.1 a = SH.1 a := fun a h => by rw [hSh]; exact xsetr_1 h
  refine ⟨Sh, VH, fun i hi => ?_, by rw [hSh, xsetr_kd]; exact h5', by rw [hSh, xsetr_ln]; exact h6', by rw [hSh, xsetr_T, H2], by rw [hSh, xsetr_Z, H3, Zg], fun a ha => ⟨fun hax => ?_, ?_⟩, fun Q => ?_⟩
  · have hc : i = 0 ∨ i = 1 := by omega
    rcases hc with rfl | rfl
    · refine ⟨?_, kShape_o G1 (fun a h1 h2 => by rw [sh a (by omega), (H4 a (by omega)).1, sg a (by omega)])⟩
      rw [hSh, xsetr_rf, if_neg (by omega), (kd_o (H4 (x + 355) (by omega)).1).2.2, hSg, xsetr_rf, if_pos ⟨rfl, rfl⟩]
    · refine ⟨?_, kShape_o H1 (fun a h1 h2 => sh a (by omega))⟩
      rw [hSh, xsetr_rf, if_pos ⟨rfl, rfl⟩]
  · rw [sh a hax, (H4 a (by omega)).1, sg a hax, (G4 a (by omega)).1]
  · rw [(H4 a (by omega)).2, (G4 a (by omega)).2]
  · clear G1 H1 G4 H4 sg sh
    simp (disch := (first | assumption | exact xnl_i _ | exact xnl_r _ | exact xnl_n | exact Bool.toNat_lt _ | exact hb _ | exact hb2 _ | omega | exact Nat.le_of_ble_eq_true rfl | rfl | decide)) only [pX4_init_63, pX4_init_64, nI_add, pk_mul, xn_sub, xn_and, xn_or, xn_xor, xn_shl, xn_shr, xn_lt, xn_le, xn_eq, xrf_some, xup_eq, xup_ne, xrow_eq, xrow_ne, Option.toList_some, Option.toList_none, List.singleton_append, List.nil_append, List.cons_append, xnl_n, xnl_i, xnl_r, Nat.zero_add, Nat.add_zero, ↓reduceIte, Nat.reduceEqDiff, Nat.reduceLeDiff, Nat.reduceAdd, Nat.reduceMul, Nat.reduceLT, Nat.one_ne_zero, eq_self, not_true_eq_false, not_false_eq_true, and_self]
    rw [pX4_init_65]
    simp (disch := (first | assumption | exact xnl_i _ | exact xnl_r _ | exact xnl_n | exact Bool.toNat_lt _ | exact hb _ | exact hb2 _ | omega | exact Nat.le_of_ble_eq_true rfl | rfl | decide)) only [pX4_init_66, pX4_init_67, pX4_init_70, pX4_init_71, pX4_init_74, pX4_init_75, pX4_init_78, pX4_init_78i, pX4_init_79, nI_add, pk_mul, xn_sub, xn_and, xn_or, xn_xor, xn_shl, xn_shr, xn_lt, xn_le, xn_eq, xrf_some, xup_eq, xup_ne, xrow_eq, xrow_ne, Option.toList_some, Option.toList_none, List.singleton_append, List.nil_append, List.cons_append, xnl_n, xnl_i, xnl_r, Nat.zero_add, Nat.add_zero, ↓reduceIte, Nat.reduceEqDiff, Nat.reduceLeDiff, Nat.reduceAdd, Nat.reduceMul, Nat.reduceLT, Nat.one_ne_zero, eq_self, not_true_eq_false, not_false_eq_true, and_self, h3, hT, G7]
    simp (disch := (first | assumption | exact xnl_i _ | exact xnl_r _ | exact xnl_n | exact Bool.toNat_lt _ | exact hb _ | exact hb2 _ | omega | exact Nat.le_of_ble_eq_true rfl | rfl | decide)) only [pX4_init_82, nI_add, pk_mul, xn_sub, xn_and, xn_or, xn_xor, xn_shl, xn_shr, xn_lt, xn_le, xn_eq, xrf_some, xup_eq, xup_ne, xrow_eq, xrow_ne, Option.toList_some, Option.toList_none, List.singleton_append, List.nil_append, List.cons_append, xnl_n, xnl_i, xnl_r, Nat.zero_add, Nat.add_zero, ↓reduceIte, Nat.reduceEqDiff, Nat.reduceLeDiff, Nat.reduceAdd, Nat.reduceMul, Nat.reduceLT, Nat.one_ne_zero, eq_self, not_true_eq_false, not_false_eq_true, and_self]
    rw [← hSg]
    simp (disch := (first | assumption | exact xnl_i _ | exact xnl_r _ | exact xnl_n | exact Bool.toNat_lt _ | exact hb _ | exact hb2 _ | omega | exact Nat.le_of_ble_eq_true rfl | rfl | decide)) only [pX4_init_83, pX4_init_86, nI_add, pk_mul, xn_sub, xn_and, xn_or, xn_xor, xn_shl, xn_shr, xn_lt, xn_le, xn_eq, xrf_some, xup_eq, xup_ne, xrow_eq, xrow_ne, Option.toList_some, Option.toList_none, List.singleton_append, List.nil_append, List.cons_append, xnl_n, xnl_i, xnl_r, Nat.zero_add, Nat.add_zero, ↓reduceIte, Nat.reduceEqDiff, Nat.reduceLeDiff, Nat.reduceAdd, Nat.reduceMul, Nat.reduceLT, Nat.one_ne_zero, eq_self, not_true_eq_false, not_false_eq_true, and_self]
    rw [pX4_init_65]
    simp (disch := (first | assumption | exact xnl_i _ | exact xnl_r _ | exact xnl_n | exact Bool.toNat_lt _ | exact hb _ | exact hb2 _ | omega | exact Nat.le_of_ble_eq_true rfl | rfl | decide)) only [pX4_init_66, pX4_init_67, pX4_init_70, pX4_init_71, pX4_init_74, pX4_init_75, pX4_init_78, pX4_init_78i, pX4_init_79, nI_add, pk_mul, xn_sub, xn_and, xn_or, xn_xor, xn_shl, xn_shr, xn_lt, xn_le, xn_eq, xrf_some, xup_eq, xup_ne, xrow_eq, xrow_ne, Option.toList_some, Option.toList_none, List.singleton_append, List.nil_append, List.cons_append, xnl_n, xnl_i, xnl_r, Nat.zero_add, Nat.add_zero, ↓reduceIte, Nat.reduceEqDiff, Nat.reduceLeDiff, Nat.reduceAdd, Nat.reduceMul, Nat.reduceLT, Nat.one_ne_zero, eq_self, not_true_eq_false, not_false_eq_true, and_self, rg3, Tg, H7]
    simp (disch := (first | assumption | exact xnl_i _ | exact xnl_r _ | exact xnl_n | exact Bool.toNat_lt _ | exact hb _ | exact hb2 _ | omega | exact Nat.le_of_ble_eq_true rfl | rfl | decide)) only [pX4_init_82, nI_add, pk_mul, xn_sub, xn_and, xn_or, xn_xor, xn_shl, xn_shr, xn_lt, xn_le, xn_eq, xrf_some, xup_eq, xup_ne, xrow_eq, xrow_ne, Option.toList_some, Option.toList_none, List.singleton_append, List.nil_append, List.cons_append, xnl_n, xnl_i, xnl_r, Nat.zero_add, Nat.add_zero, ↓reduceIte, Nat.reduceEqDiff, Nat.reduceLeDiff, Nat.reduceAdd, Nat.reduceMul, Nat.reduceLT, Nat.one_ne_zero, eq_self, not_true_eq_false, not_false_eq_true, and_self]
    rw [← hSh]
    simp (disch := (first | assumption | exact xnl_i _ | exact xnl_r _ | exact xnl_n | exact Bool.toNat_lt _ | exact hb _ | exact hb2 _ | omega | exact Nat.le_of_ble_eq_true rfl | rfl | decide)) only [pX4_init_65, pX4_init_66, pX4_init_67, pX4_init_83, pX4_init_86, pX4_init_89, nI_add, pk_mul, xn_sub, xn_and, xn_or, xn_xor, xn_shl, xn_shr, xn_lt, xn_le, xn_eq, xrf_some, xup_eq, xup_ne, xrow_eq, xrow_ne, Option.toList_some, Option.toList_none, List.singleton_append, List.nil_append, List.cons_append, xnl_n, xnl_i, xnl_r, Nat.zero_add, Nat.add_zero, ↓reduceIte, Nat.reduceEqDiff, Nat.reduceLeDiff, Nat.reduceAdd, Nat.reduceMul, Nat.reduceLT, Nat.one_ne_zero, eq_self, not_true_eq_false, not_false_eq_true, and_self]
end INK

