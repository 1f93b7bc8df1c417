/-! ===== the law from its start ===== -/
section LWA
variable {E : Nat × Nat × Nat} {S : xSh} {V V' W : xV} {Q : Option Value → xSh → xV → Prop} {b x L : Nat} {g : pG}
theorem law_all (hkb : xkd S b = 14) (hL : xln S b = L) (hL31 : L < 2147483648) (hbx : b < S.2.1) (hO : ∀ S' V', (∀ a, a < S.2.1 → S'.1 a = S.1 a ∧ V' a = V a) → oRep E S' V' S.2.1) (hQ : ∀ S' V', S'.2.1 = S.2.1 + 449 → S'.2.2 = S.2.2 + 4470 → Q (some (.int (nI 1))) S' V') : xX E mL_law 0 [some (.ref b), none, none, none, none, none, none, none, none, none, none, none, none, none, none] [] S V Q := by
  obtain ⟨x, hx⟩ : ∃ x, x = S.2.1 := ⟨_, rfl⟩
  rw [← hx] at hbx hO hQ
  have n1 : xkd (xnew S 5 0 6) x = 5 := by rw [xnew_kd, if_pos hx]
  have n2 : (xnew S 5 0 6).2.1 = x + 1 := by rw [xnew_T, hx]
  obtain ⟨S1, V1, a1, a2, a3, a4, a5, a6, a7, a8, a9, a10⟩ := i_X4 (E := E) (V := xrow V x (fun _ => 0)) n1 n2
  have lo0 : ∀ a, a < x → S1.1 a = S.1 a ∧ V1 a = V a := fun a ha => by
    obtain ⟨q3, q4⟩ := a4 a (by omega)
    exact ⟨by rw [q3]; exact xnew_1 (by omega), by rw [q4]; exact xrow_ne (by omega)⟩
  have hR : cRep S1 V1 x g0 := cRep_0 a1 a5 a6 a7 a8 a9
  have hO1 := hO S1 V1 lo0
  have eb := kd_o (lo0 b hbx).1
  have hZ1 : S1.2.2 = S.2.2 + 4470 := by
    have z2 := xnew_Z (S := S) (kd := 5) (n := 0) (z := 6)
    omega
  have hx5 := hR.1.1
  have es : psave g0 (nI 1) = (nI (gσ g0 496), gsave g0 1) := by
    unfold psave; rw [if_pos (rng_n (show 0 ≤ 1 by decide) (Nat.le_refl 1) (by decide)), ix_n (by decide)]
  have hG1 : gG (gsave g0 1) := gG_save gG_0
  have eu : pundo (gsave g0 1) = (-5, gsave g0 1) := if_pos rfl
  have hs0 : ¬ gis (gsave g0 1) 0 = true := by decide
  have er : prestore (gsave g0 1) (nI 0) = (-5, gsave g0 1) := by
    unfold prestore; rw [if_pos (rng_n (Nat.le_refl 0) (show 0 ≤ 1 by decide) (by decide)), ix_n (by decide), if_neg hs0]
  simp (disch := (first | assumption | exact xnl_i _ | exact xnl_r _ | exact xnl_n | exact Bool.toNat_lt _ | exact hb _ | exact hb2 _ | omega | exact Nat.le_of_ble_eq_true rfl | rfl | decide)) only [pL_law_0, pL_law_3, pL_law_3i, pL_law_4, nI_add, pk_mul, xn_sub, xn_and, xn_or, xn_xor, xn_shl, xn_shr, xn_lt, xn_le, xn_eq, xrf_some, xup_eq, xup_ne, xrow_eq, xrow_ne, Option.toList_some, Option.toList_none, List.singleton_append, List.nil_append, List.cons_append, xnl_n, xnl_i, xnl_r, Nat.zero_add, Nat.add_zero, ↓reduceIte, Nat.reduceEqDiff, Nat.reduceLeDiff, Nat.reduceAdd, Nat.reduceMul, Nat.reduceLT, Nat.one_ne_zero, eq_self, not_true_eq_false, not_false_eq_true, and_self]
  rw [← hx]
  simp (disch := (first | assumption | exact xnl_i _ | exact xnl_r _ | exact xnl_n | exact Bool.toNat_lt _ | exact hb _ | exact hb2 _ | omega | exact Nat.le_of_ble_eq_true rfl | rfl | decide)) only [a10, pL_law_7, pL_law_8, nI_add, pk_mul, xn_sub, xn_and, xn_or, xn_xor, xn_shl, xn_shr, xn_lt, xn_le, xn_eq, xrf_some, xup_eq, xup_ne, xrow_eq, xrow_ne, Option.toList_some, Option.toList_none, List.singleton_append, List.nil_append, List.cons_append, xnl_n, xnl_i, xnl_r, Nat.zero_add, Nat.add_zero, ↓reduceIte, Nat.reduceEqDiff, Nat.reduceLeDiff, Nat.reduceAdd, Nat.reduceMul, Nat.reduceLT, Nat.one_ne_zero, eq_self, not_true_eq_false, not_false_eq_true, and_self]
  rw [pL_law_9 (Nat.le_of_ble_eq_true rfl)]
  refine c_digest hR gG_0 (fun V2 hR2 o2 => ?_)
  simp (disch := (first | assumption | exact xnl_i _ | exact xnl_r _ | exact xnl_n | exact Bool.toNat_lt _ | exact hb _ | exact hb2 _ | omega | exact Nat.le_of_ble_eq_true rfl | rfl | decide)) only [pL_law_12, pL_law_13, pL_law_14, nI_add, pk_mul, xn_sub, xn_and, xn_or, xn_xor, xn_shl, xn_shr, xn_lt, xn_le, xn_eq, xrf_some, xup_eq, xup_ne, xrow_eq, xrow_ne, Option.toList_some, Option.toList_none, List.singleton_append, List.nil_append, List.cons_append, xnl_n, xnl_i, xnl_r, Nat.zero_add, Nat.add_zero, ↓reduceIte, Nat.reduceEqDiff, Nat.reduceLeDiff, Nat.reduceAdd, Nat.reduceMul, Nat.reduceLT, Nat.one_ne_zero, eq_self, not_true_eq_false, not_false_eq_true, and_self]
  rw [pL_law_15 hx5 (Nat.le_of_ble_eq_true rfl)]
  refine c_save hR2 gG_0 (fun V3 hR3 o3 => ?_)
  rw [es] at hR3 ⊢
  have z0 : gσ g0 496 = 0 := rfl
  rw [z0]
  simp (disch := (first | assumption | exact xnl_i _ | exact xnl_r _ | exact xnl_n | exact Bool.toNat_lt _ | exact hb _ | exact hb2 _ | omega | exact Nat.le_of_ble_eq_true rfl | rfl | decide)) only [pL_law_18, pL_law_21, nI_add, pk_mul, xn_sub, xn_and, xn_or, xn_xor, xn_shl, xn_shr, xn_lt, xn_le, xn_eq, xrf_some, xup_eq, xup_ne, xrow_eq, xrow_ne, Option.toList_some, Option.toList_none, List.singleton_append, List.nil_append, List.cons_append, xnl_n, xnl_i, xnl_r, Nat.zero_add, Nat.add_zero, ↓reduceIte, Nat.reduceEqDiff, Nat.reduceLeDiff, Nat.reduceAdd, Nat.reduceMul, Nat.reduceLT, Nat.one_ne_zero, eq_self, not_true_eq_false, not_false_eq_true, and_self]
  rw [pL_law_22 hx5 (Nat.le_of_ble_eq_true rfl)]
  refine c_undo hR3 hG1 (fun V4 hR4 o4 => ?_)
  rw [eu] at hR4 ⊢
  simp (disch := (first | assumption | exact xnl_i _ | exact xnl_r _ | exact xnl_n | exact Bool.toNat_lt _ | exact hb _ | exact hb2 _ | omega | exact Nat.le_of_ble_eq_true rfl | rfl | decide)) only [pL_law_25, pL_law_27, pL_law_30, pL_law_31, nI_add, pk_mul, xn_sub, xn_and, xn_or, xn_xor, xn_shl, xn_shr, xn_lt, xn_le, xn_eq, xrf_some, xup_eq, xup_ne, xrow_eq, xrow_ne, Option.toList_some, Option.toList_none, List.singleton_append, List.nil_append, List.cons_append, xnl_n, xnl_i, xnl_r, Nat.zero_add, Nat.add_zero, ↓reduceIte, Nat.reduceEqDiff, Nat.reduceLeDiff, Nat.reduceAdd, Nat.reduceMul, Nat.reduceLT, Nat.one_ne_zero, eq_self, not_true_eq_false, not_false_eq_true, and_self]
  rw [pL_law_32 hx5 (Nat.le_of_ble_eq_true rfl)]
  refine c_restore hR4 hG1 (fun V5 hR5 o5 => ?_)
  rw [er] at hR5 ⊢
  simp (disch := (first | assumption | exact xnl_i _ | exact xnl_r _ | exact xnl_n | exact Bool.toNat_lt _ | exact hb _ | exact hb2 _ | omega | exact Nat.le_of_ble_eq_true rfl | rfl | decide)) only [pL_law_35, pL_law_37, pL_law_40, pL_law_41, pL_law_42, pL_law_43, nI_add, pk_mul, xn_sub, xn_and, xn_or, xn_xor, xn_shl, xn_shr, xn_lt, xn_le, xn_eq, xrf_some, xup_eq, xup_ne, xrow_eq, xrow_ne, Option.toList_some, Option.toList_none, List.singleton_append, List.nil_append, List.cons_append, xnl_n, xnl_i, xnl_r, Nat.zero_add, Nat.add_zero, ↓reduceIte, Nat.reduceEqDiff, Nat.reduceLeDiff, Nat.reduceAdd, Nat.reduceMul, Nat.reduceLT, Nat.one_ne_zero, eq_self, not_true_eq_false, not_false_eq_true, and_self]
  exact law_loop (by rw [eb.1]; exact hkb) (by rw [eb.2.1]; exact hL) hL31 (fun V' => hQ S1 V' a2 hZ1) 30 0 (gsave g0 1) V5 _ _ _ _ _ _ _ _ _ _ _ rfl hR5 (oRep_t hO1 (tOut_t o2 (tOut_t o3 (tOut_t o4 o5)))) hG1 acc_0 rfl rfl
end LWA
