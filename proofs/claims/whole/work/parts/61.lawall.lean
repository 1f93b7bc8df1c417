/-! ===== the law from its start ===== -/
section LWA
variable {E : Nat × Nat × Nat} {S : xSh} {V V' W : xV} {Q : Option Value → xSh → xV → Prop} {t b x L : Nat} {g : pG}
theorem tsShape_o {S' : xSh} (h : tsShape S x) (ho : ∀ a, x ≤ a → a < x + 449 → S'.1 a = S.1 a) : tsShape S' x := by
  obtain ⟨tk0, tr0, tr1, tr2, tr3, tr4, tr5, tnow, ttry, hk0, hr0, hk1, hn1, hms, sk0, sn0, sms, ik0, in0, pk0, pr0, pr2, pr3, qk1, qn1, qk2, qn2, qk3, qn3⟩ := h
  have e0 := kd_o (ho x (by omega) (by omega))
  have e89 := kd_o (ho (x + 89) (by omega) (by omega))
  have e90 := kd_o (ho (x + 90) (by omega) (by omega))
  have e355 := kd_o (ho (x + 355) (by omega) (by omega))
  have e356 := kd_o (ho (x + 356) (by omega) (by omega))
  have e357 := kd_o (ho (x + 357) (by omega) (by omega))
  have e358 := kd_o (ho (x + 358) (by omega) (by omega))
  have e359 := kd_o (ho (x + 359) (by omega) (by omega))
  have e360 := kd_o (ho (x + 360) (by omega) (by omega))
  exact ⟨by rw [e0.1]; exact tk0, by rw [e0.2.2]; exact tr0, by rw [e0.2.2]; exact tr1, by rw [e0.2.2]; exact tr2, by rw [e0.2.2]; exact tr3, by rw [e0.2.2]; exact tr4, by rw [e0.2.2]; exact tr5, kShape_o tnow (fun a h1 h2 => ho a (by omega) (by omega)), kShape_o ttry (fun a h1 h2 => ho a (by omega) (by omega)), by rw [e89.1]; exact hk0, by rw [e89.2.2]; exact hr0, by rw [e90.1]; exact hk1, by rw [e90.2.1]; exact hn1, fun i hi => ⟨by rw [e90.2.2]; exact (hms i hi).1, kShape_o (hms i hi).2 (fun a h1 h2 => ho a (by omega) (by omega))⟩, by rw [e355.1]; exact sk0, by rw [e355.2.1]; exact sn0, fun i hi => ⟨by rw [e355.2.2]; exact (sms i hi).1, kShape_o (sms i hi).2 (fun a h1 h2 => ho a (by omega) (by omega))⟩, by rw [e356.1]; exact ik0, by rw [e356.2.1]; exact in0, by rw [e357.1]; exact pk0, by rw [e357.2.2]; exact pr0, by rw [e357.2.2]; exact pr2, by rw [e357.2.2]; exact pr3, by rw [e358.1]; exact qk1, by rw [e358.2.1]; exact qn1, by rw [e359.1]; exact qk2, by rw [e359.2.1]; exact qn2, by rw [e360.1]; exact qk3, by rw [e360.2.1]; exact qn3⟩
theorem law_all (hkb : xkd S b = 14) (hL : xln S b = L) (hL31 : L < 2147483648) (hbx : b < S.2.1) (hO : ∀ S' V', (∀ a, a < S.2.1 → S'.1 a = S.1 a ∧ V' a = V a) → oRep E S' V' S.2.1 ∧ eRep E S' V' S.2.1) (hQ : ∀ S' V', S'.2.1 = S.2.1 + 459 → S'.2.2 = S.2.2 + 9628 → Q (some (.int (nI 1))) S' V') : xX E mL_law 0 [some (.ref b), none, none, none] [] S V Q := by
  obtain ⟨x, hx⟩ : ∃ x, x = S.2.1 := ⟨_, rfl⟩
  rw [← hx] at hbx hO hQ
  have n1 : xkd (xnew S 5 0 6) x = 5 := by rw [xnew_kd, if_pos hx]
  have n2 : (xnew S 5 0 6).2.1 = x + 1 := by rw [xnew_T, hx]
  obtain ⟨S1, V1, a1, a2, a3, a4, a5, a6, a7, a8, a9, a10⟩ := i_X4 (E := E) (V := xrow V x (fun _ => 0)) n1 n2
  have m1 : xkd (xnew S1 6 0 16) (x + 449) = 6 := by rw [xnew_kd, if_pos a2.symm]
  have m2 : (xnew S1 6 0 16).2.1 = x + 449 + 1 := by rw [xnew_T, a2]
  obtain ⟨S2, V2, b1, b2, b3, b4, b5, b6⟩ := i_X5 (E := E) (V := xrow V1 (x + 449) (fun _ => 0)) m1 m2 xrow_eq
  have lo : ∀ a, a < x + 449 → S2.1 a = S1.1 a ∧ V2 a = V1 a := fun a ha => by
    obtain ⟨q1, q2⟩ := b4 a (by omega)
    exact ⟨q1.trans (xnew_1 (by omega)), q2.trans (xrow_ne (by omega))⟩
  have lo0 : ∀ a, a < x → S2.1 a = S.1 a ∧ V2 a = V a := fun a ha => by
    obtain ⟨q1, q2⟩ := lo a (by omega)
    obtain ⟨q3, q4⟩ := a4 a (by omega)
    exact ⟨by rw [q1, q3]; exact xnew_1 (by omega), by rw [q2, q4]; exact xrow_ne (by omega)⟩
  have hR : cRep S2 V2 x g0 := cRep_0 (tsShape_o a1 (fun a h1 h2 => (lo a h2).1)) (fun a h1 h2 h3 => by rw [(lo a (by omega)).2]; exact a5 a h1 h2 h3) (fun k hk => by rw [(lo _ (by omega)).2]; exact a6 k hk) (by rw [(lo _ (by omega)).2]; exact a7) (by rw [(lo _ (by omega)).2]; exact a8) (by rw [(lo _ (by omega)).2]; exact a9)
  have hM : mRep S2 V2 (x + 449) g0 := mRep_0 b1 b5
  obtain ⟨hO2, hE2⟩ := hO S2 V2 lo0
  have eb := kd_o (lo0 b hbx).1
  have hT2 : S2.2.1 = x + 459 := by omega
  have hZ2 : S2.2.2 = S.2.2 + 9628 := by
    have z1 := xnew_Z (S := S1) (kd := 6) (n := 0) (z := 16)
    have z2 := xnew_Z (S := S) (kd := 5) (n := 0) (z := 6)
    omega
  have hl := law_loop (E := E) (Q := Q) (S := S2) (x := x) (t := x + 449) (b := b) (L := L) (by rw [eb.1]; exact hkb) (by rw [eb.2.1]; exact hL) hL31 hbx (Nat.le_refl _) (fun V' => hQ S2 V' hT2 hZ2) L 0 g0 V2 (by omega) (Nat.zero_le _) hR hM gG_0 hO2 hE2
  simp (disch := (first | assumption | exact xnl_i _ | exact xnl_r _ | exact xnl_n | exact Bool.toNat_lt _ | exact hb _ | exact hb2 _ | omega | exact Nat.le_of_ble_eq_true rfl | rfl | decide)) only [pL_law_0, pL_law_3, pL_law_3i, pL_law_4, nI_add, pk_mul, xn_sub, xn_and, xn_or, xn_xor, xn_shl, xn_shr, xn_lt, xn_le, xn_eq, xrf_some, xup_eq, xup_ne, xrow_eq, xrow_ne, Option.toList_some, Option.toList_none, List.singleton_append, List.nil_append, List.cons_append, xnl_n, xnl_i, xnl_r, Nat.zero_add, Nat.add_zero, ↓reduceIte, Nat.reduceEqDiff, Nat.reduceLeDiff, Nat.reduceAdd, Nat.reduceMul, Nat.reduceLT, Nat.one_ne_zero, eq_self, not_true_eq_false, not_false_eq_true, and_self]
  rw [← hx]
  simp (disch := (first | assumption | exact xnl_i _ | exact xnl_r _ | exact xnl_n | exact Bool.toNat_lt _ | exact hb _ | exact hb2 _ | omega | exact Nat.le_of_ble_eq_true rfl | rfl | decide)) only [a10, pL_law_7, pL_law_8, pL_law_11, pL_law_11i, pL_law_12, nI_add, pk_mul, xn_sub, xn_and, xn_or, xn_xor, xn_shl, xn_shr, xn_lt, xn_le, xn_eq, xrf_some, xup_eq, xup_ne, xrow_eq, xrow_ne, Option.toList_some, Option.toList_none, List.singleton_append, List.nil_append, List.cons_append, xnl_n, xnl_i, xnl_r, Nat.zero_add, Nat.add_zero, ↓reduceIte, Nat.reduceEqDiff, Nat.reduceLeDiff, Nat.reduceAdd, Nat.reduceMul, Nat.reduceLT, Nat.one_ne_zero, eq_self, not_true_eq_false, not_false_eq_true, and_self]
  rw [a2]
  simp (disch := (first | assumption | exact xnl_i _ | exact xnl_r _ | exact xnl_n | exact Bool.toNat_lt _ | exact hb _ | exact hb2 _ | omega | exact Nat.le_of_ble_eq_true rfl | rfl | decide)) only [b6, pL_law_15, pL_law_16, pL_law_17, nI_add, pk_mul, xn_sub, xn_and, xn_or, xn_xor, xn_shl, xn_shr, xn_lt, xn_le, xn_eq, xrf_some, xup_eq, xup_ne, xrow_eq, xrow_ne, Option.toList_some, Option.toList_none, List.singleton_append, List.nil_append, List.cons_append, xnl_n, xnl_i, xnl_r, Nat.zero_add, Nat.add_zero, ↓reduceIte, Nat.reduceEqDiff, Nat.reduceLeDiff, Nat.reduceAdd, Nat.reduceMul, Nat.reduceLT, Nat.one_ne_zero, eq_self, not_true_eq_false, not_false_eq_true, and_self]
  exact hl
end LWA
