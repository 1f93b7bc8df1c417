/-! ===== the class: its calls, further on ===== -/
section KCB
variable {E : Nat × Nat × Nat} {S : xSh} {V V' W : xV} {Q : Option Value → xSh → xV → Prop} {x mb c : Nat} {g : pG} {σ : Nat → Nat}
theorem k_bitCount {s : Nat} (hs : s < 256) : xC E mJ6_bitCount_0f7a4 [.int (nI s)] S V Q ↔ Q (some (.int (nI (pcnt s 8)))) S V := by
  show xX E mJ6_bitCount_0f7a4 0 [some (.int (nI s))] [] S V Q ↔ _
  simp only [pJ6_bitCount_0f7a4_0, pJ6_bitCount_0f7a4_1, pJ6_bitCount_0f7a4_2, pJ6_bitCount_0f7a4_3, pJ6_bitCount_0f7a4_4, pJ6_bitCount_0f7a4_7, pJ6_bitCount_0f7a4_8, pJ6_bitCount_0f7a4_9, pJ6_bitCount_0f7a4_10, pJ6_bitCount_0f7a4_11, pJ6_bitCount_0f7a4_14, pJ6_bitCount_0f7a4_15, pJ6_bitCount_0f7a4_16, pJ6_bitCount_0f7a4_17, pJ6_bitCount_0f7a4_18, pJ6_bitCount_0f7a4_21, pJ6_bitCount_0f7a4_22, pJ6_bitCount_0f7a4_23, pJ6_bitCount_0f7a4_24, pJ6_bitCount_0f7a4_25, pJ6_bitCount_0f7a4_26, pJ6_bitCount_0f7a4_27, pJ6_bitCount_0f7a4_28, pJ6_bitCount_0f7a4_29, pJ6_bitCount_0f7a4_32, pJ6_bitCount_0f7a4_33, pJ6_bitCount_0f7a4_34, pJ6_bitCount_0f7a4_35, pJ6_bitCount_0f7a4_36, pJ6_bitCount_0f7a4_38, pJ6_bitCount_0f7a4_39, pJ6_bitCount_0f7a4_40, pJ6_bitCount_0f7a4_41, pJ6_bitCount_0f7a4_42, pJ6_bitCount_0f7a4_43, pJ6_bitCount_0f7a4_45, pJ6_bitCount_0f7a4_46, pJ6_bitCount_0f7a4_47, pJ6_bitCount_0f7a4_48, pJ6_bitCount_0f7a4_49, pJ6_bitCount_0f7a4_51, pJ6_bitCount_0f7a4_52]
  have h : ∀ s : Nat, s < 256 → (let a := nI s - (((nI s).toUInt32 >>> ((nI 1).toUInt32 &&& Int32.toUInt32 31)).toInt32 &&& nI 1431655765); let b := (a &&& nI 858993459) + ((a.toUInt32 >>> ((nI 2).toUInt32 &&& Int32.toUInt32 31)).toInt32 &&& nI 858993459); let c := (b + (b.toUInt32 >>> ((nI 4).toUInt32 &&& Int32.toUInt32 31)).toInt32) &&& nI 252645135; let d := c + (c.toUInt32 >>> ((nI 8).toUInt32 &&& Int32.toUInt32 31)).toInt32; (d + (d.toUInt32 >>> ((nI 16).toUInt32 &&& Int32.toUInt32 31)).toInt32) &&& nI 63) = nI (pcnt s 8) := by decide +kernel
  have h2 := h s hs
  dsimp only at h2
  rw [h2]
theorem c_undo (hR : cRep S V x g) (hG : gG g) (hQ : ∀ V', cRep S V' x (pundo g).2 → tOut V V' x → Q (some (.int (pundo g).1)) S V') : xC E mX4_undo [.ref x] S V Q := by
  have hT := hR.1; obtain ⟨tk0, tr0, tr1, tr2, tr3, tr4, tr5, tnow, ttry, hk0, hr0, hk1, hn1, hms, sk0, sn0, sms, ik0, in0, pk0, pr0, pr2, pr3, qk1, qn1, qk2, qn2, qk3, qn3⟩ := hT; have hKn := tnow; obtain ⟨mk0, mr0, mr1, mr2, mk1, mn1, mk2, mn2, mk3, mn3, mcs⟩ := hKn; have hw := gs_wf hG.1; have hb := wf_b hw; have hN := hR.2.1; have tnow0 := tnow.1
  obtain ⟨o, o6, v1, v2, v3⟩ := hR.2.2.1
  have hub : gu g < 2147483648 := by have := hG.2.1; omega
  show xX E mX4_undo 0 [some (.ref x)] [] S V Q
  unfold pundo at hQ
  by_cases h0 : gu g = 0
  · rw [if_pos h0] at hQ
    simp (disch := (first | assumption | exact xnl_i _ | exact xnl_r _ | exact xnl_n | exact Bool.toNat_lt _ | exact hb _ | exact hb2 _ | omega | exact Nat.le_of_ble_eq_true rfl | rfl | decide)) only [pX4_undo_0, pX4_undo_1, pX4_undo_4, pX4_undo_7, pX4_undo_10, pX4_undo_12, nI_add, pk_mul, xn_sub, xn_and, xn_or, xn_xor, xn_shl, xn_shr, xn_lt, xn_le, xn_eq, xrf_some, xup_eq, xup_ne, xrow_eq, xrow_ne, Option.toList_some, Option.toList_none, List.singleton_append, List.nil_append, List.cons_append, xnl_n, xnl_i, xnl_r, Nat.zero_add, Nat.add_zero, ↓reduceIte, Nat.reduceEqDiff, Nat.reduceLeDiff, Nat.reduceAdd, Nat.reduceMul, Nat.reduceLT, Nat.one_ne_zero, eq_self, not_true_eq_false, not_false_eq_true, and_self, tk0, tr0, tr1, tr2, tr3, tr4, tr5, hk0, v2, h0]
    exact hQ _ hR tOut_r
  · rw [if_neg h0] at hQ
    obtain ⟨W, hRW, hoW, htb⟩ := k_takeBack (E := E) hR hG (by omega)
    obtain ⟨o', _, _, v2W, _⟩ := hRW.2.2.1
    have v2W : W (x + 89) 2 = nI (gu g - 1) := v2W
    simp (disch := (first | assumption | exact xnl_i _ | exact xnl_r _ | exact xnl_n | exact Bool.toNat_lt _ | exact hb _ | exact hb2 _ | omega | exact Nat.le_of_ble_eq_true rfl | rfl | decide)) only [pX4_undo_0, pX4_undo_1, pX4_undo_4, pX4_undo_7, pX4_undo_10, pX4_undo_12, pX4_undo_13, pX4_undo_14, pX4_undo_17, pX4_undo_18, pX4_undo_21, pX4_undo_24, pX4_undo_25, pX4_undo_28, pX4_undo_31, nI_add, pk_mul, xn_sub, xn_and, xn_or, xn_xor, xn_shl, xn_shr, xn_lt, xn_le, xn_eq, xrf_some, xup_eq, xup_ne, xrow_eq, xrow_ne, Option.toList_some, Option.toList_none, List.singleton_append, List.nil_append, List.cons_append, xnl_n, xnl_i, xnl_r, Nat.zero_add, Nat.add_zero, ↓reduceIte, Nat.reduceEqDiff, Nat.reduceLeDiff, Nat.reduceAdd, Nat.reduceMul, Nat.reduceLT, Nat.one_ne_zero, eq_self, not_true_eq_false, not_false_eq_true, and_self, tk0, tr0, tr1, tr2, tr3, tr4, tr5, hk0, v2, h0, htb, v2W]
    exact hQ _ hRW hoW
theorem c_save {a : Int32} (hR : cRep S V x g) (hG : gG g) (hQ : ∀ V', cRep S V' x (psave g a).2 → tOut V V' x → Q (some (.int (psave g a).1)) S V') : xC E mX4_save [.ref x, .int a] S V Q := by
  have hT := hR.1; obtain ⟨tk0, tr0, tr1, tr2, tr3, tr4, tr5, tnow, ttry, hk0, hr0, hk1, hn1, hms, sk0, sn0, sms, ik0, in0, pk0, pr0, pr2, pr3, qk1, qn1, qk2, qn2, qk3, qn3⟩ := hT; have hKn := tnow; obtain ⟨mk0, mr0, mr1, mr2, mk1, mn1, mk2, mn2, mk3, mn3, mcs⟩ := hKn; have hw := gs_wf hG.1; have hb := wf_b hw; have hN := hR.2.1; have tnow0 := tnow.1
  show xX E mX4_save 0 [some (.ref x), some (.int a)] [] S V Q
  unfold psave at hQ
  rcases xrng a 0 1 (by decide) (by decide) with ⟨d, _, hd, rfl⟩ | ⟨hn, _⟩
  · have hcc := rng_n (Nat.zero_le d) hd (by decide)
    rw [if_pos hcc, ix_n (by omega)] at hQ
    obtain ⟨srd, ssh⟩ := sms d (by omega)
    have ss0 := ssh.1
    obtain ⟨W, w1, w2, w3⟩ := k_copyM (E := E) ssh tnow hN hG.1 (by omega)
    have h3 : W (x + 1) 3 = nI (gσ g 496) := by rw [w2 _ (by omega)]; exact hN.2
    simp (disch := (first | assumption | exact xnl_i _ | exact xnl_r _ | exact xnl_n | exact Bool.toNat_lt _ | exact hb _ | exact hb2 _ | omega | exact Nat.le_of_ble_eq_true rfl | rfl | decide)) only [pX4_save_0, pX4_save_1, pX4_save_4, pX4_save_7, pX4_save_9, pX4_save_10, pX4_save_11, pX4_save_14, pX4_save_15, pX4_save_16, pX4_save_17, pX4_save_20, pX4_save_23, pX4_save_24, pX4_save_27, pX4_save_28, pX4_save_29, pX4_save_30, pX4_save_31, pX4_save_34, pX4_save_37, nI_add, pk_mul, xn_sub, xn_and, xn_or, xn_xor, xn_shl, xn_shr, xn_lt, xn_le, xn_eq, xrf_some, xup_eq, xup_ne, xrow_eq, xrow_ne, Option.toList_some, Option.toList_none, List.singleton_append, List.nil_append, List.cons_append, xnl_n, xnl_i, xnl_r, Nat.zero_add, Nat.add_zero, ↓reduceIte, Nat.reduceEqDiff, Nat.reduceLeDiff, Nat.reduceAdd, Nat.reduceMul, Nat.reduceLT, Nat.one_ne_zero, eq_self, not_true_eq_false, not_false_eq_true, and_self, k_isSave, hcc, tk0, tr0, tr1, tr2, tr3, tr4, tr5, mk0, mr0, mr1, mr2, srd, ss0, w3, h3]
    have wo : ∀ a, (a < x + 356 ∨ (x + 356 < a ∧ a < x + 361)) → xup W (x + 356) d (nI 1) a = V a := fun a ha => by rw [xup_rn (by omega)]; exact w2 a (by omega)
    obtain ⟨t1, t2, t3, t4, t5⟩ := hR
    refine hQ _ ⟨t1, kM_e t2 (fun a _ _ => wo a (by omega)), hRep_o t3 (fun a _ _ => wo a (by omega)), fun k hk => ?_, dRep_o t5 (fun a _ _ => wo a (by omega))⟩ (tOut_t (tOut_k w2 (by omega) (by omega)) (tOut_up (by omega)))
    show xup W (x + 356) d (nI 1) (x + 356) k = nI (if k = d then true else gis g k).toNat ∧ ((if k = d then true else gis g k) = true → kM (xup W (x + 356) d (nI 1)) (x + (361 + 44 * k)) (if k = d then gσ g else gsv g k))
    by_cases hkd : k = d
    · subst hkd
      rw [if_pos rfl, if_pos rfl, xup_eq]
      exact ⟨rfl, fun _ => kM_e w1 (fun a _ _ => xup_rn (by omega))⟩
    · rw [if_neg hkd, if_neg hkd, xup_ne (by omega), w2 _ (by omega)]
      exact ⟨(t4 k hk).1, fun hs => kM_e ((t4 k hk).2 hs) (fun a _ _ => by rw [xup_rn (by omega)]; exact w2 a (by omega))⟩
  · rw [if_neg hn] at hQ
    simp (disch := (first | assumption | exact xnl_i _ | exact xnl_r _ | exact xnl_n | exact Bool.toNat_lt _ | exact hb _ | exact hb2 _ | omega | exact Nat.le_of_ble_eq_true rfl | rfl | decide)) only [pX4_save_0, pX4_save_1, pX4_save_4, pX4_save_7, pX4_save_9, nI_add, pk_mul, xn_sub, xn_and, xn_or, xn_xor, xn_shl, xn_shr, xn_lt, xn_le, xn_eq, xrf_some, xup_eq, xup_ne, xrow_eq, xrow_ne, Option.toList_some, Option.toList_none, List.singleton_append, List.nil_append, List.cons_append, xnl_n, xnl_i, xnl_r, Nat.zero_add, Nat.add_zero, ↓reduceIte, Nat.reduceEqDiff, Nat.reduceLeDiff, Nat.reduceAdd, Nat.reduceMul, Nat.reduceLT, Nat.one_ne_zero, eq_self, not_true_eq_false, not_false_eq_true, and_self, k_isSave, hn]
    exact hQ _ hR tOut_r
theorem c_restore {a : Int32} (hR : cRep S V x g) (hG : gG g) (hQ : ∀ V', cRep S V' x (prestore g a).2 → tOut V V' x → Q (some (.int (prestore g a).1)) S V') : xC E mX4_restore [.ref x, .int a] S V Q := by
  have hT := hR.1; obtain ⟨tk0, tr0, tr1, tr2, tr3, tr4, tr5, tnow, ttry, hk0, hr0, hk1, hn1, hms, sk0, sn0, sms, ik0, in0, pk0, pr0, pr2, pr3, qk1, qn1, qk2, qn2, qk3, qn3⟩ := hT; have hKn := tnow; obtain ⟨mk0, mr0, mr1, mr2, mk1, mn1, mk2, mn2, mk3, mn3, mcs⟩ := hKn; have hw := gs_wf hG.1; have hb := wf_b hw; have hN := hR.2.1; have tnow0 := tnow.1
  show xX E mX4_restore 0 [some (.ref x), some (.int a)] [] S V Q
  unfold prestore at hQ
  rcases xrng a 0 1 (by decide) (by decide) with ⟨d, _, hd, rfl⟩ | ⟨hn, _⟩
  · have hcc := rng_n (Nat.zero_le d) hd (by decide)
    rw [if_pos hcc, ix_n (by omega)] at hQ
    obtain ⟨srd, ssh⟩ := sms d (by omega)
    have hsd := (hR.2.2.2.1 d (by omega)).1
    cases his : gis g d with
    | true =>
      rw [if_pos his] at hQ
      rw [his] at hsd
      have hsd : V (x + 356) d = nI 1 := hsd
      have hgs := hG.2.2.2.1 d (by omega) his
      obtain ⟨W, hRW, hoW, hrec⟩ := k_record (E := E) hR hG
      have hsrc : kM W (x + (361 + 44 * d)) (gsv g d) := (hRW.2.2.2.1 d (by omega)).2 his
      obtain ⟨W2, w1, w2, w3⟩ := k_copyM (E := E) tnow ssh hsrc hgs (by omega)
      have h3 : W2 (x + 1) 3 = nI (gsv g d 496) := w1.2
      simp (disch := (first | assumption | exact xnl_i _ | exact xnl_r _ | exact xnl_n | exact Bool.toNat_lt _ | exact hb _ | exact hb2 _ | omega | exact Nat.le_of_ble_eq_true rfl | rfl | decide)) only [pX4_restore_0, pX4_restore_1, pX4_restore_4, pX4_restore_7, pX4_restore_9, pX4_restore_10, pX4_restore_11, pX4_restore_14, pX4_restore_15, pX4_restore_16, pX4_restore_19, pX4_restore_21, pX4_restore_22, pX4_restore_23, pX4_restore_26, pX4_restore_27, pX4_restore_30, pX4_restore_33, pX4_restore_34, pX4_restore_37, pX4_restore_38, pX4_restore_41, pX4_restore_42, pX4_restore_43, pX4_restore_46, pX4_restore_47, pX4_restore_50, pX4_restore_53, nI_add, pk_mul, xn_sub, xn_and, xn_or, xn_xor, xn_shl, xn_shr, xn_lt, xn_le, xn_eq, xrf_some, xup_eq, xup_ne, xrow_eq, xrow_ne, Option.toList_some, Option.toList_none, List.singleton_append, List.nil_append, List.cons_append, xnl_n, xnl_i, xnl_r, Nat.zero_add, Nat.add_zero, ↓reduceIte, Nat.reduceEqDiff, Nat.reduceLeDiff, Nat.reduceAdd, Nat.reduceMul, Nat.reduceLT, Nat.one_ne_zero, eq_self, not_true_eq_false, not_false_eq_true, and_self, k_isSave, hcc, tk0, tr0, tr1, tr2, tr3, tr4, tr5, mk0, mr0, mr1, mr2, hsd, hrec, srd, w3, h3]
      exact hQ _ (cRep_now hRW w2 w1) (tOut_t (tOut_rec hoW) (tOut_k w2 (by omega) (by omega)))
    | false =>
      rw [if_neg (by rw [his]; decide)] at hQ
      rw [his] at hsd
      have hsd : V (x + 356) d = nI 0 := hsd
      simp (disch := (first | assumption | exact xnl_i _ | exact xnl_r _ | exact xnl_n | exact Bool.toNat_lt _ | exact hb _ | exact hb2 _ | omega | exact Nat.le_of_ble_eq_true rfl | rfl | decide)) only [pX4_restore_0, pX4_restore_1, pX4_restore_4, pX4_restore_7, pX4_restore_9, pX4_restore_10, pX4_restore_11, pX4_restore_14, pX4_restore_15, pX4_restore_16, pX4_restore_19, pX4_restore_21, nI_add, pk_mul, xn_sub, xn_and, xn_or, xn_xor, xn_shl, xn_shr, xn_lt, xn_le, xn_eq, xrf_some, xup_eq, xup_ne, xrow_eq, xrow_ne, Option.toList_some, Option.toList_none, List.singleton_append, List.nil_append, List.cons_append, xnl_n, xnl_i, xnl_r, Nat.zero_add, Nat.add_zero, ↓reduceIte, Nat.reduceEqDiff, Nat.reduceLeDiff, Nat.reduceAdd, Nat.reduceMul, Nat.reduceLT, Nat.one_ne_zero, eq_self, not_true_eq_false, not_false_eq_true, and_self, k_isSave, hcc, tk0, tr0, tr1, tr2, tr3, tr4, tr5, mk0, mr0, mr1, mr2, hsd]
      exact hQ _ hR tOut_r
  · rw [if_neg hn] at hQ
    simp (disch := (first | assumption | exact xnl_i _ | exact xnl_r _ | exact xnl_n | exact Bool.toNat_lt _ | exact hb _ | exact hb2 _ | omega | exact Nat.le_of_ble_eq_true rfl | rfl | decide)) only [pX4_restore_0, pX4_restore_1, pX4_restore_4, pX4_restore_7, pX4_restore_9, nI_add, pk_mul, xn_sub, xn_and, xn_or, xn_xor, xn_shl, xn_shr, xn_lt, xn_le, xn_eq, xrf_some, xup_eq, xup_ne, xrow_eq, xrow_ne, Option.toList_some, Option.toList_none, List.singleton_append, List.nil_append, List.cons_append, xnl_n, xnl_i, xnl_r, Nat.zero_add, Nat.add_zero, ↓reduceIte, Nat.reduceEqDiff, Nat.reduceLeDiff, Nat.reduceAdd, Nat.reduceMul, Nat.reduceLT, Nat.one_ne_zero, eq_self, not_true_eq_false, not_false_eq_true, and_self, k_isSave, hn]
    exact hQ _ hR tOut_r
theorem k_tryNow (hR : cRep S V x g) (hG : gG g) : ∃ V', cRep S V' x g ∧ kM V' (x + 45) (gσ g) ∧ kOut V V' (x + 45) ∧ ∀ Q : Option Value → xSh → xV → Prop, xC E mX4_tryNow [.ref x] S V Q ↔ Q (some (.ref (x + 45))) S V' := by
  have hT := hR.1; obtain ⟨tk0, tr0, tr1, tr2, tr3, tr4, tr5, tnow, ttry, hk0, hr0, hk1, hn1, hms, sk0, sn0, sms, ik0, in0, pk0, pr0, pr2, pr3, qk1, qn1, qk2, qn2, qk3, qn3⟩ := hT; have hKn := tnow; obtain ⟨mk0, mr0, mr1, mr2, mk1, mn1, mk2, mn2, mk3, mn3, mcs⟩ := hKn; have hw := gs_wf hG.1; have hb := wf_b hw; have hN := hR.2.1; have tnow0 := tnow.1
  have ttry0 := ttry.1
  obtain ⟨W, w1, w2, w3⟩ := k_copyM (E := E) ttry tnow hN hG.1 (by omega)
  refine ⟨W, cRep_try hR w2, w1, w2, fun Q => ?_⟩
  show xX E mX4_tryNow 0 [some (.ref x)] [] S V Q ↔ _
  simp (disch := (first | assumption | exact xnl_i _ | exact xnl_r _ | exact xnl_n | exact Bool.toNat_lt _ | exact hb _ | exact hb2 _ | omega | exact Nat.le_of_ble_eq_true rfl | rfl | decide)) only [pX4_tryNow_0, pX4_tryNow_1, pX4_tryNow_4, pX4_tryNow_5, pX4_tryNow_8, pX4_tryNow_11, pX4_tryNow_12, pX4_tryNow_15, nI_add, pk_mul, xn_sub, xn_and, xn_or, xn_xor, xn_shl, xn_shr, xn_lt, xn_le, xn_eq, xrf_some, xup_eq, xup_ne, xrow_eq, xrow_ne, Option.toList_some, Option.toList_none, List.singleton_append, List.nil_append, List.cons_append, xnl_n, xnl_i, xnl_r, Nat.zero_add, Nat.add_zero, ↓reduceIte, Nat.reduceEqDiff, Nat.reduceLeDiff, Nat.reduceAdd, Nat.reduceMul, Nat.reduceLT, Nat.one_ne_zero, eq_self, not_true_eq_false, not_false_eq_true, and_self, tk0, tr0, tr1, tr2, tr3, tr4, tr5, w3]
theorem c_left (hR : cRep S V x g) (hG : gG g) (hQ : ∀ V', cRep S V' x (pleft g).2 → tOut V V' x → Q (some (.int (pleft g).1)) S V') : xC E mX4_slotsLeft [.ref x] S V Q := by
  have hT := hR.1; obtain ⟨tk0, tr0, tr1, tr2, tr3, tr4, tr5, tnow, ttry, hk0, hr0, hk1, hn1, hms, sk0, sn0, sms, ik0, in0, pk0, pr0, pr2, pr3, qk1, qn1, qk2, qn2, qk3, qn3⟩ := hT; have hKn := tnow; obtain ⟨mk0, mr0, mr1, mr2, mk1, mn1, mk2, mn2, mk3, mn3, mcs⟩ := hKn; have hw := gs_wf hG.1; have hb := wf_b hw; have hN := hR.2.1; have tnow0 := tnow.1
  have ttry0 := ttry.1
  obtain ⟨W, hRW, hW, hoW, htry⟩ := k_tryNow (E := E) hR hG
  obtain ⟨W2, p1, p2, p3⟩ := k_passUntil (E := E) (m := 255) ttry hW hG.1 (by decide)
  have hgk := (pslots_gs hG.1 (kcnt (gσ g) 255) (by have := kcnt_le (gσ g) 255; omega)).1
  have hdone := fun Q : Option Value → xSh → xV → Prop => k_areDone (E := E) (Q := Q) (m := 255) ttry p1.1 (gs_wf hgk) (by decide)
  have hq := hQ W2 (cRep_try hRW p2) (tOut_t (tOut_k hoW (by omega) (by omega)) (tOut_k p2 (by omega) (by omega)))
  unfold pleft at hq
  rw [kcnt_until hG.1 (Nat.le_refl _)] at hq
  show xX E mX4_slotsLeft 0 [some (.ref x), none] [] S V Q
  by_cases hd : pin (pslots (kcnt (gσ g) 255) (gσ g)) 0 &&& 255 = 255
  · rw [if_pos hd] at hq
    simp (disch := (first | assumption | exact xnl_i _ | exact xnl_r _ | exact xnl_n | exact Bool.toNat_lt _ | exact hb _ | exact hb2 _ | omega | exact Nat.le_of_ble_eq_true rfl | rfl | decide)) only [pX4_slotsLeft_0, pX4_slotsLeft_1, pX4_slotsLeft_4, pX4_slotsLeft_7, pX4_slotsLeft_10, pX4_slotsLeft_11, pX4_slotsLeft_12, pX4_slotsLeft_15, pX4_slotsLeft_18, pX4_slotsLeft_21, pX4_slotsLeft_24, pX4_slotsLeft_25, pX4_slotsLeft_28, pX4_slotsLeft_30, nI_add, pk_mul, xn_sub, xn_and, xn_or, xn_xor, xn_shl, xn_shr, xn_lt, xn_le, xn_eq, xrf_some, xup_eq, xup_ne, xrow_eq, xrow_ne, Option.toList_some, Option.toList_none, List.singleton_append, List.nil_append, List.cons_append, xnl_n, xnl_i, xnl_r, Nat.zero_add, Nat.add_zero, ↓reduceIte, Nat.reduceEqDiff, Nat.reduceLeDiff, Nat.reduceAdd, Nat.reduceMul, Nat.reduceLT, Nat.one_ne_zero, eq_self, not_true_eq_false, not_false_eq_true, and_self, tk0, tr0, tr1, tr2, tr3, tr4, tr5, htry, p3, hdone, hd, decide_true, Bool.toNat_true]
    exact hq
  · rw [if_neg hd] at hq
    simp (disch := (first | assumption | exact xnl_i _ | exact xnl_r _ | exact xnl_n | exact Bool.toNat_lt _ | exact hb _ | exact hb2 _ | omega | exact Nat.le_of_ble_eq_true rfl | rfl | decide)) only [pX4_slotsLeft_0, pX4_slotsLeft_1, pX4_slotsLeft_4, pX4_slotsLeft_7, pX4_slotsLeft_10, pX4_slotsLeft_11, pX4_slotsLeft_12, pX4_slotsLeft_15, pX4_slotsLeft_18, pX4_slotsLeft_21, pX4_slotsLeft_24, pX4_slotsLeft_25, pX4_slotsLeft_28, pX4_slotsLeft_30, nI_add, pk_mul, xn_sub, xn_and, xn_or, xn_xor, xn_shl, xn_shr, xn_lt, xn_le, xn_eq, xrf_some, xup_eq, xup_ne, xrow_eq, xrow_ne, Option.toList_some, Option.toList_none, List.singleton_append, List.nil_append, List.cons_append, xnl_n, xnl_i, xnl_r, Nat.zero_add, Nat.add_zero, ↓reduceIte, Nat.reduceEqDiff, Nat.reduceLeDiff, Nat.reduceAdd, Nat.reduceMul, Nat.reduceLT, Nat.one_ne_zero, eq_self, not_true_eq_false, not_false_eq_true, and_self, tk0, tr0, tr1, tr2, tr3, tr4, tr5, htry, p3, hdone, hd, decide_false, Bool.toNat_false]
    exact hq
end KCB

